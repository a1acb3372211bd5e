/-! the law's text: what the parser does, a row for each case -/
theorem no_ft {P : Prop} (h : false = true) : P := absurd h (by decide)
theorem sp_dig {c : Nat → Int} {p : Nat} (f op : Nat) (h : lw_dig (c p) = true) : lw_sp c (f + 1) 0 5 op p = (true, (lw_num c 4 p 0).1, [(0, (lw_num c 4 p 0).2)]) := by
  rw [lw_sp, if_pos (Nat.le_refl 5), if_pos h]
theorem sp_nam {c : Nat → Int} {p n : Nat} (f op : Nat) (h : lw_dig (c p) = false) (h2 : lw_nam (c p) = some n) : lw_sp c (f + 1) 0 5 op p = (true, p + 1, [(1, n)]) := by
  rw [lw_sp, if_pos (Nat.le_refl 5), if_neg (by rw [h]; decide), h2]
theorem sp_six {c : Nat → Int} {p : Nat} (f op : Nat) (h : lw_dig (c p) = false) (h2 : lw_nam (c p) = none) (h3 : 6 ≤ op) : lw_sp c (f + 1) 0 5 op p = (false, p, []) := by
  rw [lw_sp, if_pos (Nat.le_refl 5), if_neg (by rw [h]; decide), h2]
  show (if 6 ≤ op then (false, p, []) else _) = _
  rw [if_pos h3]
theorem sp_par {c : Nat → Int} {p : Nat} (f op : Nat) (h3 : ¬ 6 ≤ op) (h : c p = 40) : lw_sp c (f + 1) 0 5 op p = (match lw_sp c f 0 0 (op + 1) (p + 1) with
            | (true, p2, cd) => if c p2 = 41 then (true, p2 + 1, cd) else (false, p2, [])
            | (false, p2, _) => (false, p2, [])) := by
  rw [lw_sp, if_pos (Nat.le_refl 5), if_neg (by rw [h]; decide), show lw_nam (c p) = none by rw [h]; decide]
  show (if 6 ≤ op then (false, p, []) else if c p = 40 then _ else _) = _
  rw [if_neg h3, if_pos h]
  rfl
theorem sp_not {c : Nat → Int} {p : Nat} (f op : Nat) (h3 : ¬ 6 ≤ op) (h : c p = 33) : lw_sp c (f + 1) 0 5 op p = ((lw_sp c f 0 5 (op + 1) (p + 1)).1, (lw_sp c f 0 5 (op + 1) (p + 1)).2.1, (lw_sp c f 0 5 (op + 1) (p + 1)).2.2 ++ [(4, 0)]) := by
  rw [lw_sp, if_pos (Nat.le_refl 5), if_neg (by rw [h]; decide), show lw_nam (c p) = none by rw [h]; decide]
  show (if 6 ≤ op then (false, p, []) else if c p = 40 then _ else if c p = 33 then _ else _) = _
  rw [if_neg h3, if_neg (by rw [h]; decide), if_pos h]
theorem sp_neg {c : Nat → Int} {p : Nat} (f op : Nat) (h3 : ¬ 6 ≤ op) (h : c p = 45) : lw_sp c (f + 1) 0 5 op p = ((lw_sp c f 0 5 (op + 1) (p + 1)).1, (lw_sp c f 0 5 (op + 1) (p + 1)).2.1, (lw_sp c f 0 5 (op + 1) (p + 1)).2.2 ++ [(5, 0)]) := by
  rw [lw_sp, if_pos (Nat.le_refl 5), if_neg (by rw [h]; decide), show lw_nam (c p) = none by rw [h]; decide]
  show (if 6 ≤ op then (false, p, []) else if c p = 40 then _ else if c p = 33 then _ else if c p = 45 then _ else _) = _
  rw [if_neg h3, if_neg (by rw [h]; decide), if_neg (by rw [h]; decide), if_pos h]
theorem sp_bad {c : Nat → Int} {p : Nat} (f op : Nat) (h : lw_dig (c p) = false) (h2 : lw_nam (c p) = none) (h3 : ¬ 6 ≤ op) (h4 : ¬ c p = 40) (h5 : ¬ c p = 33) (h6 : ¬ c p = 45) : lw_sp c (f + 1) 0 5 op p = (false, p, []) := by
  rw [lw_sp, if_pos (Nat.le_refl 5), if_neg (by rw [h]; decide), h2]
  show (if 6 ≤ op then (false, p, []) else if c p = 40 then _ else if c p = 33 then _ else if c p = 45 then _ else _) = _
  rw [if_neg h3, if_neg h4, if_neg h5, if_neg h6]
theorem sp_lv0 {c : Nat → Int} {p p2 : Nat} {cd : List (Nat × Nat)} (f lv op : Nat) (h : lv < 5) (e : lw_sp c f 0 (lv + 1) op p = (false, p2, cd)) : lw_sp c (f + 1) 0 lv op p = (false, p2, []) := by
  rw [lw_sp, if_neg (by omega), e]
theorem sp_lv1 {c : Nat → Int} {p p2 : Nat} {cd : List (Nat × Nat)} (f lv op : Nat) (h : lv < 5) (e : lw_sp c f 0 (lv + 1) op p = (true, p2, cd)) : lw_sp c (f + 1) 0 lv op p = ((lw_sp c f 1 lv op p2).1, (lw_sp c f 1 lv op p2).2.1, cd ++ (lw_sp c f 1 lv op p2).2.2) := by
  rw [lw_sp, if_neg (by omega), e]
theorem sp_m0 {c : Nat → Int} {p : Nat} (f lv op : Nat) (h : lw_opr lv (c p) = none) : lw_sp c (f + 1) 1 lv op p = (true, p, []) := by
  rw [lw_sp, h]
theorem sp_m1 {c : Nat → Int} {p o p2 : Nat} {cd : List (Nat × Nat)} (f lv op : Nat) (h : lw_opr lv (c p) = some o) (e : lw_sp c f 0 (lv + 1) op (p + 1) = (false, p2, cd)) : lw_sp c (f + 1) 1 lv op p = (false, p2, []) := by
  rw [lw_sp, h]
  show (match lw_sp c f 0 (lv + 1) op (p + 1) with
      | (false, p2, _) => (false, p2, [])
      | (true, p2, cd) => _) = _
  rw [e]
theorem sp_m2 {c : Nat → Int} {p o p2 : Nat} {cd : List (Nat × Nat)} (f op : Nat) (h : lw_opr 2 (c p) = some o) (e : lw_sp c f 0 3 op (p + 1) = (true, p2, cd)) : lw_sp c (f + 1) 1 2 op p = (true, p2, cd ++ [(o, 0)]) := by
  rw [lw_sp, h]
  show (match lw_sp c f 0 3 op (p + 1) with
      | (false, p2, _) => (false, p2, [])
      | (true, p2, cd) => if 2 = 2 then (true, p2, cd ++ [(o, 0)]) else _) = _
  rw [e]
  rfl
theorem sp_m3 {c : Nat → Int} {p o p2 : Nat} {cd : List (Nat × Nat)} (f lv op : Nat) (hl : ¬ lv = 2) (h : lw_opr lv (c p) = some o) (e : lw_sp c f 0 (lv + 1) op (p + 1) = (true, p2, cd)) : lw_sp c (f + 1) 1 lv op p = ((lw_sp c f 1 lv op p2).1, (lw_sp c f 1 lv op p2).2.1, cd ++ (o, 0) :: (lw_sp c f 1 lv op p2).2.2) := by
  rw [lw_sp, h]
  show (match lw_sp c f 0 (lv + 1) op (p + 1) with
      | (false, p2, _) => (false, p2, [])
      | (true, p2, cd) => if lv = 2 then (true, p2, cd ++ [(o, 0)]) else
        match lw_sp c f 1 lv op p2 with
        | (ok, p3, cd2) => (ok, p3, cd ++ (o, 0) :: cd2)) = _
  rw [e]
  show (if lv = 2 then _ else _) = _
  rw [if_neg hl]
theorem lw_num_ok {c : Nat → Int} {L : Nat} (hc : ∀ q, 0 ≤ c q → q < L) : ∀ (k p v m : Nat), p ≤ L → v < m → p ≤ (lw_num c k p v).1 ∧ (lw_num c k p v).1 ≤ L ∧ (lw_num c k p v).2 < m * 10 ^ k
  | 0, p, v, m, hp, hv => ⟨Nat.le_refl p, hp, by show v < m * 1; omega⟩
  | k + 1, p, v, m, hp, hv => by
    unfold lw_num
    by_cases h : lw_dig (c p) = true
    · rw [if_pos h]
      unfold lw_dig at h
      rw [Bool.and_eq_true, decide_eq_true_eq, decide_eq_true_eq] at h
      have := lw_num_ok hc k (p + 1) (10 * v + (c p - 48).toNat) (10 * m) (by have := hc p (by omega); omega) (by omega)
      rw [Nat.pow_succ, Nat.mul_comm (10 ^ k) 10, ← Nat.mul_assoc, Nat.mul_comm m 10]
      exact ⟨by omega, this.2⟩
    · rw [if_neg h]
      refine ⟨Nat.le_refl p, hp, Nat.lt_of_lt_of_le hv ?_⟩
      exact Nat.le_mul_of_pos_right m (Nat.pow_pos (by omega))
theorem lw_num_prog {c : Nat → Int} {L : Nat} (hc : ∀ q, 0 ≤ c q → q < L) {p : Nat} (h : lw_dig (c p) = true) : p < (lw_num c 4 p 0).1 := by
  have hd := h
  unfold lw_dig at hd
  rw [Bool.and_eq_true, decide_eq_true_eq, decide_eq_true_eq] at hd
  show p < (if lw_dig (c p) = true then lw_num c 3 (p + 1) (10 * 0 + (c p - 48).toNat) else (p, 0)).1
  rw [if_pos h]
  have := (lw_num_ok hc 3 (p + 1) (10 * 0 + (c p - 48).toNat) 10 (by have := hc p (by omega); omega) (by omega)).1
  omega
theorem sp_ok {c : Nat → Int} {L : Nat} (hc : ∀ q, 0 ≤ c q → q < L) : ∀ (f m lv op p : Nat), m ≤ 1 → lv ≤ 5 → p ≤ L → p ≤ (lw_sp c f m lv op p).2.1 ∧ (lw_sp c f m lv op p).2.1 ≤ L ∧ ((lw_sp c f m lv op p).1 = true → (m = 0 → p < (lw_sp c f m lv op p).2.1) ∧ p + (lw_sp c f m lv op p).2.2.length ≤ (lw_sp c f m lv op p).2.1)
  | 0, m, lv, op, p, _, _, hp => by
    have : lw_sp c 0 m lv op p = (false, p, []) := by rw [lw_sp]
    rw [this]
    exact ⟨Nat.le_refl p, hp, fun h => no_ft h⟩
  | f + 1, 0, lv, op, p, _, hl, hp => by
    by_cases h5 : lv < 5
    · rcases e : lw_sp c f 0 (lv + 1) op p with ⟨ok, p2, cd⟩
      have i1 := sp_ok hc f 0 (lv + 1) op p (by omega) (by omega) hp
      rw [e] at i1
      cases ok
      · rw [sp_lv0 f lv op h5 e]
        exact ⟨i1.1, i1.2.1, fun h => no_ft h⟩
      · rw [sp_lv1 f lv op h5 e]
        have i1a : p < p2 := (i1.2.2 rfl).1 rfl
        have i1b : p + cd.length ≤ p2 := (i1.2.2 rfl).2
        have i1c : p2 ≤ L := i1.2.1
        have i2 := sp_ok hc f 1 lv op p2 (by omega) hl i1c
        refine ⟨by show p ≤ (lw_sp c f 1 lv op p2).2.1; omega, i2.2.1, fun h => ?_⟩
        have i3 := (i2.2.2 h).2
        show (0 = 0 → p < (lw_sp c f 1 lv op p2).2.1) ∧ p + (cd ++ (lw_sp c f 1 lv op p2).2.2).length ≤ (lw_sp c f 1 lv op p2).2.1
        rw [List.length_append]
        omega
    · have h5 : lv = 5 := by omega
      subst h5
      cases hd : lw_dig (c p) with
      | true =>
        rw [sp_dig f op hd]
        have := lw_num_prog hc hd
        have h2 := lw_num_ok hc 4 p 0 1 hp (by omega)
        exact ⟨h2.1, h2.2.1, fun _ => ⟨fun _ => this, by show p + 1 ≤ (lw_num c 4 p 0).1; omega⟩⟩
      | false =>
        cases hn : lw_nam (c p) with
        | some n =>
          rw [sp_nam f op hd hn]
          have h0 : 0 ≤ c p := by
            unfold lw_nam at hn
            repeat' split at hn
            all_goals first | omega | exact absurd hn (by simp)
          have := hc p h0
          exact ⟨by show p ≤ p + 1; omega, by show p + 1 ≤ L; omega, fun _ => ⟨fun _ => by show p < p + 1; omega, Nat.le_refl _⟩⟩
        | none =>
          by_cases h6 : 6 ≤ op
          · rw [sp_six f op hd hn h6]
            exact ⟨Nat.le_refl p, hp, fun h => no_ft h⟩
          · by_cases c1 : c p = 40
            · rw [sp_par f op h6 c1]
              have hpL := hc p (by omega)
              rcases e : lw_sp c f 0 0 (op + 1) (p + 1) with ⟨ok, p2, cd⟩
              have i1 := sp_ok hc f 0 0 (op + 1) (p + 1) (by omega) (by omega) hpL
              rw [e] at i1
              have i1a : p + 1 ≤ p2 := i1.1
              have i1b : p2 ≤ L := i1.2.1
              cases ok
              · exact ⟨by show p ≤ p2; omega, i1b, fun h => no_ft h⟩
              · show p ≤ (if c p2 = 41 then (true, p2 + 1, cd) else (false, p2, [])).2.1 ∧ _
                have i1c : p + 1 + cd.length ≤ p2 := (i1.2.2 rfl).2
                by_cases c2 : c p2 = 41
                · simp only [if_pos c2]
                  have := hc p2 (by omega)
                  exact ⟨by show p ≤ p2 + 1; omega, by show p2 + 1 ≤ L; omega, fun _ => ⟨fun _ => by show p < p2 + 1; omega, by show p + cd.length ≤ p2 + 1; omega⟩⟩
                · simp only [if_neg c2]
                  exact ⟨by show p ≤ p2; omega, i1b, fun h => no_ft h⟩
            · by_cases c2 : c p = 33
              · rw [sp_not f op h6 c2]
                have hpL := hc p (by omega)
                have i1 := sp_ok hc f 0 5 (op + 1) (p + 1) (by omega) (by omega) hpL
                refine ⟨by show p ≤ (lw_sp c f 0 5 (op + 1) (p + 1)).2.1; omega, i1.2.1, fun h => ?_⟩
                have i2 := i1.2.2 h
                show (0 = 0 → p < (lw_sp c f 0 5 (op + 1) (p + 1)).2.1) ∧ p + ((lw_sp c f 0 5 (op + 1) (p + 1)).2.2 ++ [(4, 0)]).length ≤ (lw_sp c f 0 5 (op + 1) (p + 1)).2.1
                rw [List.length_append]
                show _ ∧ p + (_ + 1) ≤ _
                omega
              · by_cases c3 : c p = 45
                · rw [sp_neg f op h6 c3]
                  have hpL := hc p (by omega)
                  have i1 := sp_ok hc f 0 5 (op + 1) (p + 1) (by omega) (by omega) hpL
                  refine ⟨by show p ≤ (lw_sp c f 0 5 (op + 1) (p + 1)).2.1; omega, i1.2.1, fun h => ?_⟩
                  have i2 := i1.2.2 h
                  show (0 = 0 → p < (lw_sp c f 0 5 (op + 1) (p + 1)).2.1) ∧ p + ((lw_sp c f 0 5 (op + 1) (p + 1)).2.2 ++ [(5, 0)]).length ≤ (lw_sp c f 0 5 (op + 1) (p + 1)).2.1
                  rw [List.length_append]
                  show _ ∧ p + (_ + 1) ≤ _
                  omega
                · rw [sp_bad f op hd hn h6 c1 c2 c3]
                  exact ⟨Nat.le_refl p, hp, fun h => no_ft h⟩
  | f + 1, 1, lv, op, p, _, hl, hp => by
    cases ho : lw_opr lv (c p) with
    | none =>
      rw [sp_m0 f lv op ho]
      exact ⟨Nat.le_refl p, hp, fun _ => ⟨fun h => absurd h (by decide), Nat.le_refl p⟩⟩
    | some o =>
      obtain ⟨o1, o2, o3, o4⟩ := lw_opr_lt ho
      have hpL := hc p o4
      rcases e : lw_sp c f 0 (lv + 1) op (p + 1) with ⟨ok, p2, cd⟩
      have i1 := sp_ok hc f 0 (lv + 1) op (p + 1) (by omega) (by omega) hpL
      rw [e] at i1
      have i1a : p + 1 ≤ p2 := i1.1
      have i1b : p2 ≤ L := i1.2.1
      cases ok
      · rw [sp_m1 f lv op ho e]
        exact ⟨by show p ≤ p2; omega, i1b, fun h => no_ft h⟩
      · have i1c : p + 1 + cd.length ≤ p2 := (i1.2.2 rfl).2
        by_cases h2 : lv = 2
        · subst h2
          rw [sp_m2 f op ho e]
          refine ⟨by show p ≤ p2; omega, i1b, fun _ => ⟨fun h => absurd h (by decide), ?_⟩⟩
          show p + (cd ++ [(o, 0)]).length ≤ p2
          rw [List.length_append]
          show p + (_ + 1) ≤ _
          omega
        · rw [sp_m3 f lv op h2 ho e]
          have i2 := sp_ok hc f 1 lv op p2 (by omega) hl i1b
          refine ⟨by show p ≤ (lw_sp c f 1 lv op p2).2.1; omega, i2.2.1, fun h => ⟨fun h => absurd h (by decide), ?_⟩⟩
          have i3 := (i2.2.2 h).2
          show p + (cd ++ (o, 0) :: (lw_sp c f 1 lv op p2).2.2).length ≤ (lw_sp c f 1 lv op p2).2.1
          rw [List.length_append, List.length_cons]
          omega
  | f + 1, m + 2, lv, op, p, h, _, _ => absurd h (by omega)
