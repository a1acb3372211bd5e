/-! the law's text: the model's parser, whole -/
def lw_W (nm : Nat → Int32) (cd : List (Nat × Nat)) (v : Int32) : Prop := ∀ (t : List (Nat × Nat)) (st : List Int32), lw_ex nm (cd ++ t) st = lw_ex nm t (v :: st)
def lw_W1 (nm : Nat → Int32) (x : Int32) (cd : List (Nat × Nat)) (v : Int32) : Prop := ∀ (t : List (Nat × Nat)) (st : List Int32), lw_ex nm (cd ++ t) (x :: st) = lw_ex nm t (v :: st)
theorem ex_bin (nm : Nat → Int32) (t : List (Nat × Nat)) (st : List Int32) (x y : Int32) (k : Nat) : ∀ o : Nat, 6 ≤ o → o < 16 → lw_ex nm ((o, k) :: t) (y :: x :: st) = lw_ex nm t (lw_bin o x y :: st)
  | 0, h, _ => absurd h (by omega)
  | 1, h, _ => absurd h (by omega)
  | 2, h, _ => absurd h (by omega)
  | 3, h, _ => absurd h (by omega)
  | 4, h, _ => absurd h (by omega)
  | 5, h, _ => absurd h (by omega)
  | 6, _, _ => rfl
  | 7, _, _ => rfl
  | 8, _, _ => rfl
  | 9, _, _ => rfl
  | 10, _, _ => rfl
  | 11, _, _ => rfl
  | 12, _, _ => rfl
  | 13, _, _ => rfl
  | 14, _, _ => rfl
  | 15, _, _ => rfl
  | o + 16, _, h => absurd h (by omega)
theorem W_val {nm : Nat → Int32} {cd : List (Nat × Nat)} {v : Int32} (h : lw_W nm cd v) : lw_val nm cd = v := by
  have := h [] []
  rw [List.append_nil] at this
  unfold lw_val
  rw [this]
  rfl
theorem W_un4 {nm : Nat → Int32} {cd : List (Nat × Nat)} {v : Int32} (h : lw_W nm cd v) : lw_W nm (cd ++ [(4, 0)]) (if v = 0 then 1 else 0) := by
  intro t st
  rw [List.append_assoc, h]
  rfl
theorem W_un5 {nm : Nat → Int32} {cd : List (Nat × Nat)} {v : Int32} (h : lw_W nm cd v) : lw_W nm (cd ++ [(5, 0)]) (-v) := by
  intro t st
  rw [List.append_assoc, h]
  rfl
theorem W_cat {nm : Nat → Int32} {cd cd2 : List (Nat × Nat)} {v u : Int32} (h : lw_W nm cd v) (h2 : lw_W1 nm v cd2 u) : lw_W nm (cd ++ cd2) u := by
  intro t st
  rw [List.append_assoc, h, h2]
theorem W_one {nm : Nat → Int32} {cd : List (Nat × Nat)} {o : Nat} {x r : Int32} (h6 : 6 ≤ o) (h16 : o < 16) (h : lw_W nm cd r) : lw_W1 nm x (cd ++ [(o, 0)]) (lw_bin o x r) := by
  intro t st
  rw [List.append_assoc, h]
  exact ex_bin nm t st x r 0 o h6 h16
theorem W_more {nm : Nat → Int32} {cd cd2 : List (Nat × Nat)} {o : Nat} {x r u : Int32} (h6 : 6 ≤ o) (h16 : o < 16) (h : lw_W nm cd r) (h2 : lw_W1 nm (lw_bin o x r) cd2 u) : lw_W1 nm x (cd ++ (o, 0) :: cd2) u := by
  intro t st
  rw [List.append_assoc, h]
  show lw_ex nm ((o, 0) :: (cd2 ++ t)) (r :: x :: st) = _
  rw [ex_bin nm _ st x r 0 o h6 h16, h2]
def mR (w : qW) (op : Nat) (P : List (Nat × Nat) → Int32 → Prop) (r : Bool × Nat × List (Nat × Nat)) (o : Option (Int32 × qW)) : Prop := ∃ (v op2 : Int32), o = some (v, vW w r.2.1 op2 (if r.1 = true then -1 else nI r.2.1)) ∧ (r.1 = true → op2 = nI op ∧ P r.2.2 v)
theorem mR_bad {w : qW} {op p : Nat} {P : List (Nat × Nat) → Int32 → Prop} {v op2 : Int32} {cd : List (Nat × Nat)} : mR w op P (false, p, cd) (some (v, vW w p op2 (nI p))) := ⟨v, op2, rfl, fun h => no_ft h⟩
theorem m_nameOf (w : qW) (x : Int32) : f_X11_nameOf w x = some (oI (lw_nam x.toInt), w) := l_nameOf w x
theorem m_num {w : qW} {L : Nat} {T : Nat → Int32} {c : Nat → Int} (h : vB w L T) (hcd : lw_chr T (L : Int) = c) (f1 f2 f3 f4 f5 f6 : qW → Option (Int32 × qW)) (op : Int32) : ∀ (k F p v i : Nat), i + k = 4 → (1 ≤ i ∨ lw_dig (c p) = true) → v < 10 ^ i → p ≤ L → k < F → f_X11_one_R176 f1 f2 f3 f4 f5 f6 F (vW w p op (-1)) (nI v) (nI i) = some (nI (lw_num c k p v).2, vW w (lw_num c k p v).1 op (-1))
  | 0, F + 1, p, v, i, h1, h2, h3, h4, _ => by
    have hi : i = 4 := by omega
    subst hi
    show f_X11_one_B176 f1 f2 f3 f4 f5 f6 _ (vW w p op (-1)) (nI v) (nI 4) = _
    unfold f_X11_one_B176 f_X11_one_B229
    rw [if_pos (by decide), if_neg (by decide)]
    rfl
  | k + 1, F + 1, p, v, i, h1, h2, h3, h4, h5 => by
    show f_X11_one_B176 f1 f2 f3 f4 f5 f6 (f_X11_one_R176 f1 f2 f3 f4 f5 f6 F) (vW w p op (-1)) (nI v) (nI i) = _
    have hi : 10 ^ i ≤ 10 ^ 3 := Nat.pow_le_pow_right (by omega) (by omega)
    have hi : 10 ^ i ≤ 1000 := hi
    obtain ⟨x, hx, hxc⟩ := v_byte h hcd h4 op (-1)
    have c57 : (57 : Int32).toInt = 57 := by decide
    unfold f_X11_one_B176 lw_num
    rw [if_neg (by rw [z_le, c4, nI_toInt (by omega)]; omega), hx, z_cl]
    cases hd : lw_dig (c p) with
    | true =>
      have hd2 := hd
      unfold lw_dig at hd2
      rw [Bool.and_eq_true, decide_eq_true_eq, decide_eq_true_eq] at hd2
      have ex : x.toInt = c p := by omega
      rw [if_pos rfl, if_neg (by rw [z_lt, c48]; omega), hx, z_cl, if_neg (by rw [z_lt, c57]; omega), hx, z_cl, z_bn, z_bn, z_bn, v_inc, nI_1, l_digit (by omega) (by rw [ex]; exact hd), ex]
      exact m_num h hcd f1 f2 f3 f4 f5 f6 op k F (p + 1) _ (i + 1) (by omega) (by omega) (by rw [Nat.pow_succ]; omega) (by omega) (by omega)
    | false =>
      have h2 : 1 ≤ i := by rcases h2 with h2 | h2; exact h2; rw [hd] at h2; exact absurd h2 (by decide)
      have i0 : ¬ nI i = 0 := by rw [z_eq, c0, nI_toInt (by omega)]; omega
      rw [if_neg (show ¬ false = true by decide)]
      unfold lw_dig at hd
      rw [Bool.and_eq_false_iff, decide_eq_false_iff_not, decide_eq_false_iff_not] at hd
      unfold f_X11_one_B229
      by_cases hq : x.toInt < 48
      · rw [if_pos (by rw [z_lt, c48]; exact hq), if_neg i0]
      · rw [if_neg (by rw [z_lt, c48]; exact hq), hx, z_cl, if_pos (by rw [z_lt, c57]; omega), if_neg i0]
theorem m_num0 {w : qW} {L : Nat} {T : Nat → Int32} {c : Nat → Int} (h : vB w L T) (hcd : lw_chr T (L : Int) = c) (f1 f2 f3 f4 f5 f6 : qW → Option (Int32 × qW)) (op : Int32) {p F : Nat} (hp : p ≤ L) (hd : lw_dig (c p) = false) : f_X11_one_R176 f1 f2 f3 f4 f5 f6 (F + 1) (vW w p op (-1)) 0 0 = some (0, vW w p op (nI p)) := by
  show f_X11_one_B176 f1 f2 f3 f4 f5 f6 _ (vW w p op (-1)) 0 0 = _
  obtain ⟨x, hx, hxc⟩ := v_byte h hcd hp op (-1)
  have c57 : (57 : Int32).toInt = 57 := by decide
  unfold lw_dig at hd
  rw [Bool.and_eq_false_iff, decide_eq_false_iff_not, decide_eq_false_iff_not] at hd
  unfold f_X11_one_B176 f_X11_one_B229
  rw [if_neg (by decide), hx, z_cl]
  by_cases hq : x.toInt < 48
  · rw [if_pos (by rw [z_lt, c48]; exact hq), if_pos rfl, v_wrong, z_cl]
  · rw [if_neg (by rw [z_lt, c48]; exact hq), hx, z_cl, if_pos (by rw [z_lt, c57]; omega), if_pos rfl, v_wrong, z_cl]
theorem m_un {w : qW} {op p : Nat} {nm : Nat → Int32} {r : Bool × Nat × List (Nat × Nat)} {o : Option (Int32 × qW)} (f1 f2 f3 f4 f5 f6 : qW → Option (Int32 × qW)) (l1 : Int32) (k : Nat) (hk : (l1 = 33 ∧ k = 4) ∨ (l1 = 45 ∧ k = 5)) (hr : mR w (op + 1) (lw_W nm) r o) : mR w op (lw_W nm) (r.1, r.2.1, r.2.2 ++ [(k, 0)]) (q_cl o (fun r3 w4 => f_X11_one_B83 f1 f2 f3 f4 f5 f6 w4 l1 r3)) := by
  obtain ⟨v, op2, e1, e2⟩ := hr
  rw [e1, z_cl]
  have n40 : ¬ l1 = 40 := by rcases hk with ⟨e, _⟩ | ⟨e, _⟩ <;> subst e <;> decide
  unfold f_X11_one_B83 f_X11_one_B104
  rw [if_neg n40, z_bn, vW_16, if_neg n40]
  have fin : ∀ u : Int32, (r.1 = true → lw_W nm (r.2.2 ++ [(k, 0)]) u) → mR w op (lw_W nm) (r.1, r.2.1, r.2.2 ++ [(k, 0)]) (some (u, vW w r.2.1 (q_I (vW w r.2.1 op2 (if r.1 = true then -1 else nI r.2.1)) 48 16 - 1) (if r.1 = true then -1 else nI r.2.1))) := by
    intro u hu
    refine ⟨u, _, rfl, fun ht => ⟨?_, hu ht⟩⟩
    show op2 - 1 = nI op
    rw [(e2 ht).1]
    exact nI_pred op
  rcases hk with ⟨e, e3⟩ | ⟨e, e3⟩
  · subst e; subst e3
    rw [if_neg (by decide)]
    have q := fin (if v = 0 then 1 else 0) (fun ht => W_un4 (e2 ht).2)
    by_cases hv : v = 0
    · rw [if_pos hv] at q ⊢; exact q
    · rw [if_neg hv] at q ⊢; exact q
  · subst e; subst e3
    rw [if_pos rfl]
    exact fin (-v) (fun ht => W_un5 (e2 ht).2)
theorem m_parse {w : qW} {L : Nat} {T : Nat → Int32} {c : Nat → Int} {nm : Nat → Int32} (h : vB w L T) (hcd : lw_chr T (L : Int) = c) (hcL : ∀ q, 0 ≤ c q → q < L) (hnm : q_A w 55 = nm) : ∀ f : Nat,
    (∀ (op p n : Nat), op ≤ 6 → p ≤ L → 8 * (L - p) + 1 ≤ f → 1 + 6 * (6 - op) ≤ n → mR w op (lw_W nm) (lw_sp c f 0 5 op p) (mG n 5 (vW w p (nI op) (-1))))
    ∧ (∀ (lv op p n : Nat), lv ≤ 5 → op ≤ 6 → p ≤ L → 8 * (L - p) + 6 - lv ≤ f → 5 - lv + 1 + 6 * (6 - op) ≤ n → mR w op (lw_W nm) (lw_sp c f 0 lv op p) (mG n lv (vW w p (nI op) (-1))))
    ∧ (∀ (lv op p n F : Nat) (x : Int32), lv < 5 → op ≤ 6 → p ≤ L → 8 * (L - p) + 7 ≤ f → 4 - lv + 1 + 6 * (6 - op) ≤ n → L + 2 ≤ F + p → mR w op (lw_W1 nm x) (lw_sp c f 1 lv op p) (mL n lv F (vW w p (nI op) (-1)) x))
  | 0 => ⟨fun _ _ _ _ _ h _ => by omega, fun _ _ _ _ _ _ _ h _ => by omega, fun _ _ _ _ _ _ _ _ _ h _ => by omega⟩
  | f + 1 => by
    have hL := h.2.1
    obtain ⟨I1, I2, I3⟩ := m_parse h hcd hcL hnm f
    have P1 : ∀ (op p n : Nat), op ≤ 6 → p ≤ L → 8 * (L - p) + 1 ≤ f + 1 → 1 + 6 * (6 - op) ≤ n → mR w op (lw_W nm) (lw_sp c (f + 1) 0 5 op p) (mG n 5 (vW w p (nI op) (-1))) := by
      intro op p n ho hp hf hn
      obtain ⟨m, rfl⟩ : ∃ m, n = m + 1 := ⟨n - 1, by omega⟩
      show mR w op (lw_W nm) _ (b_X11_one (G_X11_either m).1 (G_X11_either m).2.1 (G_X11_either m).2.2.1 (G_X11_either m).2.2.2.1 (G_X11_either m).2.2.2.2.1 (G_X11_either m).2.2.2.2.2 (vW w p (nI op) (-1)))
      obtain ⟨x, hx, hxc⟩ := v_byte h hcd hp (nI op) (-1)
      unfold b_X11_one
      rw [if_pos (show q_I (vW w p (nI op) (-1)) 48 15 < 0 from by show (-1 : Int32) < 0; decide), hx, z_cl]
      have six : 6 ≤ op → ∀ l1, f_X11_one_B32 (G_X11_either m).1 (G_X11_either m).2.1 (G_X11_either m).2.2.1 (G_X11_either m).2.2.2.1 (G_X11_either m).2.2.2.2.1 (G_X11_either m).2.2.2.2.2 (vW w p (nI op) (-1)) l1 = some (0, vW w p (nI op) (nI p)) := by
        intro h6 l1
        have : op = 6 := by omega
        subst this
        unfold f_X11_one_B32
        rw [if_pos (show q_I (vW w p (nI 6) (-1)) 48 16 = 6 from rfl), v_wrong, z_cl]
      have n6 : ¬ 6 ≤ op → ¬ q_I (vW w p (nI op) (-1)) 48 16 = 6 := by
        intro h6
        show ¬ nI op = 6
        rw [z_eq, c6, nI_toInt (by omega)]
        omega
      have up : q_sI (vW w p (nI op) (-1)) 48 16 (q_I (vW w p (nI op) (-1)) 48 16 + 1) = vW w p (nI (op + 1)) (-1) := by
        rw [show q_I (vW w p (nI op) (-1)) 48 16 = nI op from rfl, nI_1, vW_16]
      by_cases c1 : c p = 33
      · have x1 := z_is 33 hxc (by decide) (by decide) c1
        rw [if_pos x1]
        by_cases h6 : 6 ≤ op
        · rw [six h6, sp_six f op (by rw [c1]; decide) (by rw [c1]; decide) h6]
          exact mR_bad
        · rw [sp_not f op h6 c1]
          unfold f_X11_one_B32
          rw [if_neg (n6 h6), z_bn, up, z_bn, v_inc, if_neg (by rw [x1]; decide)]
          exact m_un (p := p) (G_X11_either m).1 (G_X11_either m).2.1 (G_X11_either m).2.2.1 (G_X11_either m).2.2.2.1 (G_X11_either m).2.2.2.2.1 (G_X11_either m).2.2.2.2.2 x 4 (Or.inl ⟨x1, rfl⟩) (I1 (op + 1) (p + 1) m (by omega) (by omega) (by omega) (by omega))
      · rw [if_neg (z_ne 33 hxc (by decide) (by decide) c1)]
        by_cases c2 : c p = 45
        · have x2 := z_is 45 hxc (by decide) (by decide) c2
          rw [if_pos x2]
          by_cases h6 : 6 ≤ op
          · rw [six h6, sp_six f op (by rw [c2]; decide) (by rw [c2]; decide) h6]
            exact mR_bad
          · rw [sp_neg f op h6 c2]
            unfold f_X11_one_B32
            rw [if_neg (n6 h6), z_bn, up, z_bn, v_inc, if_neg (by rw [x2]; decide)]
            exact m_un (p := p) (G_X11_either m).1 (G_X11_either m).2.1 (G_X11_either m).2.2.1 (G_X11_either m).2.2.2.1 (G_X11_either m).2.2.2.2.1 (G_X11_either m).2.2.2.2.2 x 5 (Or.inr ⟨x2, rfl⟩) (I1 (op + 1) (p + 1) m (by omega) (by omega) (by omega) (by omega))
        · rw [if_neg (z_ne 45 hxc (by decide) (by decide) c2)]
          by_cases c3 : c p = 40
          · have x3 := z_is 40 hxc (by decide) (by decide) c3
            rw [if_pos x3]
            by_cases h6 : 6 ≤ op
            · rw [six h6, sp_six f op (by rw [c3]; decide) (by rw [c3]; decide) h6]
              exact mR_bad
            · rw [sp_par f op h6 c3]
              unfold f_X11_one_B32
              have hpL : p < L := by omega
              rw [if_neg (n6 h6), z_bn, up, z_bn, v_inc, if_pos x3]
              obtain ⟨v, op2, e1, e2⟩ := I2 0 (op + 1) (p + 1) m (by omega) (by omega) (by omega) (by omega) (by omega)
              have s1 := sp_ok hcL f 0 0 (op + 1) (p + 1) (by omega) (by omega) (by omega)
              rw [show (G_X11_either m).1 (vW w (p + 1) (nI (op + 1)) (-1)) = _ from e1, z_cl]
              rcases es : lw_sp c f 0 0 (op + 1) (p + 1) with ⟨ok, p2, cd⟩
              rw [es] at e2 s1
              have s2 : p2 ≤ L := s1.2.1
              unfold f_X11_one_B83
              rw [if_pos x3]
              cases ok
              · show mR w op (lw_W nm) (false, p2, []) (q_cl (f_X11_takes (vW w p2 op2 (nI p2)) 41) _)
                rw [v_takes_f (by omega), z_cl, if_pos rfl, v_wrong_f (by omega), z_cl]
                exact mR_bad
              · obtain ⟨e3, e4⟩ := e2 rfl
                subst e3
                show mR w op (lw_W nm) (if c p2 = 41 then (true, p2 + 1, cd) else (false, p2, [])) (q_cl (f_X11_takes (vW w p2 (nI (op + 1)) (-1)) 41) _)
                by_cases c4 : c p2 = 41
                · rw [if_pos c4, v_takes_y h hcd s2 _ 41 (by decide) c4, z_cl, if_neg (by decide)]
                  unfold f_X11_one_B104
                  rw [z_bn, vW_16, if_pos x3]
                  refine ⟨v, _, rfl, fun _ => ⟨?_, e4⟩⟩
                  show nI (op + 1) - 1 = nI op
                  exact nI_pred op
                · rw [if_neg c4, v_takes_n h hcd s2 _ 41 (by decide) c4, z_cl, if_pos rfl, v_wrong, z_cl]
                  exact mR_bad
          · rw [if_neg (z_ne 40 hxc (by decide) (by decide) c3), m_nameOf, z_cl]
            have hnm2 : lw_nam x.toInt = lw_nam (c p) := by
              rcases hxc with ⟨e1, e2⟩ | ⟨_, e2⟩
              · rw [e1, e2]; decide
              · rw [e2]
            rw [hnm2]
            cases hna : lw_nam (c p) with
            | some nn =>
              have hnn := lw_nam_lt hna
              have hdg : lw_dig (c p) = false := by
                unfold lw_nam at hna
                unfold lw_dig
                rw [Bool.and_eq_false_iff, decide_eq_false_iff_not, decide_eq_false_iff_not]
                repeat' split at hna
                all_goals first | omega | exact absurd hna (by simp)
              rw [oI_s, if_neg (show ¬ nI nn < 0 from nI_pos (by omega)), z_bn, v_inc, sp_nam f op hdg hna, z_ld _ _ _ _ (by rw [nI_toInt (by omega)]; omega)]
              refine ⟨_, _, rfl, fun _ => ⟨rfl, ?_⟩⟩
              intro t st
              show lw_ex nm t (nm nn :: st) = lw_ex nm t (q_A (vW w (p + 1) (nI op) (-1)) 55 (nI nn).toInt.toNat :: st)
              rw [nI_toInt (by omega), show q_A (vW w (p + 1) (nI op) (-1)) 55 = nm from hnm]
              rfl
            | none =>
              rw [oI_n, if_pos (show (-1 : Int32) < 0 by decide)]
              cases hdg : lw_dig (c p) with
              | true =>
                have := m_num h hcd (G_X11_either m).1 (G_X11_either m).2.1 (G_X11_either m).2.2.1 (G_X11_either m).2.2.2.1 (G_X11_either m).2.2.2.2.1 (G_X11_either m).2.2.2.2.2 (nI op) 4 q_fuel p 0 0 (by omega) (Or.inr hdg) (by omega) hp (by rw [q_fuel_eq]; omega)
                rw [nI_0] at this
                rw [this, sp_dig f op hdg]
                exact ⟨_, _, rfl, fun _ => ⟨rfl, fun t st => rfl⟩⟩
              | false =>
                rw [q_fuel_eq, m_num0 h hcd (G_X11_either m).1 (G_X11_either m).2.1 (G_X11_either m).2.2.1 (G_X11_either m).2.2.2.1 (G_X11_either m).2.2.2.2.1 (G_X11_either m).2.2.2.2.2 (nI op) hp hdg]
                by_cases h6 : 6 ≤ op
                · rw [sp_six f op hdg hna h6]
                  exact mR_bad
                · rw [sp_bad f op hdg hna h6 c3 c1 c2]
                  exact mR_bad
    refine ⟨P1, ?_, ?_⟩
    · intro lv op p n hl ho hp hf hn
      by_cases h5 : lv < 5
      · obtain ⟨m, rfl⟩ : ∃ m, n = m + 1 := ⟨n - 1, by omega⟩
        rw [mG_step m _ lv h5]
        obtain ⟨v, op2, e1, e2⟩ := I2 (lv + 1) op p m (by omega) ho hp (by omega) (by omega)
        have s1 := sp_ok hcL f 0 (lv + 1) op p (by omega) (by omega) hp
        rw [e1, z_cl]
        rcases es : lw_sp c f 0 (lv + 1) op p with ⟨ok, p2, cd⟩
        rw [es] at e2 s1
        have s2 : p2 ≤ L := s1.2.1
        cases ok
        · rw [sp_lv0 f lv op h5 es]
          show mR w op (lw_W nm) (false, p2, []) (mL m lv q_fuel (vW w p2 op2 (nI p2)) v)
          rw [q_fuel_eq, mL_pass h hcd m 4095 s2 (by omega) op2 v lv h5]
          exact mR_bad
        · have s3 : p < p2 := (s1.2.2 rfl).1 rfl
          obtain ⟨e3, e4⟩ := e2 rfl
          subst e3
          rw [sp_lv1 f lv op h5 es]
          show mR w op (lw_W nm) _ (mL m lv q_fuel (vW w p2 (nI op) (-1)) v)
          obtain ⟨u, op3, k1, k2⟩ := I3 lv op p2 m q_fuel v h5 ho s2 (by omega) (by omega) (by rw [q_fuel_eq]; omega)
          exact ⟨u, op3, k1, fun ht => ⟨(k2 ht).1, W_cat e4 (k2 ht).2⟩⟩
      · have h5 : lv = 5 := by omega
        subst h5
        exact P1 op p n ho hp (by omega) (by omega)
    · intro lv op p n F x hl ho hp hf hn hF
      obtain ⟨F, rfl⟩ : ∃ m, F = m + 1 := ⟨F - 1, by omega⟩
      cases hop : lw_opr lv (c p) with
      | none =>
        rw [mL_none h hcd n F hp (nI op) x lv hl hop, sp_m0 f lv op hop]
        exact ⟨x, _, rfl, fun _ => ⟨rfl, fun t st => rfl⟩⟩
      | some o =>
        obtain ⟨o1, o2, o3, o4⟩ := lw_opr_lt hop
        have hpL := hcL p o4
        obtain ⟨v, op2, e1, e2⟩ := I2 (lv + 1) op (p + 1) n (by omega) ho (by omega) (by omega) (by omega)
        have s1 := sp_ok hcL f 0 (lv + 1) op (p + 1) (by omega) (by omega) (by omega)
        rw [mL_some h hcd n F hp (nI op) x v _ lv hl hop e1]
        rcases es : lw_sp c f 0 (lv + 1) op (p + 1) with ⟨ok, p2, cd⟩
        rw [es] at e2 s1
        have s2 : p2 ≤ L := s1.2.1
        cases ok
        · rw [sp_m1 f lv op hop es]
          show mR w op (lw_W1 nm x) (false, p2, []) (if lv = 2 then some (lw_bin o x v, vW w p2 op2 (nI p2)) else mL n lv F (vW w p2 op2 (nI p2)) (lw_bin o x v))
          by_cases h2 : lv = 2
          · rw [if_pos h2]; exact mR_bad
          · obtain ⟨F, rfl⟩ : ∃ m, F = m + 1 := ⟨F - 1, by omega⟩
            rw [if_neg h2, mL_pass h hcd n F s2 (by omega) op2 _ lv hl]
            exact mR_bad
        · have s3 : p + 1 < p2 := (s1.2.2 rfl).1 rfl
          obtain ⟨e3, e4⟩ := e2 rfl
          subst e3
          show mR w op (lw_W1 nm x) (lw_sp c (f + 1) 1 lv op p) (if lv = 2 then some (lw_bin o x v, vW w p2 (nI op) (-1)) else mL n lv F (vW w p2 (nI op) (-1)) (lw_bin o x v))
          by_cases h2 : lv = 2
          · subst h2
            rw [if_pos rfl, sp_m2 f op hop es]
            exact ⟨_, _, rfl, fun _ => ⟨rfl, W_one o1 o2 e4⟩⟩
          · rw [if_neg h2, sp_m3 f lv op h2 hop es]
            obtain ⟨u, op3, k1, k2⟩ := I3 lv op p2 n F (lw_bin o x v) hl ho s2 (by omega) (by omega) (by omega)
            exact ⟨u, op3, k1, fun ht => ⟨(k2 ht).1, W_more o1 o2 e4 (k2 ht).2⟩⟩
