/-! the law's text: the class's reader does what the parser does -/
theorem bz : b2i false = 0 := rfl
theorem bnz : ¬ b2i true = 0 := by decide
theorem oI_s (n : Nat) : oI (some n) = nI n := rfl
theorem oI_n : oI none = -1 := rfl
theorem c10 : (10 : Int32).toInt = 10 := by decide
theorem c48 : (48 : Int32).toInt = 48 := by decide
theorem a11 : (1 : Int32) &&& 1 = b2i true := by decide
theorem a01 : (0 : Int32) &&& 1 = b2i false := by decide
theorem pW_inc (w : qW) (p d : Nat) (D : Nat → Int32) : q_sI (pW w p d D) 3 2 (q_I (pW w p d D) 3 2 + 1) = pW w (p + 1) d D := by
  rw [show q_I (pW w p d D) 3 2 = nI p from rfl, nI_1, pW_p]
theorem l_digit {v : Nat} {x : Int32} (hv : v < 1000) (h : lw_dig x.toInt = true) : (10 : Int32) * nI v + x - 48 = nI (10 * v + (x.toInt - 48).toNat) := by
  unfold lw_dig at h
  rw [Bool.and_eq_true, decide_eq_true_eq, decide_eq_true_eq] at h
  have t0 : (nI v).toInt = (v : Int) := nI_toInt (by omega)
  have m0 : ((10 : Int32) * nI v).toInt = 10 * (v : Int) := by rw [t_mul _ _ (by rw [c10, t0]; omega) (by rw [c10, t0]; omega), c10, t0]
  have m1 : ((10 : Int32) * nI v + x).toInt = 10 * (v : Int) + x.toInt := by rw [t_add _ _ (by rw [m0]; omega) (by rw [m0]; omega), m0]
  apply Int32.toInt_inj.mp
  rw [t_sub _ _ (by rw [m1, c48]; omega) (by rw [m1, c48]; omega), m1, c48, nI_toInt (by omega)]
  omega
theorem l_num {w : qW} {L : Nat} {c : Nat → Int} (h : pB w L) (hcd : lw_chr (q_A w 4) (L : Int) = c) (hcL : ∀ q, 0 ≤ c q → q < L) : ∀ (k F p v i d : Nat) (D : Nat → Int32), i + k = 4 → v < 10 ^ i → p ≤ L → d < 128 → k < F → f_X3_readNumber_R4 F (pW w p d D) (nI v) (nI i) = some ((), pW w (lw_num c k p v).1 (d + 1) (upd D d (lw_wd (0, (lw_num c k p v).2))))
  | 0, F + 1, p, v, i, d, D, h1, h2, h3, h4, _ => by
    have hi : i = 4 := by omega
    subst hi
    show f_X3_readNumber_B4 (f_X3_readNumber_R4 F) (pW w p d D) (nI v) (nI 4) = _
    unfold f_X3_readNumber_B4 f_X3_readNumber_B48
    rw [if_pos (by decide), l_write h p d D 0 (nI v) h4, z_cl, wd_num v (by omega)]
    rfl
  | k + 1, F + 1, p, v, i, d, D, h1, h2, h3, h4, h5 => by
    show f_X3_readNumber_B4 (f_X3_readNumber_R4 F) (pW w p d D) (nI v) (nI i) = _
    have hi : 10 ^ i ≤ 10 ^ 3 := Nat.pow_le_pow_right (by omega) (by omega)
    have hi : 10 ^ i ≤ 1000 := hi
    obtain ⟨x, hx, hc⟩ := l_next h p d D h3
    rw [hcd] at hc
    unfold f_X3_readNumber_B4
    rw [if_neg (by rw [z_le, c4, nI_toInt (by omega)]; omega), hx, z_cl, l_isDigit, z_cl]
    unfold lw_num
    cases hd : lw_dig (c p) with
    | true =>
      rw [if_pos rfl, hc, hd, if_neg bnz, hx, z_cl, z_bn, z_bn, z_bn, pW_inc, nI_1, l_digit (by omega) (by rw [hc]; exact hd), hc]
      have hd2 := hd
      unfold lw_dig at hd2
      rw [Bool.and_eq_true, decide_eq_true_eq, decide_eq_true_eq] at hd2
      exact l_num h hcd hcL k F (p + 1) _ (i + 1) d D (by omega) (by rw [Nat.pow_succ]; omega) (by have := hcL p (by omega); omega) h4 (by omega)
    | false =>
      unfold f_X3_readNumber_B48
      rw [if_neg (show ¬ false = true by decide), hc, hd, if_pos bz, l_write h p d D 0 (nI v) h4, z_cl, wd_num v (by omega)]
def cR (w : qW) (d : Nat) (D : Nat → Int32) (r : Bool × Nat × List (Nat × Nat)) (o : Option (Int32 × qW)) : Prop := ∃ (d2 : Nat) (D2 : Nat → Int32), d2 ≤ 128 ∧ o = some (b2i r.1, pW w r.2.1 d2 D2) ∧ (r.1 = true → d2 = d + r.2.2.length ∧ D2 = lw_wr D d r.2.2)
theorem cR_cat {w : qW} {d : Nat} {D : Nat → Int32} {cd : List (Nat × Nat)} {r : Bool × Nat × List (Nat × Nat)} {o : Option (Int32 × qW)} (h : cR w (d + cd.length) (lw_wr D d cd) r o) : cR w d D (r.1, r.2.1, cd ++ r.2.2) o := by
  obtain ⟨d2, D2, h1, h2, h3⟩ := h
  refine ⟨d2, D2, h1, h2, fun ht => ?_⟩
  obtain ⟨h4, h5⟩ := h3 ht
  refine ⟨?_, ?_⟩
  · show d2 = d + (cd ++ r.2.2).length
    rw [h4, List.length_append]
    omega
  · show D2 = lw_wr D d (cd ++ r.2.2)
    rw [h5, lw_wr_app]
theorem cR_bad {w : qW} {d d2 p : Nat} {D D2 : Nat → Int32} {cd : List (Nat × Nat)} (h : d2 ≤ 128) : cR w d D (false, p, cd) (some (b2i false, pW w p d2 D2)) := ⟨d2, D2, h, rfl, fun h => no_ft h⟩
theorem cR_un {w : qW} {L : Nat} (h : pB w L) {d p : Nat} {D : Nat → Int32} {r : Bool × Nat × List (Nat × Nat)} {o : Option (Int32 × qW)} (f1 : qW → Int32 → Int32 → Option (Int32 × qW)) (f2 : qW → Int32 → Option (Int32 × qW)) (k : Nat) (hk : k < 16) (hp : d + r.2.2.length < 128 ∨ r.1 = false) (hr : cR w d D r o) : cR w d D (r.1, r.2.1, r.2.2 ++ [(k, 0)]) (q_cl o (fun r7 w8 => f_X3_readOperand_B108 f1 f2 w8 r7 (nI k))) := by
  obtain ⟨d2, D2, h1, h2, h3⟩ := hr
  rw [h2, z_cl]
  unfold f_X3_readOperand_B108
  obtain ⟨ok, p2, cd⟩ := r
  cases ok
  · obtain ⟨d3, D3, g1, g2⟩ := l_write_any h p2 d2 D2 (nI k) 0 h1
    show cR w d D (false, p2, cd ++ [(k, 0)]) (q_cl (f_X3_write (pW w p2 d2 D2) (nI k) 0) _)
    rw [g2, z_cl, b2i_and]
    exact cR_bad g1
  · obtain ⟨h4, h5⟩ := h3 rfl
    have hp : d + cd.length < 128 := by rcases hp with hp | hp; exact hp; exact no_ft (Eq.symm hp)
    have h4 : d2 = d + cd.length := h4
    have h5 : D2 = lw_wr D d cd := h5
    show cR w d D (true, p2, cd ++ [(k, 0)]) (q_cl (f_X3_write (pW w p2 d2 D2) (nI k) 0) _)
    rw [l_write h p2 d2 D2 (nI k) 0 (by omega), z_cl, b2i_and, wd_op k hk]
    refine ⟨d2 + 1, _, by omega, rfl, fun _ => ⟨?_, ?_⟩⟩
    · show d2 + 1 = d + (cd ++ [(k, 0)]).length
      rw [List.length_append]
      show d2 + 1 = d + (cd.length + 1)
      omega
    · show upd D2 d2 (lw_wd (k, 0)) = lw_wr D d (cd ++ [(k, 0)])
      rw [lw_wr_app, h5, h4]
      rfl
theorem l_parse {w : qW} {L : Nat} {c : Nat → Int} (h : pB w L) (hcd : lw_chr (q_A w 4) (L : Int) = c) (hcL : ∀ q, 0 ≤ c q → q < L) : ∀ f : Nat,
    (∀ (op p d n : Nat) (D : Nat → Int32), op ≤ 6 → p ≤ L → d ≤ p → 8 * (L - p) + 1 ≤ f → 1 + 7 * (6 - op) ≤ n → cR w d D (lw_sp c f 0 5 op p) ((G_X3_readLevel n).2 (pW w p d D) (nI op)))
    ∧ (∀ (lv op p d n : Nat) (D : Nat → Int32), lv ≤ 5 → op ≤ 6 → p ≤ L → d ≤ p → 8 * (L - p) + 6 - lv ≤ f → 5 - lv + 2 + 7 * (6 - op) ≤ n → cR w d D (lw_sp c f 0 lv op p) ((G_X3_readLevel n).1 (pW w p d D) (nI lv) (nI op)))
    ∧ (∀ (lv op p d n F i : Nat) (most : Int32) (D : Nat → Int32), lv < 5 → op ≤ 6 → p ≤ L → d ≤ p → i < p → 8 * (L - p) + 7 ≤ f → 4 - lv + 2 + 7 * (6 - op) ≤ n → (lv = 2 → most = nI 1 ∧ i = 0) → (¬ lv = 2 → most = nI 120) → L + 2 ≤ F + i → cR w d D (lw_sp c f 1 lv op p) (f_X3_readLevel_R39 (G_X3_readLevel n).1 (G_X3_readLevel n).2 F (pW w p d D) (nI lv) (nI op) most (nI i)))
  | 0 => ⟨fun _ _ _ _ _ _ _ _ h _ => by omega, fun _ _ _ _ _ _ _ _ _ _ h _ => by omega, fun _ _ _ _ _ _ _ _ _ _ _ _ _ _ h _ => by omega⟩
  | f + 1 => by
    have hL := h.2.1
    obtain ⟨I1, I2, I3⟩ := l_parse h hcd hcL f
    have P1 : ∀ (op p d n : Nat) (D : Nat → Int32), op ≤ 6 → p ≤ L → d ≤ p → 8 * (L - p) + 1 ≤ f + 1 → 1 + 7 * (6 - op) ≤ n → cR w d D (lw_sp c (f + 1) 0 5 op p) ((G_X3_readLevel n).2 (pW w p d D) (nI op)) := by
      intro op p d n D ho hp hd hf hn
      obtain ⟨m, rfl⟩ : ∃ m, n = m + 1 := ⟨n - 1, by omega⟩
      show cR w d D _ (b_X3_readOperand (G_X3_readLevel m).1 (G_X3_readLevel m).2 (pW w p d D) (nI op))
      obtain ⟨x, hx, hc⟩ := l_next h p d D hp
      rw [hcd] at hc
      unfold b_X3_readOperand
      rw [hx, z_cl, l_isDigit, z_cl, hc]
      cases hdg : lw_dig (c p) with
      | true =>
        rw [if_neg bnz, sp_dig f op hdg]
        unfold f_X3_readNumber
        have := l_num h hcd hcL 4 q_fuel p 0 0 d D (by omega) (by omega) hp (by omega) (by rw [q_fuel_eq]; omega)
        rw [nI_0] at this
        rw [this, z_cl, a11]
        exact ⟨d + 1, _, by omega, rfl, fun _ => ⟨rfl, rfl⟩⟩
      | false =>
        rw [if_pos bz, l_nameOf, z_cl, hc]
        cases hnm : lw_nam (c p) with
        | some nn =>
          have hnn := lw_nam_lt hnm
          rw [oI_s, if_neg (show ¬ nI nn < 0 from nI_pos (by omega)), z_bn, pW_inc, sp_nam f op hdg hnm]
          show cR w d D _ (q_cl (f_X3_write (pW w (p + 1) d D) 1 (nI nn)) _)
          rw [l_write h (p + 1) d D 1 (nI nn) (by omega), z_cl, a11, wd_nam nn hnn]
          exact ⟨d + 1, _, by omega, rfl, fun _ => ⟨rfl, rfl⟩⟩
        | none =>
          rw [oI_n, if_pos (show (-1 : Int32) < 0 by decide)]
          by_cases h6 : 6 ≤ op
          · rw [if_pos (by rw [z_le, c6, nI_toInt (by omega)]; omega), sp_six f op hdg hnm h6, a01]
            exact cR_bad (by omega)
          · rw [if_neg (by rw [z_le, c6, nI_toInt (by omega)]; omega)]
            by_cases c1 : c p = 40
            · have x1 : x = 40 := by rw [z_eq, hc, c1]; decide
              rw [if_pos x1, sp_par f op h6 c1]
              unfold f_X3_readOperand_B71
              have hpL := hcL p (by omega)
              have i1 := I2 0 (op + 1) (p + 1) d m D (by omega) (by omega) (by omega) (by omega) (by omega) (by omega)
              have s1 := sp_ok hcL f 0 0 (op + 1) (p + 1) (by omega) (by omega) (by omega)
              rw [z_bn, pW_inc, if_pos x1, nI_1]
              obtain ⟨d2, D2, g1, g2, g3⟩ := i1
              rw [nI_0] at g2
              rw [g2, z_cl]
              rcases es : lw_sp c f 0 0 (op + 1) (p + 1) with ⟨ok, p2, cd⟩
              rw [es] at g3 s1
              cases ok
              · rw [if_pos bz, a01]
                exact cR_bad g1
              · have g4 := g3 rfl
                have g5 : p2 ≤ L := s1.2.1
                obtain ⟨y, hy, hyc⟩ := l_next h p2 d2 D2 g5
                rw [hcd] at hyc
                rw [if_neg bnz]
                show cR w d D (if c p2 = 41 then (true, p2 + 1, cd) else (false, p2, [])) (q_cl (f_X3_next (pW w p2 d2 D2)) _)
                rw [hy, z_cl]
                by_cases c2 : c p2 = 41
                · rw [if_pos c2, if_pos (by rw [z_eq, hyc, c2]; decide), z_bn, pW_inc, a11]
                  exact ⟨d2, D2, g1, rfl, fun _ => g4⟩
                · rw [if_neg c2, if_neg (by rw [z_eq, hyc, show (41 : Int32).toInt = 41 by decide]; exact c2), a01]
                  exact cR_bad g1
            · have x1 : ¬ x = 40 := by rw [z_eq, hc, show (40 : Int32).toInt = 40 by decide]; exact c1
              rw [if_neg x1]
              by_cases c2 : c p = 33
              · have x2 : x = 33 := by rw [z_eq, hc, c2]; decide
                rw [if_pos x2, sp_not f op h6 c2]
                unfold f_X3_readOperand_B71
                have hpL := hcL p (by omega)
                have i1 := I1 (op + 1) (p + 1) d m D (by omega) (by omega) (by omega) (by omega) (by omega)
                have s1 := sp_ok hcL f 0 5 (op + 1) (p + 1) (by omega) (by omega) (by omega)
                rw [z_bn, pW_inc, if_neg x1, nI_1]
                simp only [if_pos x2]
                refine cR_un (p := p) h (G_X3_readLevel m).1 (G_X3_readLevel m).2 4 (by omega) ?_ i1
                cases hb : (lw_sp c f 0 5 (op + 1) (p + 1)).1 with
                | true => left; have := s1.2.2 hb; omega
                | false => right; rfl
              · have x2 : ¬ x = 33 := by rw [z_eq, hc, show (33 : Int32).toInt = 33 by decide]; exact c2
                rw [if_neg x2]
                by_cases c3 : c p = 45
                · have x3 : x = 45 := by rw [z_eq, hc, c3]; decide
                  rw [if_pos x3, sp_neg f op h6 c3]
                  unfold f_X3_readOperand_B71
                  have hpL := hcL p (by omega)
                  have i1 := I1 (op + 1) (p + 1) d m D (by omega) (by omega) (by omega) (by omega) (by omega)
                  have s1 := sp_ok hcL f 0 5 (op + 1) (p + 1) (by omega) (by omega) (by omega)
                  rw [z_bn, pW_inc, if_neg x1, nI_1]
                  simp only [if_neg x2]
                  refine cR_un (p := p) h (G_X3_readLevel m).1 (G_X3_readLevel m).2 5 (by omega) ?_ i1
                  cases hb : (lw_sp c f 0 5 (op + 1) (p + 1)).1 with
                  | true => left; have := s1.2.2 hb; omega
                  | false => right; rfl
                · have x3 : ¬ x = 45 := by rw [z_eq, hc, show (45 : Int32).toInt = 45 by decide]; exact c3
                  rw [if_neg x3, sp_bad f op hdg hnm h6 c1 c2 c3, a01]
                  exact cR_bad (by omega)
    refine ⟨P1, ?_, ?_⟩
    · intro lv op p d n D hl ho hp hd hf hn
      obtain ⟨m, rfl⟩ : ∃ m, n = m + 1 := ⟨n - 1, by omega⟩
      show cR w d D _ (b_X3_readLevel (G_X3_readLevel m).1 (G_X3_readLevel m).2 (pW w p d D) (nI lv) (nI op))
      unfold b_X3_readLevel
      by_cases h5 : lv < 5
      · rw [if_pos (by rw [z_lt, c5, nI_toInt (by omega)]; omega), nI_1]
        have i1 := I2 (lv + 1) op p d m D (by omega) ho hp hd (by omega) (by omega)
        have s1 := sp_ok hcL f 0 (lv + 1) op p (by omega) (by omega) hp
        obtain ⟨d2, D2, g1, g2, g3⟩ := i1
        rw [g2, z_cl]
        rcases es : lw_sp c f 0 (lv + 1) op p with ⟨ok, p2, cd⟩
        rw [es] at g3 s1
        cases ok
        · rw [if_pos bz, sp_lv0 f lv op h5 es, a01]
          exact cR_bad g1
        · have s2 : p < p2 := (s1.2.2 rfl).1 rfl
          have s3 : p + cd.length ≤ p2 := (s1.2.2 rfl).2
          have s4 : p2 ≤ L := s1.2.1
          obtain ⟨g4, g5⟩ := g3 rfl
          have g4 : d2 = d + cd.length := g4
          have g5 : D2 = lw_wr D d cd := g5
          rw [if_neg bnz, sp_lv1 f lv op h5 es]
          apply cR_cat
          rw [← g4, ← g5]
          unfold f_X3_readLevel_B35
          by_cases h2 : lv = 2
          · rw [if_pos (by rw [h2]; rfl)]
            have := I3 lv op p2 d2 m q_fuel 0 1 D2 h5 ho s4 (by omega) (by omega) (by omega) (by omega) (fun _ => ⟨rfl, rfl⟩) (fun hh => absurd h2 hh) (by rw [q_fuel_eq]; omega)
            rw [nI_0] at this
            exact this
          · rw [if_neg (by rw [z_eq, c2, nI_toInt (by omega)]; omega)]
            have := I3 lv op p2 d2 m q_fuel 0 120 D2 h5 ho s4 (by omega) (by omega) (by omega) (by omega) (fun hh => absurd hh h2) (fun _ => rfl) (by rw [q_fuel_eq]; omega)
            rw [nI_0] at this
            exact this
      · have h5 : lv = 5 := by omega
        subst h5
        rw [if_neg (by decide)]
        obtain ⟨d2, D2, g1, g2, g3⟩ := P1 op p d m D ho hp hd (by omega) (by omega)
        rw [g2, z_cl, b2i_and]
        exact ⟨d2, D2, g1, rfl, g3⟩
    · intro lv op p d n F i most D hl ho hp hd hi hf hn hm1 hm2 hF
      obtain ⟨F, rfl⟩ : ∃ m, F = m + 1 := ⟨F - 1, by omega⟩
      show cR w d D _ (f_X3_readLevel_B39 (G_X3_readLevel n).1 (G_X3_readLevel n).2 (f_X3_readLevel_R39 (G_X3_readLevel n).1 (G_X3_readLevel n).2 F) (pW w p d D) (nI lv) (nI op) most (nI i))
      have hms : ¬ most ≤ nI i := by
        by_cases h2 : lv = 2
        · obtain ⟨e1, e2⟩ := hm1 h2
          rw [e1, e2]
          decide
        · rw [hm2 h2]
          exact nI_ge (by omega) (by omega)
      obtain ⟨x, hx, hc⟩ := l_next h p d D hp
      rw [hcd] at hc
      unfold f_X3_readLevel_B39
      rw [if_neg hms, hx, z_cl, l_operator _ _ lv hl, z_cl, hc]
      cases hop : lw_opr lv (c p) with
      | none =>
        rw [oI_n, if_neg (show ¬ (0 : Int32) ≤ -1 by decide), sp_m0 f lv op hop, a11]
        exact ⟨d, D, by omega, rfl, fun _ => ⟨rfl, rfl⟩⟩
      | some o =>
        obtain ⟨o1, o2, o3, o4⟩ := lw_opr_lt hop
        have hpL := hcL p o4
        rw [oI_s, if_pos (show (0 : Int32) ≤ nI o by rw [z_le, c0, nI_toInt (by omega)]; omega), z_bn, pW_inc, nI_1]
        have i1 := I2 (lv + 1) op (p + 1) d n D (by omega) ho (by omega) (by omega) (by omega) (by omega)
        have s1 := sp_ok hcL f 0 (lv + 1) op (p + 1) (by omega) (by omega) (by omega)
        obtain ⟨d2, D2, g1, g2, g3⟩ := i1
        rw [g2, z_cl]
        rcases es : lw_sp c f 0 (lv + 1) op (p + 1) with ⟨ok, p2, cd⟩
        rw [es] at g3 s1
        cases ok
        · rw [if_pos bz, sp_m1 f lv op hop es, a01]
          exact cR_bad g1
        · have s2 : p + 1 < p2 := (s1.2.2 rfl).1 rfl
          have s3 : p + 1 + cd.length ≤ p2 := (s1.2.2 rfl).2
          have s4 : p2 ≤ L := s1.2.1
          obtain ⟨g4, g5⟩ := g3 rfl
          have g4 : d2 = d + cd.length := g4
          have g5 : D2 = lw_wr D d cd := g5
          rw [if_neg bnz]
          show cR w d D _ (q_cl (f_X3_write (pW w p2 d2 D2) (nI o) 0) _)
          rw [l_write h p2 d2 D2 (nI o) 0 (by omega), z_cl, z_bn, nI_1, wd_op o o2]
          have w1 : upd D2 d2 (lw_wd (o, 0)) = lw_wr D d (cd ++ [(o, 0)]) := by
            rw [lw_wr_app, g5, g4]
            rfl
          have w2 : d2 + 1 = d + (cd ++ [(o, 0)]).length := by
            rw [List.length_append, g4]
            rfl
          rw [w1, w2]
          by_cases h2 : lv = 2
          · subst h2
            obtain ⟨e1, e2⟩ := hm1 rfl
            subst e2
            rw [sp_m2 f op hop es, e1]
            obtain ⟨F, rfl⟩ : ∃ m, F = m + 1 := ⟨F - 1, by omega⟩
            show cR w d D _ (f_X3_readLevel_B39 (G_X3_readLevel n).1 (G_X3_readLevel n).2 (f_X3_readLevel_R39 (G_X3_readLevel n).1 (G_X3_readLevel n).2 F) _ _ _ _ _)
            unfold f_X3_readLevel_B39
            rw [if_pos (by decide), a11]
            refine ⟨_, _, ?_, rfl, fun _ => ⟨rfl, rfl⟩⟩
            rw [← w2]
            omega
          · rw [sp_m3 f lv op h2 hop es]
            have := I3 lv op p2 (d + (cd ++ [(o, 0)]).length) n F (i + 1) most (lw_wr D d (cd ++ [(o, 0)])) hl ho s4 (by rw [← w2]; omega) (by omega) (by omega) hn (fun hh => absurd hh h2) hm2 (by omega)
            have := cR_cat this
            rw [List.append_assoc] at this
            exact this
