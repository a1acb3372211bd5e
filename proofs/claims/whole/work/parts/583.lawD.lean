/-! the law's text: the class's lines, and what it learns -/
theorem upd_upd (f : Nat → Int32) (i : Nat) (a b : Int32) : upd (upd f i a) i b = upd f i b := by
  funext j
  unfold upd
  by_cases h : j = i
  · rw [if_pos h, if_pos h]
  · rw [if_neg h, if_neg h, if_neg h]
theorem upd_swap (f : Nat → Int32) {i j : Nat} (a b : Int32) (h : i ≠ j) : upd (upd f i a) j b = upd (upd f j b) i a := by
  funext k
  unfold upd
  by_cases h1 : k = i
  · rw [if_pos h1, if_neg (show ¬ k = j by omega), if_pos h1]
  · rw [if_neg h1, if_neg h1]
theorem lw_wr_upd : ∀ (l : List (Nat × Nat)) (D : Nat → Int32) (d j : Nat) (v : Int32), j < d → upd (lw_wr D d l) j v = lw_wr (upd D j v) d l
  | [], D, d, j, v, _ => rfl
  | q :: l, D, d, j, v, h => by
    show upd (lw_wr (upd D d (lw_wd q)) (d + 1) l) j v = lw_wr (upd (upd D j v) d (lw_wd q)) (d + 1) l
    rw [lw_wr_upd l _ _ _ _ (by omega), upd_swap _ _ _ (by omega)]
theorem lw_wr_patch (D : Nat → Int32) (d : Nat) (a b : List (Nat × Nat)) (x y : Nat × Nat) : upd (lw_wr D d (a ++ x :: b)) (d + a.length) (lw_wd y) = lw_wr D d (a ++ y :: b) := by
  rw [lw_wr_app, lw_wr_app]
  show upd (lw_wr (upd _ _ (lw_wd x)) (d + a.length + 1) b) (d + a.length) (lw_wd y) = lw_wr (upd _ _ (lw_wd y)) (d + a.length + 1) b
  rw [lw_wr_upd _ _ _ _ _ (by omega), upd_upd]
theorem pW_D {w : qW} {p d : Nat} {D E : Nat → Int32} : q_sA (pW w p d D) (q_R w 3 5) E = pW w p d E := by
  show q_sI (q_sI (q_sA (q_sA w (q_R w 3 5) D) (q_R w 3 5) E) 3 2 (nI p)) 3 6 (nI d) = _
  rw [sA_two]
  rfl
theorem enc_cons (n : Nat) (ln : lw_Ln) (t : List lw_Ln) : lw_enc n (ln :: t) = lw_enc n [ln] ++ lw_enc (n + (lw_enc n [ln]).length) t := by
  obtain ⟨o, cd⟩ := ln
  cases o with
  | none =>
    show cd ++ (2, 0) :: lw_enc (n + cd.length + 1) t = (cd ++ [(2, 0)]) ++ lw_enc (n + (cd ++ [(2, 0)]).length) t
    rw [List.length_append, List.append_assoc]
    rfl
  | some c =>
    show c ++ (3, n + c.length + cd.length + 2) :: (cd ++ (2, 0) :: lw_enc (n + c.length + cd.length + 2) t) = (c ++ (3, n + c.length + cd.length + 2) :: (cd ++ [(2, 0)])) ++ lw_enc (n + (c ++ (3, n + c.length + cd.length + 2) :: (cd ++ [(2, 0)])).length) t
    have e : (c ++ (3, n + c.length + cd.length + 2) :: (cd ++ [(2, 0)])).length = c.length + cd.length + 2 := by
      rw [List.length_append, List.length_cons, List.length_append]
      show c.length + (cd.length + 1 + 1) = _
      omega
    rw [e, List.append_assoc, List.cons_append, List.append_assoc, show n + (c.length + cd.length + 2) = n + c.length + cd.length + 2 by omega]
    rfl
theorem line_ok {c : Nat → Int} {L : Nat} (hc : ∀ q, 0 ≤ c q → q < L) {p : Nat} (hp : p ≤ L) : (lw_line c p).2.1 ≤ L ∧ p ≤ (lw_line c p).2.1 ∧ ((lw_line c p).1 = true → p < (lw_line c p).2.1) := by
  unfold lw_line
  have s1 := sp_ok hc lw_F 0 0 0 p (by omega) (by omega) hp
  rcases e : lw_sp c lw_F 0 0 0 p with ⟨ok, p2, cd⟩
  rw [e] at s1
  have s2 : p2 ≤ L := s1.2.1
  have s3 : p ≤ p2 := s1.1
  cases ok
  · exact ⟨s2, s3, fun h => no_ft h⟩
  · have s4 : p < p2 := (s1.2.2 rfl).1 rfl
    show (if c p2 = 63 then _ else (true, p2, (none, cd))).2.1 ≤ L ∧ _
    by_cases h : c p2 = 63
    · simp only [if_pos h]
      have hL := hc p2 (by omega)
      have t1 := sp_ok hc lw_F 0 0 0 (p2 + 1) (by omega) (by omega) (by omega)
      rcases e2 : lw_sp c lw_F 0 0 0 (p2 + 1) with ⟨ok2, p3, cd2⟩
      rw [e2] at t1
      have t2 : p3 ≤ L := t1.2.1
      have t3 : p2 + 1 ≤ p3 := t1.1
      cases ok2
      · exact ⟨t2, by show p ≤ p3; omega, fun h => no_ft h⟩
      · exact ⟨t2, by show p ≤ p3; omega, fun _ => by show p < p3; omega⟩
    · simp only [if_neg h]
      exact ⟨s2, s3, fun _ => s4⟩
theorem l_line {w : qW} {L : Nat} {c : Nat → Int} (h : pB w L) (hcd : lw_chr (q_A w 4) (L : Int) = c) (hcL : ∀ q, 0 ≤ c q → q < L) (p d : Nat) (D : Nat → Int32) (hp : p ≤ L) (hd : d ≤ p) : ∃ (d2 : Nat) (D2 : Nat → Int32), d2 ≤ 128 ∧ f_X3_readLine (pW w p d D) = some (b2i (lw_line c p).1, pW w (lw_line c p).2.1 d2 D2) ∧ ((lw_line c p).1 = true → d2 = d + (lw_enc d [(lw_line c p).2.2]).length ∧ D2 = lw_wr D d (lw_enc d [(lw_line c p).2.2]) ∧ d2 ≤ (lw_line c p).2.1 + 1) := by
  have hL := h.2.1
  obtain ⟨d2, D2, g1, g2, g3⟩ := (l_parse h hcd hcL lw_F).2.1 0 0 p d q_rfuel D (by omega) (by omega) hp hd (by show _ ≤ 2000; omega) (by show _ ≤ 100; omega)
  have s1 := sp_ok hcL lw_F 0 0 0 p (by omega) (by omega) hp
  unfold f_X3_readLine lw_line
  rw [show f_X3_readLevel (pW w p d D) 0 0 = _ from g2, z_cl]
  rcases e : lw_sp c lw_F 0 0 0 p with ⟨ok, p2, cd⟩
  rw [e] at s1 g3
  have s2 : p2 ≤ L := s1.2.1
  have s3 : p ≤ p2 := s1.1
  cases ok
  · rw [if_pos bz, a01]
    exact ⟨d2, D2, g1, rfl, fun h => no_ft h⟩
  · have s4 : p < p2 := (s1.2.2 rfl).1 rfl
    have s5 : p + cd.length ≤ p2 := (s1.2.2 rfl).2
    obtain ⟨g4, g5⟩ := g3 rfl
    have g4 : d2 = d + cd.length := g4
    have g5 : D2 = lw_wr D d cd := g5
    obtain ⟨x, hx, hxc⟩ := l_next h p2 d2 D2 s2
    rw [hcd] at hxc
    rw [if_neg bnz]
    show ∃ d2_1 D2_1, d2_1 ≤ 128 ∧ (q_cl (f_X3_next (pW w p2 d2 D2)) _) = some (b2i (if c p2 = 63 then _ else (true, p2, (none, cd))).1, _) ∧ _
    rw [hx, z_cl]
    by_cases hq : c p2 = 63
    · have hp2 := hcL p2 (by omega)
      rw [if_pos (by rw [z_eq, hxc, hq]; decide), z_bn, z_bn, pW_inc]
      simp only [if_pos hq]
      have i6 : q_I (pW w (p2 + 1) d2 D2) 3 6 = nI d2 := rfl
      rw [i6, l_write h (p2 + 1) d2 D2 3 0 (by omega), z_cl, show upd D2 d2 ((3 : Int32) ||| ((0 : Int32) <<< ((5 : Int32) &&& 31))) = upd D2 d2 (lw_wd (3, 0)) from by rw [← wd_op 3 (by omega)]; rfl]
      obtain ⟨d3, D3, k1, k2, k3⟩ := (l_parse h hcd hcL lw_F).2.1 0 0 (p2 + 1) (d2 + 1) q_rfuel (upd D2 d2 (lw_wd (3, 0))) (by omega) (by omega) (by omega) (by omega) (by show _ ≤ 2000; omega) (by show _ ≤ 100; omega)
      have t1 := sp_ok hcL lw_F 0 0 0 (p2 + 1) (by omega) (by omega) (by omega)
      rw [show f_X3_readLevel (pW w (p2 + 1) (d2 + 1) (upd D2 d2 (lw_wd (3, 0)))) 0 0 = _ from k2, z_cl]
      rcases e2 : lw_sp c lw_F 0 0 0 (p2 + 1) with ⟨ok2, p3, cd2⟩
      rw [e2] at t1 k3
      have t2 : p3 ≤ L := t1.2.1
      cases ok2
      · rw [if_pos bz, a01]
        exact ⟨d3, D3, k1, rfl, fun h => no_ft h⟩
      · have t4 : p2 + 1 < p3 := (t1.2.2 rfl).1 rfl
        have t5 : p2 + 1 + cd2.length ≤ p3 := (t1.2.2 rfl).2
        obtain ⟨k4, k5⟩ := k3 rfl
        have k4 : d3 = d2 + 1 + cd2.length := k4
        have k5 : D3 = lw_wr (upd D2 d2 (lw_wd (3, 0))) (d2 + 1) cd2 := k5
        rw [if_neg bnz]
        show ∃ d2_1 D2_1, d2_1 ≤ 128 ∧ (q_cl (f_X3_write (pW w p3 d3 D3) 2 0) _) = some (b2i true, pW w p3 d2_1 D2_1) ∧ (true = true → d2_1 = d + (lw_enc d [(some cd, cd2)]).length ∧ D2_1 = lw_wr D d (lw_enc d [(some cd, cd2)]) ∧ d2_1 ≤ p3 + 1)
        have w2 : upd D3 d3 ((2 : Int32) ||| ((0 : Int32) <<< ((5 : Int32) &&& 31))) = lw_wr D d (cd ++ (3, 0) :: (cd2 ++ [(2, 0)])) := by
          rw [show (2 : Int32) ||| ((0 : Int32) <<< ((5 : Int32) &&& 31)) = lw_wd (2, 0) from wd_op 2 (by omega), lw_wr_app, ← g5, ← g4]
          show _ = lw_wr (upd D2 d2 (lw_wd (3, 0))) (d2 + 1) (cd2 ++ [(2, 0)])
          rw [lw_wr_app, ← k5, ← k4]
          rfl
        rw [l_write h p3 d3 D3 2 0 (by omega), z_cl, w2]
        have r5 : ∀ E, q_R (pW w p3 (d3 + 1) E) 3 5 = q_R w 3 5 := fun _ => rfl
        have i7 : ∀ E, q_I (pW w p3 (d3 + 1) E) 3 6 = nI (d3 + 1) := fun _ => rfl
        have aD : ∀ E, q_A (pW w p3 (d3 + 1) E) (q_R w 3 5) = E := fun E => by
          show q_A (q_sA w (q_R w 3 5) E) (q_R w 3 5) = E
          rw [g_AA, if_pos rfl]
        have el : (lw_enc d [(some cd, cd2)]).length = cd.length + cd2.length + 2 := by
          show (cd ++ (3, d + cd.length + cd2.length + 2) :: (cd2 ++ [(2, 0)])).length = _
          rw [List.length_append, List.length_cons, List.length_append]
          show cd.length + (cd2.length + 1 + 1) = _
          omega
        rw [r5, q_rf_5 _ h.2.2, if_neg (by rw [z_le, nI_toInt (by omega), show (Int32.ofNat 128).toInt = 128 by decide]; omega), q_rf_5 _ h.2.2, z_st _ _ _ _ _ _ (by rw [nI_toInt (by omega)]; omega), i7, aD, nI_toInt (by omega), wd_skp (d3 + 1) (by omega), pW_D, a11, show ((d2 : Int)).toNat = d + cd.length by omega, lw_wr_patch]
        refine ⟨d3 + 1, _, by omega, rfl, fun _ => ⟨by rw [el]; omega, ?_, by omega⟩⟩
        show _ = lw_wr D d (cd ++ (3, d + cd.length + cd2.length + 2) :: (cd2 ++ [(2, 0)]))
        rw [show d3 + 1 = d + cd.length + cd2.length + 2 by omega]
    · rw [if_neg (by rw [z_eq, hxc, show (63 : Int32).toInt = 63 by decide]; exact hq)]
      simp only [if_neg hq]
      rw [l_write h p2 d2 D2 2 0 (by omega), z_cl, a11, show (2 : Int32) ||| ((0 : Int32) <<< ((5 : Int32) &&& 31)) = lw_wd (2, 0) from wd_op 2 (by omega)]
      have el : (lw_enc d [(none, cd)]).length = cd.length + 1 := by
        show (cd ++ [(2, 0)]).length = _
        rw [List.length_append]
        rfl
      refine ⟨d2 + 1, _, by omega, rfl, fun _ => ⟨by rw [el]; omega, ?_, by omega⟩⟩
      show upd D2 d2 (lw_wd (2, 0)) = lw_wr D d (cd ++ [(2, 0)])
      rw [lw_wr_app, ← g5, ← g4]
      rfl
theorem l_text {w : qW} {L : Nat} {c : Nat → Int} (h : pB w L) (hcd : lw_chr (q_A w 4) (L : Int) = c) (hcL : ∀ q, 0 ≤ c q → q < L) (hcN : ∀ q, c q = -1 ∨ 0 ≤ c q) : ∀ (f F p d i : Nat) (D : Nat → Int32), p ≤ L → d ≤ p → i ≤ p → L + 1 ≤ f + p → f ≤ F → ∃ (d2 : Nat) (D2 : Nat → Int32), d2 ≤ 128 ∧ f_X3_readText_R2 F (pW w p d D) (nI i) = some (b2i (lw_text c f p).1, pW w (lw_text c f p).2.1 d2 D2) ∧ (lw_text c f p).2.1 ≤ L ∧ ((lw_text c f p).1 = true → d2 = d + (lw_enc d (lw_text c f p).2.2).length ∧ D2 = lw_wr D d (lw_enc d (lw_text c f p).2.2))
  | 0, F, p, d, i, D, hp, hd, hi, hf, hF => by omega
  | f + 1, 0, p, d, i, D, hp, hd, hi, hf, hF => by omega
  | f + 1, F + 1, p, d, i, D, hp, hd, hi, hf, hF => by
    have hL := h.2.1
    show ∃ d2 D2, d2 ≤ 128 ∧ f_X3_readText_B2 (f_X3_readText_R2 F) (pW w p d D) (nI i) = _ ∧ _
    obtain ⟨d2, D2, g1, g2, g3⟩ := l_line h hcd hcL p d D hp hd
    have s1 := line_ok hcL hp
    unfold f_X3_readText_B2 lw_text
    rw [if_neg (by rw [z_lt, c120, nI_toInt (by omega)]; omega), g2, z_cl]
    rcases e : lw_line c p with ⟨ok, p2, ln⟩
    rw [e] at s1 g3
    have s2 : p2 ≤ L := s1.1
    cases ok
    · rw [if_pos bz, a01]
      exact ⟨d2, D2, g1, rfl, s2, fun h => no_ft h⟩
    · have s3 : p < p2 := s1.2.2 rfl
      obtain ⟨g4, g5, g6⟩ := g3 rfl
      have g4 : d2 = d + (lw_enc d [ln]).length := g4
      have g5 : D2 = lw_wr D d (lw_enc d [ln]) := g5
      have g6 : d2 ≤ p2 + 1 := g6
      obtain ⟨x, hx, hxc⟩ := l_next h p2 d2 D2 s2
      rw [hcd] at hxc
      rw [if_neg bnz]
      show ∃ d2_1 D2_1, d2_1 ≤ 128 ∧ (q_cl (f_X3_next (pW w p2 d2 D2)) _) = _ ∧ _
      rw [hx, z_cl]
      rcases hcN p2 with hq | hq
      · simp only [if_pos hq]
        rw [if_neg (by rw [z_le, c0, hxc, hq]; decide), a11]
        exact ⟨d2, D2, g1, rfl, s2, fun _ => ⟨g4, g5⟩⟩
      · have hq1 : ¬ c p2 = -1 := by omega
        simp only [if_neg hq1]
        rw [if_pos (by rw [z_le, c0, hxc]; exact hq)]
        have hp2 := hcL p2 hq
        by_cases h59 : c p2 = 59
        · simp only [if_pos h59]
          rw [if_pos (by rw [z_eq, hxc, h59]; decide), z_bn, pW_inc, z_bn, nI_1]
          obtain ⟨d3, D3, k1, k2, k3, k4⟩ := l_text h hcd hcL hcN f F (p2 + 1) d2 (i + 1) D2 (by omega) g6 (by omega) (by omega) (by omega)
          rw [k2]
          refine ⟨d3, D3, k1, rfl, k3, fun ht => ?_⟩
          obtain ⟨k5, k6⟩ := k4 ht
          show d3 = d + (lw_enc d (ln :: (lw_text c f (p2 + 1)).2.2)).length ∧ D3 = lw_wr D d (lw_enc d (ln :: (lw_text c f (p2 + 1)).2.2))
          rw [enc_cons, List.length_append, lw_wr_app, ← g4, ← g5]
          exact ⟨by omega, k6⟩
        · simp only [if_neg h59]
          rw [if_neg (by rw [z_eq, hxc, show (59 : Int32).toInt = 59 by decide]; exact h59), a01]
          exact ⟨d2, D2, g1, rfl, s2, fun h => no_ft h⟩
theorem lw_wr_lo : ∀ (l : List (Nat × Nat)) (D : Nat → Int32) (d j : Nat), j < d → lw_wr D d l j = D j
  | [], D, d, j, _ => rfl
  | q :: l, D, d, j, h => by
    show lw_wr (upd D d (lw_wd q)) (d + 1) l j = D j
    rw [lw_wr_lo l _ _ _ (by omega)]
    unfold upd
    rw [if_neg (by omega)]
theorem lw_wr_at : ∀ (l : List (Nat × Nat)) (D : Nat → Int32) (d i : Nat) (q : Nat × Nat), l[i]? = some q → lw_wr D d l (d + i) = lw_wd q
  | [], D, d, i, q, h => by simp at h
  | x :: l, D, d, 0, q, h => by
    have h : x = q := by simpa using h
    show lw_wr (upd D d (lw_wd x)) (d + 1) l (d + 0) = lw_wd q
    rw [lw_wr_lo l _ _ _ (by omega), h]
    unfold upd
    rw [if_pos (by omega)]
  | x :: l, D, d, i + 1, q, h => by
    have h : l[i]? = some q := by simpa using h
    show lw_wr (upd D d (lw_wd x)) (d + 1) l (d + (i + 1)) = lw_wd q
    rw [show d + (i + 1) = d + 1 + i by omega]
    exact lw_wr_at l _ _ _ _ h
