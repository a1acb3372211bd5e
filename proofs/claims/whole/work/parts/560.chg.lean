/-! changes -/
theorem has_of {men sit : Int32} {n wh : Nat} (hn : n < 8) (hw : wh < 8) (h : jvI men sit (8 * wh + n)) : hasP men sit (nI n) (nI wh) ∧ pIx (nI n) (nI wh) = 8 * wh + n := by
  have e1 : (nI n).toInt = (n : Int) := nI_toInt (by omega)
  have e2 : (nI wh).toInt = (wh : Int) := nI_toInt (by omega)
  refine ⟨⟨by omega, by omega, ?_⟩, by unfold pIx; rw [e1, e2]; omega⟩
  rw [e1, e2]
  rcases h with ⟨h1, h2⟩ | ⟨h1, h2, h3⟩ | h
  · rw [if_pos (by omega)]; omega
  · rw [if_neg (by omega), if_pos (by omega)]; omega
  · rw [if_neg (by omega), if_neg (by omega)]; omega
theorem Jn_done {w : qW} {D : Int32} (hJ : Jn w) (h : 0 ≤ D.toInt ∧ D.toInt ≤ (q_I w 24 3).toInt) : Jn (q_sI (q_sI w 24 2 D) 48 5 D) := by
  obtain ⟨hP, ⟨h1, h2, h3, h4⟩, hD, hT, hS, hL, hR⟩ := hJ
  exact ⟨hP, ⟨⟨h.1, h.2, h1.2.2⟩, rfl, h3, h4⟩, hD, hT, hS, hL, hR⟩
theorem p_undo : j_undo := by
  intro w hJ
  show ∃ r w1 w2, f_X10_undo w = some (r, w1) ∧ f_X11_undo w1 = some (r, w2) ∧ Jn w2
  obtain ⟨p1, p2, p3, p4, p5⟩ := hJ.1
  obtain ⟨h1, h2, h3, h4⟩ := hJ.2.1
  by_cases h0 : 0 < (q_I w 24 2).toInt
  · obtain ⟨D, hD⟩ : ∃ D : Int32, D = q_I w 24 2 - 1 := ⟨_, rfl⟩
    have hDi : D.toInt = (q_I w 24 2).toInt - 1 := by rw [hD, t_sub _ _ (by rw [c1]; omega) (by rw [c1]; omega), c1]
    generalize hi : D.toInt.toNat = i
    obtain ⟨n, wh, g1, g2, g3, g4, g5, g6, g7, g8, g9, g10⟩ := h4 i (by omega)
    obtain ⟨k1, k2⟩ := has_of g1 g2 g5
    have hx : (D * 4).toInt = 4 * i := by rw [t_mul _ _ (by rw [c4]; omega) (by rw [c4]; omega), c4]; omega
    have hx1 : (D * 4 + 1).toInt = 4 * i + 1 := by rw [t_add _ _ (by rw [c1]; omega) (by rw [c1]; omega), c1, hx]
    have hx2 : (D * 4 + 2).toInt = 4 * i + 2 := by rw [t_add _ _ (by rw [c2]; omega) (by rw [c2]; omega), c2, hx]
    have hs := p_set_t (w := q_sI w 24 2 D) (v := q_A w 25 (4 * i + 2)) p1.2 p2.2 k1
    rw [k2] at hs
    have e1 : f_X10_undo w = some (D, q_sA (q_sI w 24 2 D) 2 (upd (q_A w 2) (8 * wh + n) (q_A w 25 (4 * i + 2)))) := by
      unfold f_X10_undo f_X1_takeBack
      rw [if_pos (by rw [z_lt, c0]; exact h0), z_bn, ← hD, z_bn]
      show q_cl (q_ld (q_A w 25) 160 (D * 4) fun v3 => q_ld (q_A w 25) 160 (D * 4 + 1) fun v4 => q_ld (q_A w 25) 160 (D * 4 + 2) fun v5 => q_cl (f_X4_set (q_sI w 24 2 D) v3 v4 v5) fun _ w7 => some (q_I w7 24 2, w7)) _ = _
      rw [z_ld _ _ _ _ (by rw [hx]; omega), z_ld _ _ _ _ (by rw [hx1]; omega), z_ld _ _ _ _ (by rw [hx2]; omega), hx, hx1, hx2]
      rw [show ((4 * (i : Int)).toNat) = 4 * i by omega, show ((4 * (i : Int) + 1).toNat) = 4 * i + 1 by omega, show ((4 * (i : Int) + 2).toNat) = 4 * i + 2 by omega, g3, g4]
      rw [show Int32.ofNat n = nI n from rfl, show Int32.ofNat wh = nI wh from rfl, hs]
      rfl
    have hj := Jn_done (D := D) (Jn_num (i := 8 * wh + n) (v := q_A w 25 (4 * i + 2)) hJ (by rw [show (8 * wh + n) / 8 = wh by omega]; exact g9)) (by show 0 ≤ D.toInt ∧ D.toInt ≤ (q_I w 24 3).toInt; omega)
    refine ⟨_, _, _, e1, ?_, hj⟩
    unfold f_X11_undo
    show (if q_I w 48 5 = 0 then _ else _) = _
    rw [h2, if_neg (by rw [z_eq, c0]; omega), z_bn]
    show q_ld (q_A w 50) 40 (q_I w 48 5 - 1) (fun v2 => q_ld (q_A w 51) 40 (q_I w 48 5 - 1) (fun v3 => q_st (q_sI (q_sA (q_sI w 24 2 D) 2 (upd (q_A w 2) (8 * wh + n) (q_A w 25 (4 * i + 2)))) 48 5 (q_I w 48 5 - 1)) 49 57 v2 v3 (fun w4 => some (q_I w4 48 5, w4)))) = _
    rw [h2, ← hD, z_ld _ _ _ _ (by omega), z_ld _ _ _ _ (by omega), hi, g6, g7]
    have hy : (nI (8 * wh + n)).toInt = ((8 * wh + n : Nat) : Int) := nI_toInt (by omega)
    have hb : 8 * wh + n < 57 := by
      have := (pIx_spec p1.2 p2.2 k1).1
      omega
    rw [show Int32.ofNat (8 * wh + n) = nI (8 * wh + n) from rfl, z_st _ _ _ _ _ _ (by rw [hy]; omega), hy]
    rfl
  · refine ⟨-5, w, w, ?_, ?_, hJ⟩
    · unfold f_X10_undo f_X1_takeBack
      rw [if_neg (by rw [z_lt, c0]; exact h0)]
      rfl
    · unfold f_X11_undo
      rw [h2, if_pos (by rw [z_eq, c0]; omega)]
theorem p_redo : j_redo := by
  intro w hJ
  show ∃ r w1 w2, f_X10_redo w = some (r, w1) ∧ f_X11_redo w1 = some (r, w2) ∧ Jn w2
  obtain ⟨p1, p2, p3, p4, p5⟩ := hJ.1
  obtain ⟨h1, h2, h3, h4⟩ := hJ.2.1
  by_cases h0 : (q_I w 24 2).toInt < (q_I w 24 3).toInt
  · obtain ⟨D, hD⟩ : ∃ D : Int32, D = q_I w 24 2 + 1 := ⟨_, rfl⟩
    have hDi : D.toInt = (q_I w 24 2).toInt + 1 := by rw [hD, t_add _ _ (by rw [c1]; omega) (by rw [c1]; omega), c1]
    generalize hi : (q_I w 24 2).toInt.toNat = i
    obtain ⟨n, wh, g1, g2, g3, g4, g5, g6, g7, g8, g9, g10⟩ := h4 i (by omega)
    obtain ⟨k1, k2⟩ := has_of g1 g2 g5
    have hx : (q_I w 24 2 * 4).toInt = 4 * i := by rw [t_mul _ _ (by rw [c4]; omega) (by rw [c4]; omega), c4]; omega
    have hx1 : (q_I w 24 2 * 4 + 1).toInt = 4 * i + 1 := by rw [t_add _ _ (by rw [c1]; omega) (by rw [c1]; omega), c1, hx]
    have hx2 : (q_I w 24 2 * 4 + 3).toInt = 4 * i + 3 := by rw [t_add _ _ (by rw [c3]; omega) (by rw [c3]; omega), c3, hx]
    have hs := p_set_t (w := w) (v := q_A w 25 (4 * i + 3)) p1.2 p2.2 k1
    rw [k2] at hs
    have e1 : f_X10_redo w = some (q_I w 24 3 - D, q_sI (q_sA w 2 (upd (q_A w 2) (8 * wh + n) (q_A w 25 (4 * i + 3)))) 24 2 D) := by
      unfold f_X10_redo f_X1_doAgain
      rw [if_pos (by rw [z_lt]; exact h0), z_bn, z_ld _ _ _ _ (by rw [hx]; omega), z_ld _ _ _ _ (by rw [hx1]; omega), z_ld _ _ _ _ (by rw [hx2]; omega), hx, hx1, hx2]
      rw [show ((4 * (i : Int)).toNat) = 4 * i by omega, show ((4 * (i : Int) + 1).toNat) = 4 * i + 1 by omega, show ((4 * (i : Int) + 3).toNat) = 4 * i + 3 by omega, g3, g4]
      rw [show Int32.ofNat n = nI n from rfl, show Int32.ofNat wh = nI wh from rfl, hs, hD]
      rfl
    have hj := Jn_done (D := D) (Jn_num (i := 8 * wh + n) (v := q_A w 25 (4 * i + 3)) hJ (by rw [show (8 * wh + n) / 8 = wh by omega]; exact g10)) (by show 0 ≤ D.toInt ∧ D.toInt ≤ (q_I w 24 3).toInt; omega)
    refine ⟨_, _, _, e1, ?_, hj⟩
    unfold f_X11_redo
    show (if q_I w 48 5 = q_I w 48 4 then _ else _) = _
    rw [h2, h3, if_neg (by rw [z_eq]; omega)]
    show q_ld (q_A w 50) 40 (q_I w 48 5) (fun v2 => q_ld (q_A w 52) 40 (q_I w 48 5) (fun v3 => q_st (q_sI (q_sA w 2 (upd (q_A w 2) (8 * wh + n) (q_A w 25 (4 * i + 3)))) 24 2 D) 49 57 v2 v3 (fun w3 => q_bn (q_sI w3 48 5 ((q_I w3 48 5) + 1)) (fun w4 => some ((q_I w4 48 4) - (q_I w4 48 5), w4))))) = _
    rw [h2, z_ld _ _ _ _ (by omega), z_ld _ _ _ _ (by omega), hi, g6, g8]
    have hy : (nI (8 * wh + n)).toInt = ((8 * wh + n : Nat) : Int) := nI_toInt (by omega)
    have hb : 8 * wh + n < 57 := by
      have := (pIx_spec p1.2 p2.2 k1).1
      omega
    rw [show Int32.ofNat (8 * wh + n) = nI (8 * wh + n) from rfl, z_st _ _ _ _ _ _ (by rw [hy]; omega), hy]
    show some (q_I w 48 4 - (q_I w 48 5 + 1), q_sI (q_sA (q_sI (q_sA w 2 (upd (q_A w 2) (8 * wh + n) (q_A w 25 (4 * i + 3)))) 24 2 D) 49 (upd (q_A w 49) (8 * wh + n) (q_A w 25 (4 * i + 3)))) 48 5 (q_I w 48 5 + 1)) = _
    rw [h2, h3, ← hD]
    rfl
  · refine ⟨-5, w, w, ?_, ?_, hJ⟩
    · unfold f_X10_redo f_X1_doAgain
      rw [if_neg (by rw [z_lt]; exact h0)]
      rfl
    · unfold f_X11_redo
      rw [h2, h3, if_pos (by rw [z_eq]; omega)]
