def hasP (men sit n what : Int32) : Prop := (0 ≤ what.toInt ∧ what.toInt < 8) ∧ 0 ≤ n.toInt ∧ n.toInt < (if what.toInt < 4 then men.toInt else if what.toInt < 7 then sit.toInt else 1)
def pIx (n what : Int32) : Nat := 8 * what.toInt.toNat + n.toInt.toNat
theorem p_has_t {w : qW} {n what : Int32} (h : hasP (q_I w 1 1) (q_I w 1 2) n what) : f_X4_has w n what = some (1, w) := by
  obtain ⟨⟨h1, h2⟩, h3, h4⟩ := h
  unfold f_X4_has f_X4_has_B43
  rw [if_neg (by rw [z_lt, c0]; omega), if_neg (by rw [z_le, c8]; omega), if_pos (by rw [z_le, c0]; exact h3)]
  by_cases k4 : what.toInt < 4
  · rw [if_pos k4] at h4
    rw [if_neg (by rw [z_le, c4]; omega), if_neg (by rw [z_le]; omega)]
    rfl
  · rw [if_neg k4] at h4
    rw [if_pos (by rw [z_le, c4]; omega)]
    by_cases k7 : what.toInt < 7
    · rw [if_pos k7] at h4
      rw [if_neg (by rw [z_le, c7]; omega), if_neg (by rw [z_le]; omega)]
      rfl
    · rw [if_neg k7] at h4
      rw [if_pos (by rw [z_le, c7]; omega), if_neg (by rw [z_le, c1]; omega)]
      rfl
theorem p_has_f {w : qW} {n what : Int32} (h : ¬ hasP (q_I w 1 1) (q_I w 1 2) n what) : f_X4_has w n what = some (0, w) := by
  unfold f_X4_has f_X4_has_B43
  by_cases g1 : what.toInt < 0
  · rw [if_pos (by rw [z_lt, c0]; exact g1)]; rfl
  · rw [if_neg (by rw [z_lt, c0]; exact g1)]
    by_cases g2 : 8 ≤ what.toInt
    · rw [if_pos (by rw [z_le, c8]; exact g2)]; rfl
    · rw [if_neg (by rw [z_le, c8]; exact g2)]
      by_cases g3 : 0 ≤ n.toInt
      · rw [if_pos (by rw [z_le, c0]; exact g3)]
        by_cases k4 : what.toInt < 4
        · rw [if_neg (by rw [z_le, c4]; omega), if_pos]
          · rfl
          · rw [z_le]
            refine Int.not_lt.mp fun q => h ⟨⟨by omega, by omega⟩, g3, ?_⟩
            rw [if_pos k4]; exact q
        · rw [if_pos (by rw [z_le, c4]; omega)]
          by_cases k7 : what.toInt < 7
          · rw [if_neg (by rw [z_le, c7]; omega), if_pos]
            · rfl
            · rw [z_le]
              refine Int.not_lt.mp fun q => h ⟨⟨by omega, by omega⟩, g3, ?_⟩
              rw [if_neg k4, if_pos k7]; exact q
          · rw [if_pos (by rw [z_le, c7]; omega), if_pos]
            · rfl
            · rw [z_le, c1]
              refine Int.not_lt.mp fun q => h ⟨⟨by omega, by omega⟩, g3, ?_⟩
              rw [if_neg k4, if_neg k7]; exact q
      · rw [if_neg (by rw [z_le, c0]; exact g3)]; rfl
/-- where a number lies -/
theorem pIx_spec {men sit n what : Int32} (hm : men.toInt ≤ 7) (hs : sit.toInt ≤ 8) (h : hasP men sit n what) : pIx n what < 57 ∧ jvI men sit (pIx n what) ∧ ((8 : Int32) * what + n).toInt = (pIx n what : Int) ∧ pIx n what / 8 = what.toInt.toNat ∧ n.toInt < 8 := by
  obtain ⟨⟨h1, h2⟩, h3, h4⟩ := h
  have hn : n.toInt < 8 ∧ (what.toInt = 7 → n.toInt = 0) := by
    by_cases k4 : what.toInt < 4
    · rw [if_pos k4] at h4; omega
    · rw [if_neg k4] at h4
      by_cases k7 : what.toInt < 7
      · rw [if_pos k7] at h4; omega
      · rw [if_neg k7] at h4; omega
  have e1 : ((8 : Int32) * what).toInt = 8 * what.toInt := by rw [t_mul _ _ (by rw [c8]; omega) (by rw [c8]; omega), c8]
  have e2 : ((8 : Int32) * what + n).toInt = 8 * what.toInt + n.toInt := by rw [t_add _ _ (by rw [e1]; omega) (by rw [e1]; omega), e1]
  have hmod : pIx n what % 8 = n.toInt.toNat := by unfold pIx; omega
  have hp : pIx n what = 8 * what.toInt.toNat + n.toInt.toNat := rfl
  refine ⟨by omega, ?_, by rw [e2, hp]; omega, by omega, hn.1⟩
  unfold jvI
  rw [hmod, hp]
  by_cases k4 : what.toInt < 4
  · rw [if_pos k4] at h4
    exact Or.inl ⟨by omega, by omega⟩
  · rw [if_neg k4] at h4
    by_cases k7 : what.toInt < 7
    · rw [if_pos k7] at h4
      exact Or.inr (Or.inl ⟨by omega, by omega, by omega⟩)
    · exact Or.inr (Or.inr (by omega))
theorem p_get_t {w : qW} {n what : Int32} (hm : (q_I w 1 1).toInt ≤ 7) (hs : (q_I w 1 2).toInt ≤ 8) (h : hasP (q_I w 1 1) (q_I w 1 2) n what) : f_X4_get w n what = some (q_A w 2 (pIx n what), w) := by
  obtain ⟨g1, g2, g3, -⟩ := pIx_spec hm hs h
  unfold f_X4_get
  rw [p_has_t h, z_cl, if_neg n1_0, z_ld _ _ _ _ (by rw [g3]; omega), g3]
  rfl
theorem p_set_t {w : qW} {n what v : Int32} (hm : (q_I w 1 1).toInt ≤ 7) (hs : (q_I w 1 2).toInt ≤ 8) (h : hasP (q_I w 1 1) (q_I w 1 2) n what) : f_X4_set w n what v = some ((), q_sA w 2 (upd (q_A w 2) (pIx n what) v)) := by
  obtain ⟨g1, g2, g3, -⟩ := pIx_spec hm hs h
  unfold f_X4_set
  rw [p_has_t h, z_cl, if_neg n1_0, z_st _ _ _ _ _ _ (by rw [g3]; omega), g3]
  rfl
theorem p_isMan (w : qW) (n : Int32) (h : 0 ≤ (q_I w 48 6).toInt ∧ (q_I w 48 6).toInt ≤ 50) : f_X11_isMan w (Int32.toInt64 n) = some (b2i (decide (0 ≤ n.toInt) && decide (n.toInt < (q_I w 48 6).toInt)), w) := by
  unfold f_X11_isMan
  rw [p_within32, z_cl, b2i_and, d0, Int32.toInt_toInt64, t_sub _ _ (by rw [c1]; omega) (by rw [c1]; omega), c1]
  have e : (decide (n.toInt ≤ (q_I w 48 6).toInt - 1)) = decide (n.toInt < (q_I w 48 6).toInt) := by
    by_cases h : n.toInt < (q_I w 48 6).toInt
    · rw [decide_eq_true h, decide_eq_true (show n.toInt ≤ (q_I w 48 6).toInt - 1 by omega)]
    · rw [decide_eq_false h, decide_eq_false (show ¬ n.toInt ≤ (q_I w 48 6).toInt - 1 by omega)]
  rw [e]
theorem p_isSitter (w : qW) (n : Int32) (h : 0 ≤ (q_I w 48 7).toInt ∧ (q_I w 48 7).toInt ≤ 50) : f_X11_isSitter w (Int32.toInt64 n) = some (b2i (decide (0 ≤ n.toInt) && decide (n.toInt < (q_I w 48 7).toInt)), w) := by
  unfold f_X11_isSitter
  rw [p_within32, z_cl, b2i_and, d0, Int32.toInt_toInt64, t_sub _ _ (by rw [c1]; omega) (by rw [c1]; omega), c1]
  have e : (decide (n.toInt ≤ (q_I w 48 7).toInt - 1)) = decide (n.toInt < (q_I w 48 7).toInt) := by
    by_cases h : n.toInt < (q_I w 48 7).toInt
    · rw [decide_eq_true h, decide_eq_true (show n.toInt ≤ (q_I w 48 7).toInt - 1 by omega)]
    · rw [decide_eq_false h, decide_eq_false (show ¬ n.toInt ≤ (q_I w 48 7).toInt - 1 by omega)]
  rw [e]
theorem d3 : (3 : Int64).toInt = 3 := by decide
theorem d6 : (6 : Int64).toInt = 6 := by decide
theorem c32 : (32 : Int32).toInt = 32 := by decide
theorem p_place_t {w : qW} {n what : Int32} (hm : 0 ≤ (q_I w 48 6).toInt ∧ (q_I w 48 6).toInt ≤ 7) (hs : 0 ≤ (q_I w 48 7).toInt ∧ (q_I w 48 7).toInt ≤ 8) (h : hasP (q_I w 48 6) (q_I w 48 7) n what) : f_X11_placeOf w n what = some (nI (pIx n what), w) := by
  obtain ⟨g1, g2, g3, g4, g5⟩ := pIx_spec hm.2 hs.2 h
  obtain ⟨⟨h1, h2⟩, h3, h4⟩ := h
  unfold f_X11_placeOf
  rw [p_within32, z_cl, d0, d3]
  have hr : (8 : Int32) * what + n = nI (pIx n what) := by rw [z_eq, g3, nI_toInt (by omega)]
  by_cases k4 : what.toInt < 4
  · rw [if_pos k4] at h4
    rw [decide_eq_true h1, decide_eq_true (show what.toInt ≤ 3 by omega), Bool.and_self, b2i_t, if_neg n1_0, p_isMan _ _ ⟨hm.1, by omega⟩, z_cl, decide_eq_true h3, decide_eq_true h4, Bool.and_self, b2i_t, if_neg n1_0, hr]
  · rw [if_neg k4] at h4
    rw [decide_eq_false (show ¬ what.toInt ≤ 3 by omega), Bool.and_false, b2i_f, if_pos rfl, p_within32, z_cl, d4, d6]
    by_cases k7 : what.toInt < 7
    · rw [if_pos k7] at h4
      rw [decide_eq_true (show 4 ≤ what.toInt by omega), decide_eq_true (show what.toInt ≤ 6 by omega), Bool.and_self, b2i_t, if_neg n1_0, p_isSitter _ _ ⟨hs.1, by omega⟩, z_cl, decide_eq_true h3, decide_eq_true h4, Bool.and_self, b2i_t, if_neg n1_0]
      congr 2
      have e1 : (what - 4).toInt = what.toInt - 4 := by rw [t_sub _ _ (by rw [c4]; omega) (by rw [c4]; omega), c4]
      have e2 : ((8 : Int32) * (what - 4)).toInt = 8 * (what.toInt - 4) := by rw [t_mul _ _ (by rw [c8, e1]; omega) (by rw [c8, e1]; omega), c8, e1]
      have e3 : ((32 : Int32) + (8 : Int32) * (what - 4)).toInt = 32 + 8 * (what.toInt - 4) := by rw [t_add _ _ (by rw [c32, e2]; omega) (by rw [c32, e2]; omega), c32, e2]
      rw [z_eq, t_add _ _ (by rw [e3]; omega) (by rw [e3]; omega), e3, nI_toInt (by omega)]
      unfold pIx
      omega
    · rw [if_neg k7] at h4
      rw [decide_eq_false (show ¬ what.toInt ≤ 6 by omega), Bool.and_false, b2i_f, if_pos rfl, if_pos (by rw [z_eq, c7]; omega), if_pos (by rw [z_eq, c0]; omega)]
      congr 2
      rw [z_eq, nI_toInt (by omega), show (56 : Int32).toInt = 56 by decide]
      unfold pIx
      omega
theorem p_place_f {w : qW} {n what : Int32} (hm : 0 ≤ (q_I w 48 6).toInt ∧ (q_I w 48 6).toInt ≤ 7) (hs : 0 ≤ (q_I w 48 7).toInt ∧ (q_I w 48 7).toInt ≤ 8) (h : ¬ hasP (q_I w 48 6) (q_I w 48 7) n what) : f_X11_placeOf w n what = some (-1, w) := by
  unfold f_X11_placeOf
  rw [p_within32, z_cl, d0, d3]
  by_cases k4 : 0 ≤ what.toInt ∧ what.toInt ≤ 3
  · rw [decide_eq_true k4.1, decide_eq_true k4.2, Bool.and_self, b2i_t, if_neg n1_0, p_isMan _ _ ⟨hm.1, by omega⟩, z_cl]
    have : (decide (0 ≤ n.toInt) && decide (n.toInt < (q_I w 48 6).toInt)) = false := by
      simp only [Bool.and_eq_false_iff, decide_eq_false_iff_not]
      by_cases q : 0 ≤ n.toInt
      · refine Or.inr fun q2 => h ⟨⟨k4.1, by omega⟩, q, ?_⟩
        rw [if_pos (by omega)]; exact q2
      · exact Or.inl q
    rw [this]; rfl
  · have : (decide (0 ≤ what.toInt) && decide (what.toInt ≤ 3)) = false := by simp; omega
    rw [this, b2i_f, if_pos rfl, p_within32, z_cl, d4, d6]
    by_cases k7 : 4 ≤ what.toInt ∧ what.toInt ≤ 6
    · rw [decide_eq_true k7.1, decide_eq_true k7.2, Bool.and_self, b2i_t, if_neg n1_0, p_isSitter _ _ ⟨hs.1, by omega⟩, z_cl]
      have : (decide (0 ≤ n.toInt) && decide (n.toInt < (q_I w 48 7).toInt)) = false := by
        simp only [Bool.and_eq_false_iff, decide_eq_false_iff_not]
        by_cases q : 0 ≤ n.toInt
        · refine Or.inr fun q2 => h ⟨⟨by omega, by omega⟩, q, ?_⟩
          rw [if_neg (by omega), if_pos (by omega)]; exact q2
        · exact Or.inl q
      rw [this]; rfl
    · have : (decide (4 ≤ what.toInt) && decide (what.toInt ≤ 6)) = false := by simp; omega
      rw [this, b2i_f, if_pos rfl]
      by_cases q7 : what.toInt = 7
      · rw [if_pos (by rw [z_eq, c7]; exact q7), if_neg]
        rw [z_eq, c0]
        intro q
        refine h ⟨⟨by omega, by omega⟩, by omega, ?_⟩
        rw [if_neg (by omega), if_neg (by omega)]; omega
      · rw [if_neg (by rw [z_eq, c7]; exact q7)]
theorem p_of : j_of := by
  intro n what w hJ
  show ∃ r w1 w2, f_X10_of w n what = some (r, w1) ∧ f_X11_of w1 n what = some (r, w2) ∧ Jn w2
  obtain ⟨h1, h2, h3, h4, h5⟩ := hJ.1
  by_cases h : hasP (q_I w 1 1) (q_I w 1 2) n what
  · obtain ⟨g1, g2, g3, g4, g5⟩ := pIx_spec h1.2 h2.2 h
    refine ⟨q_A w 2 (pIx n what), w, w, ?_, ?_, hJ⟩
    · unfold f_X10_of
      rw [p_has_t h, z_cl, if_neg n1_0, p_get_t h1.2 h2.2 h, z_cl]
    · unfold f_X11_of
      rw [p_place_t (by rw [h3]; exact h1) (by rw [h4]; exact h2) (by rw [h3, h4]; exact h), z_cl, if_neg (by rw [z_lt, c0, nI_toInt (by omega)]; omega), z_ld _ _ _ _ (by rw [nI_toInt (by omega)]; omega), nI_toInt (by omega), (h5 _ g2).1]
      rfl
  · refine ⟨-1, w, w, ?_, ?_, hJ⟩
    · unfold f_X10_of
      rw [p_has_f h]
      rfl
    · unfold f_X11_of
      rw [p_place_f (by rw [h3]; exact h1) (by rw [h4]; exact h2) (by rw [h3, h4]; exact h)]
      rfl
