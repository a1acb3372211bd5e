theorem sG_self (w : qW) (o : Nat) : q_sG w o (q_G w o) = w := by
  have : (fun a => if a = o then q_G w o else w.2.2.2 a) = w.2.2.2 := by
    funext a
    by_cases h : a = o
    · rw [if_pos h, h]; rfl
    · rw [if_neg h]
  unfold q_sG
  rw [this]
theorem sA_self (w : qW) (o : Nat) : q_sA w o (q_A w o) = w := by
  have : (fun a => if a = o then q_A w o else w.2.2.1 a) = w.2.2.1 := by
    funext a
    by_cases h : a = o
    · rw [if_pos h, h]; rfl
    · rw [if_neg h]
  unfold q_sA
  rw [this]
theorem sA_two (w : qW) (o : Nat) (f g : Nat → Int32) : q_sA (q_sA w o f) o g = q_sA w o g := by
  have : (fun a => if a = o then g else if a = o then f else w.2.2.1 a) = (fun a => if a = o then g else w.2.2.1 a) := by
    funext a
    by_cases h : a = o
    · rw [if_pos h, if_pos h]
    · rw [if_neg h, if_neg h, if_neg h]
  show (w.1, w.2.1, (fun a => if a = o then g else if a = o then f else w.2.2.1 a), w.2.2.2) = _
  rw [this]
  rfl
theorem sG_two (w : qW) (o : Nat) (f g : Nat → Int64) : q_sG (q_sG w o f) o g = q_sG w o g := by
  have : (fun a => if a = o then g else if a = o then f else w.2.2.2 a) = (fun a => if a = o then g else w.2.2.2 a) := by
    funext a
    by_cases h : a = o
    · rw [if_pos h, if_pos h]
    · rw [if_neg h, if_neg h, if_neg h]
  show (w.1, w.2.1, w.2.2.1, (fun a => if a = o then g else if a = o then f else w.2.2.2 a)) = _
  rw [this]
  rfl
theorem sI_two (w : qW) (o k : Nat) (u v : Int32) : q_sI (q_sI w o k u) o k v = q_sI w o k v := by
  have : (fun a b => if a = o ∧ b = k then v else if a = o ∧ b = k then u else w.1 a b) = (fun a b => if a = o ∧ b = k then v else w.1 a b) := by
    funext a b
    by_cases h : a = o ∧ b = k
    · rw [if_pos h, if_pos h]
    · rw [if_neg h, if_neg h, if_neg h]
  show ((fun a b => if a = o ∧ b = k then v else if a = o ∧ b = k then u else w.1 a b), w.2) = _
  rw [this]
  rfl
theorem sI_self (w : qW) (o k : Nat) : q_sI w o k (q_I w o k) = w := by
  have : (fun a b => if a = o ∧ b = k then q_I w o k else w.1 a b) = w.1 := by
    funext a b
    by_cases h : a = o ∧ b = k
    · rw [if_pos h, h.1, h.2]; rfl
    · rw [if_neg h]
  unfold q_sI
  rw [this]
theorem q_fuel_eq : q_fuel = 4096 := rfl
/-- a long array filled -/
theorem p_fillL_R (nn id : Nat) (v : Int64) (hn : nn ≤ 4000) : ∀ (k fuel i : Nat) (w : qW), i + k = nn → k < fuel → f_J7_fill_d0a16_R6 nn id fuel w v (nI i) (nI nn) = some ((), q_sG w id (fun j => if i ≤ j ∧ j < nn then v else q_G w id j))
  | 0, fuel + 1, i, w, h1, h2 => by
    show f_J7_fill_d0a16_B6 nn id _ w v (nI i) (nI nn) = _
    unfold f_J7_fill_d0a16_B6
    rw [if_pos (by rw [show i = nn by omega]; exact nI_le (Nat.le_refl _) (by omega))]
    congr 2
    have : (fun j => if i ≤ j ∧ j < nn then v else q_G w id j) = q_G w id := by
      funext j
      rw [if_neg (by omega)]
    rw [this, sG_self]
  | k + 1, fuel + 1, i, w, h1, h2 => by
    show f_J7_fill_d0a16_B6 nn id (f_J7_fill_d0a16_R6 nn id fuel) w v (nI i) (nI nn) = _
    unfold f_J7_fill_d0a16_B6
    rw [if_neg (nI_ge (by omega) (by omega)), z_stl _ _ _ _ _ _ (by rw [nI_toInt (by omega)]; omega), z_bn, nI_1, p_fillL_R nn id v hn k fuel (i + 1) _ (by omega) (by omega), nI_toInt (by omega)]
    rw [sG_two]
    congr 3
    funext j
    rw [g_GG, if_pos rfl]
    unfold vp_updL
    by_cases hj : j = i
    · rw [if_neg (by omega), if_pos (by omega), if_pos (by omega)]
    · by_cases hj2 : i + 1 ≤ j ∧ j < nn
      · rw [if_pos hj2, if_pos (by omega)]
      · rw [if_neg hj2, if_neg (by omega), if_neg (by omega)]
  | _, 0, _, _, _, h2 => by omega
theorem p_fillL (nn id : Nat) (v : Int64) (w : qW) (hn : nn ≤ 4000) : f_J7_fill_d0a16 nn w id v = some ((), q_sG w id (fun j => if j < nn then v else q_G w id j)) := by
  unfold f_J7_fill_d0a16
  rw [z_bn]
  have := p_fillL_R nn id v hn nn q_fuel 0 w (by omega) (by rw [q_fuel_eq]; omega)
  rw [nI_0] at this
  rw [show Int32.ofNat nn = nI nn from rfl, this]
  congr 3
  funext j
  by_cases h : j < nn
  · rw [if_pos ⟨Nat.zero_le _, h⟩, if_pos h]
  · rw [if_neg (fun q => h q.2), if_neg h]
theorem p_rowM_R (a : Int32) (d : Nat) (hd : d < 6) (ha : a = nI d) : ∀ (k fuel i : Nat) (w : qW), i + k = 60 → k < fuel → f_X11_row_R57 fuel w a (nI (60 * d + i)) = some (1, q_sG w 65 (fun j => if 60 * d + i ≤ j ∧ j < 60 * d + 60 then 0 else q_G w 65 j))
  | 0, fuel + 1, i, w, h1, h2 => by
    show f_X11_row_B57 _ w a _ = _
    unfold f_X11_row_B57
    have e : (60 : Int32) * a + 60 = nI (60 * d + 60) := by
      rw [ha, show (60 : Int32) * nI d = nI (60 * d) from (Int32.ofNat_mul 60 d).symm, show (60 : Int32) = nI 60 from rfl, nI_add]
    rw [e, if_pos (nI_le (by omega) (by omega))]
    congr 2
    have : (fun j => if 60 * d + i ≤ j ∧ j < 60 * d + 60 then (0 : Int64) else q_G w 65 j) = q_G w 65 := by
      funext j
      rw [if_neg (by omega)]
    rw [this, sG_self]
  | k + 1, fuel + 1, i, w, h1, h2 => by
    show f_X11_row_B57 (f_X11_row_R57 fuel) w a _ = _
    unfold f_X11_row_B57
    have e : (60 : Int32) * a + 60 = nI (60 * d + 60) := by
      rw [ha, show (60 : Int32) * nI d = nI (60 * d) from (Int32.ofNat_mul 60 d).symm, show (60 : Int32) = nI 60 from rfl, nI_add]
    rw [e, if_neg (nI_ge (by omega) (by omega)), z_stl _ _ _ _ _ _ (by rw [nI_toInt (by omega)]; omega), z_bn, nI_1, show 60 * d + i + 1 = 60 * d + (i + 1) by omega, p_rowM_R a d hd ha k fuel (i + 1) _ (by omega) (by omega), nI_toInt (by omega)]
    rw [sG_two]
    congr 3
    funext j
    rw [g_GG, if_pos rfl]
    unfold vp_updL
    by_cases hj : j = 60 * d + i
    · rw [if_neg (by omega), if_pos (by omega), if_pos (by omega)]
    · by_cases hj2 : 60 * d + (i + 1) ≤ j ∧ j < 60 * d + 60
      · rw [if_pos hj2, if_pos (by omega)]
      · rw [if_neg hj2, if_neg (by omega), if_neg (by omega)]
  | _, 0, _, _, _, h2 => by omega
theorem p_row : j_row := by
  intro a so n w hJ
  show ∃ r w1 w2, f_X10_row w a so n = some (r, w1) ∧ f_X11_row w1 a so n = some (r, w2) ∧ Jn w2
  have hS : jS w := hJ.2.2.2.2.1
  by_cases ha : 0 ≤ a.toInt ∧ a.toInt < 6
  · by_cases hso : 0 ≤ so.toInt ∧ so.toInt < 5
    · have hso2 : (decide ((0 : Int64).toInt ≤ so.toInt) && decide (so.toInt ≤ (4 : Int64).toInt)) = true := by rw [d0, d4]; simp; omega
      by_cases h60 : n.toInt ≤ 60
      · by_cases h0 : 0 ≤ n.toInt
        · generalize hde : a.toInt.toNat = d
          have hd6 : d < 6 := by omega
          have hav : a = nI d := by rw [← hde]; exact z_nI a ha.1
          have e1 : f_X10_row w a so n = some (1, q_sG (q_sI (q_sI (q_sI w (36 + 2 * d) 0 (-1)) (36 + 2 * d) 1 so) (36 + 2 * d) 2 n) (36 + 2 * d + 1) (fun j => if j < 60 then 0 else q_G w (36 + 2 * d + 1) j)) := by
            unfold f_X10_row f_X6_holdRow
            rw [p_isShelf, z_cl, decide_eq_true ha.1, decide_eq_true ha.2, Bool.and_self, b2i_t, if_neg n1_0, p_choice, z_cl, c5, decide_eq_true hso.1, decide_eq_true hso.2, Bool.and_self, b2i_t, if_neg n1_0, if_pos (by rw [z_le, c60]; exact h60), if_pos (by rw [z_le, c0]; exact h0), s_al _ _ ha, hde]
            simp only [z_bn]
            have hm : (if n < 60 then n else 60) = n := by
              by_cases h : n < 60
              · rw [if_pos h]
              · rw [if_neg h]
                rw [z_lt, c60] at h
                rw [z_eq, c60]
                omega
            have hm2 : (if 0 < n then n else 0) = n := by
              by_cases h : 0 < n
              · rw [if_pos h]
              · rw [if_neg h]
                rw [z_lt, c0] at h
                rw [z_eq, c0]
                omega
            rw [hm, hm2, p_fillL 60 _ _ _ (by omega)]
            rfl
          generalize hw1 : q_sG (q_sI (q_sI (q_sI w (36 + 2 * d) 0 (-1)) (36 + 2 * d) 1 so) (36 + 2 * d) 2 n) (36 + 2 * d + 1) (fun j => if j < 60 then 0 else q_G w (36 + 2 * d + 1) j) = w1 at e1
          have a63 : q_A w1 63 = q_A w 63 := by rw [← hw1]; rfl
          have a64 : q_A w1 64 = q_A w 64 := by rw [← hw1]; rfl
          have g65 : q_G w1 65 = q_G w 65 := by rw [← hw1, g_GG, if_neg (by omega)]; rfl
          have i0 : q_I w1 (36 + 2 * d) 0 = -1 := by rw [← hw1, g_IG, g_II, if_neg (by omega), g_II, if_neg (by omega), g_II, if_pos ⟨rfl, rfl⟩]
          have i1 : q_I w1 (36 + 2 * d) 1 = so := by rw [← hw1, g_IG, g_II, if_neg (by omega), g_II, if_pos ⟨rfl, rfl⟩]
          have i2 : q_I w1 (36 + 2 * d) 2 = n := by rw [← hw1, g_IG, g_II, if_pos ⟨rfl, rfl⟩]
          have io : ∀ o k : Nat, ¬ o = 36 + 2 * d → q_I w1 o k = q_I w o k := fun o k ho => by rw [← hw1, g_IG, g_II, if_neg (fun q => ho q.1), g_II, if_neg (fun q => ho q.1), g_II, if_neg (fun q => ho q.1)]
          refine ⟨1, w1, q_sG (q_sA (q_sA w1 63 (upd (q_A w1 63) d (50 + so))) 64 (upd (q_A w1 64) d n)) 65 (fun j => if 60 * d + 0 ≤ j ∧ j < 60 * d + 60 then 0 else q_G w1 65 j), e1, ?_, ?_⟩
          · unfold f_X11_row
            rw [p_mshelf, z_cl, decide_eq_true ha.1, decide_eq_true ha.2, Bool.and_self, b2i_t, if_neg n1_0, p_within32, z_cl, hso2, b2i_t, if_neg n1_0, if_pos (by rw [z_le, c60]; exact h60), if_pos (by rw [z_le, c0]; exact h0), z_st _ _ _ _ _ _ ha, z_st _ _ _ _ _ _ ha, z_bn, hde]
            have e : (60 : Int32) * a = nI (60 * d + 0) := by
              rw [hav]
              exact (Int32.ofNat_mul 60 d).symm
            rw [e, p_rowM_R a d hd6 hav 60 q_fuel 0 _ (by omega) (by rw [q_fuel_eq]; omega)]
            rfl
          · refine Jn_Os hJ (by rw [← hw1]; exact (((((((jOs.sI _ _ _ _ (by omega)).tr (jOs.sI _ _ _ _ (by omega))).tr (jOs.sI _ _ _ _ (by omega))).tr (jOs.sG _ _ _)).tr (jOs.sA _ _ _ (Or.inl rfl))).tr (jOs.sA _ _ _ (Or.inr rfl))).tr (jOs.sG _ _ _))) (jS_of fun d2 hd2 => ?_)
            have hd2o := jS_at hS d2 hd2
            by_cases he : d2 = d
            · subst he
              refine ⟨Or.inr (Or.inr ⟨i0, ?_, ?_, ?_, ?_, ?_⟩), ?_, fun j hj => ?_⟩
              · show 0 ≤ (q_I w1 (36 + 2 * d2) 1).toInt; rw [i1]; exact hso.1
              · show (q_I w1 (36 + 2 * d2) 1).toInt ≤ 4; rw [i1]; omega
              · show upd (q_A w1 63) d2 (50 + so) d2 = 50 + q_I w1 (36 + 2 * d2) 1
                rw [i1]; unfold upd; rw [if_pos rfl]
              · show 0 ≤ (q_I w1 (36 + 2 * d2) 2).toInt; rw [i2]; exact h0
              · show (q_I w1 (36 + 2 * d2) 2).toInt ≤ 60; rw [i2]; exact h60
              · show upd (q_A w1 64) d2 n d2 = q_I w1 (36 + 2 * d2) 2
                rw [i2]; unfold upd; rw [if_pos rfl]
              · have hel : q_G (q_sG (q_sA (q_sA w1 63 (upd (q_A w1 63) d2 (50 + so))) 64 (upd (q_A w1 64) d2 n)) 65 (fun j => if 60 * d2 + 0 ≤ j ∧ j < 60 * d2 + 60 then 0 else q_G w1 65 j)) (36 + 2 * d2 + 1) j = 0 := by
                  rw [g_GG, if_neg (by omega)]
                  show q_G w1 (36 + 2 * d2 + 1) j = 0
                  rw [← hw1, g_GG, if_pos rfl, if_pos hj]
                have hit : q_G (q_sG (q_sA (q_sA w1 63 (upd (q_A w1 63) d2 (50 + so))) 64 (upd (q_A w1 64) d2 n)) 65 (fun j => if 60 * d2 + 0 ≤ j ∧ j < 60 * d2 + 60 then 0 else q_G w1 65 j)) 65 (60 * d2 + j) = 0 := by
                  rw [g_GG, if_pos rfl, if_pos (by omega)]
                refine ⟨hel.trans hit.symm, fun _ => ?_, fun _ => ?_⟩
                · rw [hel, d0]; omega
                · rw [hel, d0]; omega
            · refine jSd_same (io 32 1 (by omega)) (io _ _ (by omega)) (io _ _ (by omega)) (io _ _ (by omega)) ?_ ?_ ?_ ?_ hd2o
              · show upd (q_A w1 63) d (50 + so) d2 = q_A w 63 d2
                unfold upd; rw [if_neg he, a63]
              · show upd (q_A w1 64) d n d2 = q_A w 64 d2
                unfold upd; rw [if_neg he, a64]
              · rw [g_GG, if_neg (by omega)]
                show q_G w1 (36 + 2 * d2 + 1) = _
                rw [← hw1, g_GG, if_neg (by omega)]
                rfl
              · intro j hj
                rw [g_GG, if_pos rfl, if_neg (by omega), g65]
        · refine ⟨-14, w, w, ?_, ?_, hJ⟩
          · unfold f_X10_row
            rw [p_isShelf, z_cl, decide_eq_true ha.1, decide_eq_true ha.2, Bool.and_self, b2i_t, if_neg n1_0, p_choice, z_cl, c5, decide_eq_true hso.1, decide_eq_true hso.2, Bool.and_self, b2i_t, if_neg n1_0, if_pos (by rw [z_le, c60]; exact h60), if_neg (by rw [z_le, c0]; exact h0)]
          · unfold f_X11_row
            rw [p_mshelf, z_cl, decide_eq_true ha.1, decide_eq_true ha.2, Bool.and_self, b2i_t, if_neg n1_0, p_within32, z_cl, hso2, b2i_t, if_neg n1_0, if_pos (by rw [z_le, c60]; exact h60), if_neg (by rw [z_le, c0]; exact h0)]
      · refine ⟨-1, w, w, ?_, ?_, hJ⟩
        · unfold f_X10_row
          rw [p_isShelf, z_cl, decide_eq_true ha.1, decide_eq_true ha.2, Bool.and_self, b2i_t, if_neg n1_0, p_choice, z_cl, c5, decide_eq_true hso.1, decide_eq_true hso.2, Bool.and_self, b2i_t, if_neg n1_0, if_neg (by rw [z_le, c60]; exact h60)]
        · unfold f_X11_row
          rw [p_mshelf, z_cl, decide_eq_true ha.1, decide_eq_true ha.2, Bool.and_self, b2i_t, if_neg n1_0, p_within32, z_cl, hso2, b2i_t, if_neg n1_0, if_neg (by rw [z_le, c60]; exact h60)]
    · have hb : (decide (0 ≤ so.toInt) && decide (so.toInt < (5 : Int32).toInt)) = false := by rw [c5]; simp; omega
      have hb2 : (decide ((0 : Int64).toInt ≤ so.toInt) && decide (so.toInt ≤ (4 : Int64).toInt)) = false := by rw [d0, d4]; simp; omega
      refine ⟨-1, w, w, ?_, ?_, hJ⟩
      · unfold f_X10_row
        rw [p_isShelf, z_cl, decide_eq_true ha.1, decide_eq_true ha.2, Bool.and_self, b2i_t, if_neg n1_0, p_choice, z_cl, hb]
        rfl
      · unfold f_X11_row
        rw [p_mshelf, z_cl, decide_eq_true ha.1, decide_eq_true ha.2, Bool.and_self, b2i_t, if_neg n1_0, p_within32, z_cl, hb2]
        rfl
  · have hb : (decide (0 ≤ a.toInt) && decide (a.toInt < 6)) = false := by simp; omega
    refine ⟨-1, w, w, ?_, ?_, hJ⟩
    · unfold f_X10_row
      rw [p_isShelf, hb]
      rfl
    · unfold f_X11_row
      rw [p_mshelf, hb]
      rfl
