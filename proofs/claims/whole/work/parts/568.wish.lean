theorem p_rowIs {w : qW} {a s : Int32} (ha : 0 ≤ a.toInt ∧ a.toInt < 6) : f_X11_rowIs w a s = some (if (q_A w 63 a.toInt.toNat).toInt < 0 then -11 else if q_A w 63 a.toInt.toNat = (50 : Int32) + s then 1 else -12, w) := by
  unfold f_X11_rowIs
  rw [p_mshelf, z_cl, decide_eq_true ha.1, decide_eq_true ha.2, Bool.and_self, b2i_t, if_neg n1_0, z_ld _ _ _ _ ha]
  by_cases h : (q_A w 63 a.toInt.toNat).toInt < 0
  · rw [if_neg (by rw [z_le, c0]; omega), if_pos h]
  · rw [if_pos (by rw [z_le, c0]; omega), if_neg h, z_ld _ _ _ _ ha]
    by_cases h2 : q_A w 63 a.toInt.toNat = (50 : Int32) + s
    · rw [if_pos h2, if_pos h2]
    · rw [if_neg h2, if_neg h2]
theorem p_rowIs_f {w : qW} {a s : Int32} (ha : ¬ (0 ≤ a.toInt ∧ a.toInt < 6)) : f_X11_rowIs w a s = some (-1, w) := by
  have hab : (decide (0 ≤ a.toInt) && decide (a.toInt < 6)) = false := by simp; omega
  unfold f_X11_rowIs
  rw [p_mshelf, hab]
  rfl
theorem p_refAs {w : qW} {d : Nat} (h : jSd w d) (s : Nat) (hs : s < 5) : f_X6_refusalAs w (36 + 2 * d) (nI s) = some (if (q_A w 63 d).toInt < 0 then -11 else if q_A w 63 d = (50 : Int32) + nI s then 0 else -12, w) ∧ ((q_A w 63 d).toInt < 0 ∨ (q_A w 63 d = (50 : Int32) + nI s ∧ q_I w (36 + 2 * d) 1 = nI s ∧ 0 ≤ (q_I w (36 + 2 * d) 2).toInt ∧ (q_I w (36 + 2 * d) 2).toInt ≤ 60) ∨ (0 ≤ (q_A w 63 d).toInt ∧ ¬ q_A w 63 d = (50 : Int32) + nI s)) ∨ 50 < (q_I w 32 1).toInt := by
  by_cases hpl : 50 < (q_I w 32 1).toInt
  · exact Or.inr hpl
  refine Or.inl ?_
  have t5 : ((50 : Int32) + nI s).toInt = 50 + (s : Int) := by rw [t50 (by rw [nI_toInt (by omega)]; omega), nI_toInt (by omega)]
  have ts : (nI s).toInt = (s : Int) := nI_toInt (by omega)
  obtain ⟨g1, g2, -⟩ := h
  unfold f_X6_refusalAs
  rw [p_empty, z_cl]
  rcases g1 with ⟨k1, k2, k3, k4⟩ | ⟨k1, k2, k3, k4, k5⟩ | ⟨k1, k2, k3, k4, k5, k6⟩
  · rw [k1, k2, k3]
    exact ⟨rfl, Or.inl (by decide)⟩
  · have hn : ¬ (q_I w (36 + 2 * d) 0 = -1) := by rw [z_eq, cm1]; omega
    have hne : ¬ q_A w 63 d = (50 : Int32) + nI s := by rw [k4, z_eq, t5]; omega
    rw [decide_eq_false hn, Bool.false_and, b2i_f, if_pos rfl, p_rowOf, z_cl, k3, if_neg (show ¬ (-1 : Int32) = nI s by rw [z_eq, ts, cm1]; omega), if_pos rfl, if_neg (by rw [k4]; omega), if_neg hne]
    exact ⟨rfl, Or.inr (Or.inr ⟨by rw [k4]; omega, hne⟩)⟩
  · have hn : ¬ (q_I w (36 + 2 * d) 1 = -1) := by rw [z_eq, cm1]; omega
    have t := t50 ⟨k2, k3⟩
    rw [decide_eq_false hn, Bool.and_false, b2i_f, if_pos rfl, p_rowOf, z_cl, if_neg (show ¬ (q_A w 63 d).toInt < 0 by rw [k4]; omega)]
    by_cases he : q_I w (36 + 2 * d) 1 = nI s
    · rw [if_pos he, if_neg n1_0, if_pos (by rw [k4, he])]
      exact ⟨rfl, Or.inr (Or.inl ⟨by rw [k4, he], he, k5, k6⟩)⟩
    · have hne : ¬ q_A w 63 d = (50 : Int32) + nI s := by
        rw [k4, z_eq, t, t5]
        intro q
        apply he
        rw [z_eq, ts]
        omega
      rw [if_neg he, if_pos rfl, if_neg hne]
      exact ⟨rfl, Or.inr (Or.inr ⟨by rw [k4]; omega, hne⟩)⟩
/-- what a row of hours tells -/
def wishV (E : Nat → Int64) (what : Bool) (sz : Nat) : Nat → Nat → Int32 → Int32 → Int32
  | 0, _, all, any => if sz = 0 then -2 else if what then all else (4095 : Int32) &&& (any ^^^ (-1))
  | k + 1, i, all, any => if 0 ≤ (E i).toInt ∧ (E i).toInt ≤ 4095 then wishV E what sz k (i + 1) (all &&& Int64.toInt32 (E i)) (any ||| Int64.toInt32 (E i)) else -2
theorem p_wishC {id sz : Nat} {E : Nat → Int64} {b : Bool} (hs : sz ≤ 60) : ∀ (k fuel i : Nat) (w : qW) (x y : Int32), q_I w id 2 = nI sz → q_G w (id + 1) = E → i + k = sz → k < fuel → f_X0_wishOf_R10 id fuel w (b2i b) x y (nI i) = some (wishV E b sz k i x y, w)
  | 0, fuel + 1, i, w, x, y, h1, h2, h3, h4 => by
    show f_X0_wishOf_B10 id _ w (b2i b) x y (nI i) = _
    unfold f_X0_wishOf_B10 f_X6_size
    rw [z_cl, h1, if_pos (nI_le (by omega) (by omega)), z_cl]
    unfold wishV
    by_cases h : sz = 0
    · rw [if_pos h, if_pos (by rw [h]; rfl)]
    · rw [if_neg h, if_neg (nI_ne0 (by omega) (by omega))]
      cases b
      · rfl
      · rfl
  | k + 1, fuel + 1, i, w, x, y, h1, h2, h3, h4 => by
    show f_X0_wishOf_B10 id (f_X0_wishOf_R10 id fuel) w (b2i b) x y (nI i) = _
    unfold f_X0_wishOf_B10 f_X6_size
    rw [z_cl, h1, if_neg (nI_ge (by omega) (by omega)), p_shget h1 hs (by omega), z_cl, h2]
    unfold wishV
    by_cases h0 : (E i).toInt < 0
    · rw [if_pos (by rw [lg_cmp_lt, Int64.lt_iff_toInt_lt, d0]; exact h0), if_neg (by omega)]
    · rw [if_neg (by rw [lg_cmp_lt, Int64.lt_iff_toInt_lt, d0]; exact h0)]
      by_cases h5 : (E i).toInt ≤ 4095
      · rw [if_pos (by rw [lg_cmp_le, Int64.le_iff_toInt_le, d4095]; exact h5), z_bn, z_bn, z_bn, nI_1, if_pos ⟨by omega, h5⟩]
        exact p_wishC hs k fuel (i + 1) w _ _ h1 h2 (by omega) (by omega)
      · rw [if_neg (by rw [lg_cmp_le, Int64.le_iff_toInt_le, d4095]; exact h5), if_neg (by omega)]
  | _, 0, _, _, _, _, _, _, _, h => by omega
theorem bw_nor (x y : Int32) : (x ^^^ (-1)) &&& (y ^^^ (-1)) = (x ||| y) ^^^ (-1) := by
  apply Int32.toBitVec_inj.mp
  simp only [Int32.toBitVec_and, Int32.toBitVec_xor, Int32.toBitVec_or]
  have : (-1 : Int32).toBitVec = BitVec.allOnes 32 := by decide
  rw [this, BitVec.xor_allOnes, BitVec.xor_allOnes, BitVec.xor_allOnes, BitVec.not_or]
theorem bw_assoc (x y z : Int32) : x &&& y &&& z = x &&& (y &&& z) := by
  apply Int32.toBitVec_inj.mp
  simp only [Int32.toBitVec_and]
  exact BitVec.and_assoc _ _ _
theorem p_wishM {d sz : Nat} {E : Nat → Int64} {a : Int32} {b : Bool} {what : Int32} (hd : d < 6) (ha : a.toInt = (d : Int)) (hb : what = if b then 0 else 1) (hs : sz ≤ 60) : ∀ (k fuel i : Nat) (w : qW) (x y : Int32), q_A w 64 d = nI sz → (∀ j, j < 60 → q_G w 65 (60 * d + j) = E j) → i + k = sz → k < fuel → f_X11_wish_R50 fuel w a what x ((4095 : Int32) &&& (y ^^^ (-1))) (nI i) = some (wishV E b sz k i x y, w)
  | 0, fuel + 1, i, w, x, y, h1, h2, h3, h4 => by
    show f_X11_wish_B50 _ w a what x _ (nI i) = _
    unfold f_X11_wish_B50
    rw [z_ld _ _ _ _ (by rw [ha]; omega), ha, show ((d : Int)).toNat = d from rfl, h1, if_pos (nI_le (by omega) (by omega)), z_ld _ _ _ _ (by rw [ha]; omega), ha, show ((d : Int)).toNat = d from rfl, h1]
    unfold wishV
    by_cases h : sz = 0
    · rw [if_pos h, if_pos (by rw [h]; rfl)]
    · rw [if_neg h, if_neg (nI_ne0 (by omega) (by omega)), hb]
      cases b
      · rfl
      · rfl
  | k + 1, fuel + 1, i, w, x, y, h1, h2, h3, h4 => by
    show f_X11_wish_B50 (f_X11_wish_R50 fuel) w a what x _ (nI i) = _
    unfold f_X11_wish_B50
    have t0 : (nI i).toInt = (i : Int) := nI_toInt (by omega)
    have b1 : ((60 : Int32) * a + nI i).toInt = ((60 * d + i : Nat) : Int) := by rw [t60 (by omega) (by omega), ha, t0]; omega
    rw [z_ld _ _ _ _ (by rw [ha]; omega), ha, show ((d : Int)).toNat = d from rfl, h1, if_neg (nI_ge (by omega) (by omega)), z_ld _ _ _ _ (by rw [b1]; omega), b1, show (((60 * d + i : Nat) : Int)).toNat = 60 * d + i from rfl, h2 i (by omega), p_within, z_cl, d0, d4095]
    unfold wishV
    by_cases h5 : 0 ≤ (E i).toInt ∧ (E i).toInt ≤ 4095
    · rw [decide_eq_true h5.1, decide_eq_true h5.2, Bool.and_self, b2i_t, if_neg n1_0, z_bn, z_bn, z_bn, nI_1, if_pos h5, bw_assoc, bw_nor]
      exact p_wishM hd ha hb hs k fuel (i + 1) w _ _ h1 h2 (by omega) (by omega)
    · have hb : (decide (0 ≤ (E i).toInt) && decide ((E i).toInt ≤ 4095)) = false := by simp; omega
      rw [hb, b2i_f, if_pos rfl, if_neg h5]
  | _, 0, _, _, _, _, _, _, _, h => by omega
theorem p_wish : j_wish := by
  intro a what w hJ
  show ∃ r w1 w2, f_X10_wish w a what = some (r, w1) ∧ f_X11_wish w1 a what = some (r, w2) ∧ Jn w2
  have hS : jS w := hJ.2.2.2.2.1
  have hpl : (q_I w 32 1).toInt ≤ 50 := hJ.2.2.2.1.1.2
  by_cases ha : 0 ≤ a.toInt ∧ a.toInt < 6
  · obtain ⟨d, hde⟩ : ∃ d : Nat, d = a.toInt.toNat := ⟨_, rfl⟩
    have hd6 : d < 6 := by omega
    have hd := jS_at hS d hd6
    have hri := p_rowIs (w := w) (s := 1) ha
    rw [← hde] at hri
    have hne : ¬ (if (q_A w 63 d).toInt < 0 then (-11 : Int32) else if q_A w 63 d = (50 : Int32) + 1 then 1 else -12) = -1 := by
      split
      · decide
      · split <;> decide
    by_cases hw : 0 ≤ what.toInt ∧ what.toInt < 2
    · have hwb : (decide ((0 : Int64).toInt ≤ what.toInt) && decide (what.toInt ≤ (1 : Int64).toInt)) = true := by rw [d0, d1]; simp; omega
      have cst : f_X10_wish w a what = q_cl (f_X6_refusalAs w (36 + 2 * d) 1) (fun r7 w8 => if r7 = 0 then (if what = 0 then (f_X10_wish_B53 w8 1 (36 + 2 * d)) else (f_X10_wish_B53 w8 0 (36 + 2 * d))) else (some (r7, w8))) := by
        unfold f_X10_wish
        rw [p_isShelf, z_cl, decide_eq_true ha.1, decide_eq_true ha.2, Bool.and_self, b2i_t, if_neg n1_0, p_choice, z_cl, c2, decide_eq_true hw.1, decide_eq_true hw.2, Bool.and_self, b2i_t, if_neg n1_0]
        simp only [s_al _ _ ha, ← hde]
      have mst : f_X11_wish w a what = if 0 ≤ (if (q_A w 63 d).toInt < 0 then (-11 : Int32) else if q_A w 63 d = (50 : Int32) + 1 then 1 else -12) then f_X11_wish_R50 q_fuel w a what 4095 4095 0 else some ((if (q_A w 63 d).toInt < 0 then (-11 : Int32) else if q_A w 63 d = (50 : Int32) + 1 then 1 else -12), w) := by
        unfold f_X11_wish
        rw [hri, z_cl, if_neg hne, p_within32, z_cl, hwb, b2i_t, if_neg n1_0, hri, z_cl, hri, z_cl]
      rcases p_refAs hd 1 (by omega) with ⟨e1, e2⟩ | e
      · have e1 : f_X6_refusalAs w (36 + 2 * d) 1 = some (if (q_A w 63 d).toInt < 0 then -11 else if q_A w 63 d = (50 : Int32) + 1 then 0 else -12, w) := e1
        rw [e1, z_cl] at cst
        rcases e2 with q | ⟨q1, q2, q3, q4⟩ | ⟨q1, q2⟩
        · refine ⟨-11, w, w, ?_, ?_, hJ⟩
          · rw [cst, if_pos q, if_neg (by decide)]
          · rw [mst, if_pos q, if_neg (by decide)]
        · have q1 : q_A w 63 d = (50 : Int32) + 1 := q1
          have qn : ¬ (q_A w 63 d).toInt < 0 := by rw [q1]; decide
          obtain ⟨sz, hsz⟩ : ∃ sz : Nat, sz = (q_I w (36 + 2 * d) 2).toInt.toNat := ⟨_, rfl⟩
          have ez : q_I w (36 + 2 * d) 2 = nI sz := by rw [hsz]; exact z_nI _ q3
          have em : q_A w 64 d = nI sz := by rw [← ez]; exact hd.2.1
          rw [if_neg qn, if_pos q1, if_pos rfl] at cst
          rw [if_neg qn, if_pos q1, if_pos (by decide)] at mst
          obtain ⟨b, hb⟩ : ∃ b : Bool, what = if b then 0 else 1 := by
            by_cases h : what = 0
            · exact ⟨true, h⟩
            · refine ⟨false, ?_⟩
              rw [z_eq, c0] at h
              show what = 1
              rw [z_eq, c1]
              omega
          refine ⟨wishV (q_G w (36 + 2 * d + 1)) b sz sz 0 4095 0, w, w, ?_, ?_, hJ⟩
          · have h := p_wishC (b := b) (E := q_G w (36 + 2 * d + 1)) (show sz ≤ 60 by omega) sz q_fuel 0 w 4095 0 ez rfl (by omega) (by rw [q_fuel_eq]; omega)
            rw [nI_0] at h
            rw [cst]
            have : (if what = 0 then f_X10_wish_B53 w 1 (36 + 2 * d) else f_X10_wish_B53 w 0 (36 + 2 * d)) = f_X10_wish_B53 w (b2i b) (36 + 2 * d) := by
              rw [hb]
              cases b <;> rfl
            rw [this]
            unfold f_X10_wish_B53 f_X0_wishOf
            rw [h]
            rfl
          · have h := p_wishM (E := q_G w (36 + 2 * d + 1)) hd6 (show a.toInt = (d : Int) by omega) hb (show sz ≤ 60 by omega) sz q_fuel 0 w 4095 0 em (fun j hj => (hd.2.2 j hj).1.symm) (by omega) (by rw [q_fuel_eq]; omega)
            rw [nI_0, show (4095 : Int32) &&& ((0 : Int32) ^^^ (-1)) = 4095 by decide] at h
            rw [mst, h]
        · have q2 : ¬ q_A w 63 d = (50 : Int32) + 1 := q2
          refine ⟨-12, w, w, ?_, ?_, hJ⟩
          · rw [cst, if_neg (show ¬ (q_A w 63 d).toInt < 0 by omega), if_neg q2, if_neg (by decide)]
          · rw [mst, if_neg (show ¬ (q_A w 63 d).toInt < 0 by omega), if_neg q2, if_neg (by decide)]
      · omega
    · have hwb : (decide ((0 : Int64).toInt ≤ what.toInt) && decide (what.toInt ≤ (1 : Int64).toInt)) = false := by rw [d0, d1]; simp; omega
      have hwb2 : (decide (0 ≤ what.toInt) && decide (what.toInt < (2 : Int32).toInt)) = false := by rw [c2]; simp; omega
      refine ⟨-1, w, w, ?_, ?_, hJ⟩
      · unfold f_X10_wish
        rw [p_isShelf, z_cl, decide_eq_true ha.1, decide_eq_true ha.2, Bool.and_self, b2i_t, if_neg n1_0, p_choice, z_cl, hwb2]
        rfl
      · unfold f_X11_wish
        rw [hri, z_cl, if_neg hne, p_within32, z_cl, hwb]
        rfl
  · have hab : (decide (0 ≤ a.toInt) && decide (a.toInt < 6)) = false := by simp; omega
    refine ⟨-1, w, w, ?_, ?_, hJ⟩
    · unfold f_X10_wish
      rw [p_isShelf, hab]
      rfl
    · unfold f_X11_wish
      rw [p_rowIs_f ha]
      rfl
