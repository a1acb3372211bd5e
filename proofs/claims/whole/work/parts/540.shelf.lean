/-- a world that differs from another in the shelves' cells alone -/
def jOs (w w2 : qW) : Prop := (∀ o k : Nat, o < 36 ∨ 47 < o → q_I w2 o k = q_I w o k) ∧ q_R w2 = q_R w ∧ ∀ o : Nat, ¬ o = 63 → ¬ o = 64 → q_A w2 o = q_A w o
theorem jOs.rf (w : qW) : jOs w w := ⟨fun _ _ _ => rfl, rfl, fun _ _ _ => rfl⟩
theorem jOs.tr {w w2 w3 : qW} (h : jOs w w2) (g : jOs w2 w3) : jOs w w3 := ⟨fun o k ho => (g.1 o k ho).trans (h.1 o k ho), g.2.1.trans h.2.1, fun o h1 h2 => (g.2.2 o h1 h2).trans (h.2.2 o h1 h2)⟩
theorem jOs.sI (w : qW) (o k : Nat) (v : Int32) (ho : 36 ≤ o ∧ o ≤ 47) : jOs w (q_sI w o k v) := ⟨fun a b hab => by rw [g_II, if_neg (by omega)], rfl, fun _ _ _ => rfl⟩
theorem jOs.sA (w : qW) (o : Nat) (f : Nat → Int32) (ho : o = 63 ∨ o = 64) : jOs w (q_sA w o f) := ⟨fun _ _ _ => rfl, rfl, fun a h1 h2 => by rw [g_AA, if_neg (by omega)]⟩
theorem jOs.sG (w : qW) (o : Nat) (f : Nat → Int64) : jOs w (q_sG w o f) := ⟨fun _ _ _ => rfl, rfl, fun _ _ _ => rfl⟩
theorem Jn_Os {w w2 : qW} (h : Jn w) (g : jOs w w2) (hs : jS w2) : Jn w2 := by
  obtain ⟨hP, hC, hD, hT, hS, hL, hR⟩ := h
  obtain ⟨gI, gR, gA⟩ := g
  refine ⟨?_, ?_, ?_, ?_, hs, ?_, ?_⟩
  · unfold jP at hP ⊢
    rw [gI 1 1 (by omega), gI 1 2 (by omega), gI 48 6 (by omega), gI 48 7 (by omega), gA 2 (by omega) (by omega), gA 49 (by omega) (by omega)]
    exact hP
  · unfold jC at hC ⊢
    rw [gI 1 1 (by omega), gI 1 2 (by omega), gI 24 2 (by omega), gI 24 3 (by omega), gI 48 5 (by omega), gI 48 4 (by omega), gA 25 (by omega) (by omega), gA 50 (by omega) (by omega), gA 51 (by omega) (by omega), gA 52 (by omega) (by omega)]
    exact hC
  · unfold jD at hD ⊢
    rw [gI 1 1 (by omega), gI 1 2 (by omega), gI 26 2 (by omega), gI 26 3 (by omega), gI 26 4 (by omega), gI 48 20 (by omega), gI 48 21 (by omega), gI 48 22 (by omega), gI 48 18 (by omega), gI 48 23 (by omega), gA 27 (by omega) (by omega), gA 28 (by omega) (by omega), gA 29 (by omega) (by omega), gA 30 (by omega) (by omega), gA 31 (by omega) (by omega), gA 56 (by omega) (by omega), gA 57 (by omega) (by omega), gA 58 (by omega) (by omega), gA 59 (by omega) (by omega), gA 60 (by omega) (by omega)]
    exact hD
  · unfold jT at hT ⊢
    rw [gI 32 1 (by omega), gI 32 3 (by omega), gI 48 28 (by omega), gI 48 31 (by omega), gA 33 (by omega) (by omega), gA 34 (by omega) (by omega), gA 61 (by omega) (by omega), gA 62 (by omega) (by omega)]
    exact hT
  · unfold jL at hL ⊢
    rw [gI 3 1 (by omega), gI 3 4 (by omega), gI 3 7 (by omega), gI 48 9 (by omega), gI 48 11 (by omega), gR, gA 4 (by omega) (by omega), gA 5 (by omega) (by omega), gA 6 (by omega) (by omega), gA 53 (by omega) (by omega), gA 54 (by omega) (by omega)]
    exact hL
  · unfold jR at hR ⊢
    rw [gR]
    exact hR
theorem jSd_same {w w2 : qW} {d : Nat} (hp : q_I w2 32 1 = q_I w 32 1) (h0 : q_I w2 (36 + 2 * d) 0 = q_I w (36 + 2 * d) 0) (h1 : q_I w2 (36 + 2 * d) 1 = q_I w (36 + 2 * d) 1) (h2 : q_I w2 (36 + 2 * d) 2 = q_I w (36 + 2 * d) 2) (h3 : q_A w2 63 d = q_A w 63 d) (h4 : q_A w2 64 d = q_A w 64 d) (h5 : q_G w2 (36 + 2 * d + 1) = q_G w (36 + 2 * d + 1)) (h6 : ∀ i : Nat, i < 60 → q_G w2 65 (60 * d + i) = q_G w 65 (60 * d + i)) (h : jSd w d) : jSd w2 d := by
  obtain ⟨g1, g2, g3⟩ := h
  unfold jSd
  rw [hp, h0, h1, h2, h3, h4, h5]
  exact ⟨g1, g2, fun i hi => by show _ = q_G w2 65 (60 * d + i) ∧ _; rw [h6 i hi]; exact g3 i hi⟩
theorem s_al {β : Type} (a : Int32) (k : Nat → Option β) (h : 0 ≤ a.toInt ∧ a.toInt < 6) : q_al a k = k (36 + 2 * a.toInt.toNat) := by
  unfold q_al
  rw [if_pos (by rw [z_in]; exact h)]
  rfl
theorem p_mshelf (w : qW) (a : Int32) : f_X11_isShelf w a = some (b2i (decide (0 ≤ a.toInt) && decide (a.toInt < 6)), w) := by
  unfold f_X11_isShelf
  rw [p_within32, z_cl, b2i_and, d0, d5]
  have e : (decide (a.toInt ≤ 5)) = decide (a.toInt < 6) := by
    by_cases h : a.toInt < 6
    · rw [decide_eq_true h, decide_eq_true (show a.toInt ≤ 5 by omega)]
    · rw [decide_eq_false h, decide_eq_false (show ¬ a.toInt ≤ 5 by omega)]
  rw [e]
theorem p_empty (w : qW) (id : Nat) : f_X6_isEmpty w id = some (b2i (decide (q_I w id 0 = -1) && decide (q_I w id 1 = -1)), w) := by
  unfold f_X6_isEmpty
  by_cases h1 : q_I w id 0 = -1
  · by_cases h2 : q_I w id 1 = -1
    · simp [h1, h2, b2i]
    · simp [h1, h2, b2i]
  · simp [h1, b2i]
def rfv (sh mn i : Int32) : Int32 := if sh.toInt < 0 then -11 else if sh.toInt < 50 then -12 else if 0 ≤ i.toInt ∧ i.toInt < mn.toInt then 0 else -13
theorem n1_0 : ¬ ((1 : Int32) = 0) := by decide
theorem t50 {so : Int32} (h : 0 ≤ so.toInt ∧ so.toInt ≤ 4) : (50 + so).toInt = 50 + so.toInt := by rw [t_add _ _ (by rw [c50]; omega) (by rw [c50]; omega), c50]
theorem rfv_row {sh mn i : Int32} (h : 50 ≤ sh.toInt) : rfv sh mn i = if 0 ≤ i.toInt ∧ i.toInt < mn.toInt then 0 else -13 := by
  unfold rfv
  rw [if_neg (by omega), if_neg (by omega)]
theorem p_refAt {w : qW} {d : Nat} (hpl : (q_I w 32 1).toInt ≤ 50) (h : jSd w d) (i : Int32) : f_X6_refusalAt w (36 + 2 * d) i = some (rfv (q_A w 63 d) (q_A w 64 d) i, w) := by
  obtain ⟨g1, g2, -⟩ := h
  unfold f_X6_refusalAt f_X6_refusalAt_B33
  rw [p_empty, z_cl]
  rcases g1 with ⟨k1, k2, k3, k4⟩ | ⟨k1, k2, k3, k4, k5⟩ | ⟨k1, k2, k3, k4, k5, k6⟩
  · rw [k1, k2, k3]
    rw [if_neg (by decide)]
    rfl
  · have hn : ¬ (q_I w (36 + 2 * d) 0 = -1) := by rw [z_eq, cm1]; omega
    rw [decide_eq_false hn, Bool.false_and, b2i_f, if_pos rfl, k3, if_pos rfl, k4]
    unfold rfv
    rw [if_neg (by omega), if_pos (by omega)]
  · have hn : ¬ (q_I w (36 + 2 * d) 1 = -1) := by rw [z_eq, cm1]; omega
    rw [decide_eq_false hn, Bool.and_false, b2i_f, if_pos rfl, if_neg hn, k4, g2, rfv_row (by rw [t50 ⟨k2, k3⟩]; omega)]
    by_cases h1 : i.toInt < 0
    · rw [if_pos (by rw [z_lt, c0]; exact h1), if_neg (by omega)]
    · rw [if_neg (by rw [z_lt, c0]; exact h1)]
      by_cases h2 : i.toInt < (q_I w (36 + 2 * d) 2).toInt
      · rw [if_pos (by rw [z_lt]; exact h2), if_pos ⟨by omega, h2⟩]
      · rw [if_neg (by rw [z_lt]; exact h2), if_neg (by omega)]
theorem p_mref (w : qW) (a i : Int32) (ha : 0 ≤ a.toInt ∧ a.toInt < 6) : f_X11_refusal w a i = some (rfv (q_A w 63 a.toInt.toNat) (q_A w 64 a.toInt.toNat) i, w) := by
  unfold f_X11_refusal
  rw [p_mshelf, z_cl, decide_eq_true ha.1, decide_eq_true ha.2, Bool.and_self, b2i_t, if_neg n1_0, z_ld _ _ _ _ ha]
  unfold rfv
  by_cases h1 : (q_A w 63 a.toInt.toNat).toInt < 0
  · rw [if_neg (by rw [z_le, c0]; omega), if_pos h1]
  · rw [if_pos (by rw [z_le, c0]; omega), if_neg h1, z_ld _ _ _ _ ha]
    by_cases h2 : (q_A w 63 a.toInt.toNat).toInt < 50
    · rw [if_neg (by rw [z_le, c50]; omega), if_pos h2]
    · rw [if_pos (by rw [z_le, c50]; omega), if_neg h2]
      by_cases h3 : i.toInt < 0
      · rw [if_pos (by rw [z_lt, c0]; exact h3), if_neg (by omega)]
      · rw [if_neg (by rw [z_lt, c0]; exact h3), z_ld _ _ _ _ ha]
        by_cases h4 : i.toInt < (q_A w 64 a.toInt.toNat).toInt
        · rw [if_neg (by rw [z_le]; omega), if_pos ⟨by omega, h4⟩]
        · rw [if_pos (by rw [z_le]; omega), if_neg (by omega)]
theorem rfv_0 {sh mn i : Int32} (h : rfv sh mn i = 0) : 50 ≤ sh.toInt ∧ 0 ≤ i.toInt ∧ i.toInt < mn.toInt := by
  unfold rfv at h
  by_cases h1 : sh.toInt < 0
  · rw [if_pos h1] at h; exact absurd h (by decide)
  · rw [if_neg h1] at h
    by_cases h2 : sh.toInt < 50
    · rw [if_pos h2] at h; exact absurd h (by decide)
    · rw [if_neg h2] at h
      by_cases h3 : 0 ≤ i.toInt ∧ i.toInt < mn.toInt
      · exact ⟨by omega, h3⟩
      · rw [if_neg h3] at h; exact absurd h (by decide)
/-- a shelf that a refusal doesn't meet is a row -/
theorem jSd_row {w : qW} {d : Nat} (hpl : (q_I w 32 1).toInt ≤ 50) (h : jSd w d) (hs : 50 ≤ (q_A w 63 d).toInt) : q_I w (36 + 2 * d) 0 = -1 ∧ (0 ≤ (q_I w (36 + 2 * d) 1).toInt ∧ (q_I w (36 + 2 * d) 1).toInt ≤ 4) ∧ q_A w 63 d = 50 + q_I w (36 + 2 * d) 1 ∧ (0 ≤ (q_I w (36 + 2 * d) 2).toInt ∧ (q_I w (36 + 2 * d) 2).toInt ≤ 60) ∧ q_A w 64 d = q_I w (36 + 2 * d) 2 := by
  obtain ⟨g1, g2, -⟩ := h
  rcases g1 with ⟨k1, k2, k3, k4⟩ | ⟨k1, k2, k3, k4, k5⟩ | ⟨k1, k2, k3, k4, k5, k6⟩
  · rw [k3, cm1] at hs; omega
  · rw [k4] at hs; omega
  · exact ⟨k1, ⟨k2, k3⟩, k4, ⟨k5, k6⟩, g2⟩
theorem t60 {a i : Int32} (ha : 0 ≤ a.toInt ∧ a.toInt < 6) (hi : 0 ≤ i.toInt ∧ i.toInt < 60) : ((60 : Int32) * a + i).toInt = 60 * a.toInt + i.toInt := by
  have h1 : ((60 : Int32) * a).toInt = 60 * a.toInt := by rw [t_mul _ _ (by rw [c60]; omega) (by rw [c60]; omega), c60]
  rw [t_add _ _ (by rw [h1]; omega) (by rw [h1]; omega), h1]
theorem p_element : j_element := by
  intro a i w hJ
  show ∃ r w1 w2, f_X10_element w a i = some (r, w1) ∧ f_X11_element w1 a i = some (r, w2) ∧ Jn w2
  have hS : jS w := hJ.2.2.2.2.1
  have hpl : (q_I w 32 1).toInt ≤ 50 := hJ.2.2.2.1.1.2
  by_cases ha : 0 ≤ a.toInt ∧ a.toInt < 6
  · have hd := jS_at hS a.toInt.toNat (by omega)
    by_cases hr : rfv (q_A w 63 a.toInt.toNat) (q_A w 64 a.toInt.toNat) i = 0
    · obtain ⟨r1, r2, r3⟩ := rfv_0 hr
      obtain ⟨s1, s2, s3, s4, s5⟩ := jSd_row hpl hd r1
      refine ⟨q_G w (36 + 2 * a.toInt.toNat + 1) i.toInt.toNat, w, w, ?_, ?_, hJ⟩
      · unfold f_X10_element f_X6_get
        rw [p_isShelf, z_cl, decide_eq_true ha.1, decide_eq_true ha.2, Bool.and_self, b2i_t, if_neg n1_0, s_al _ _ ha, p_refAt hpl hd, z_cl, hr, if_pos rfl, s_al _ _ ha, if_neg (by rw [z_lt, c0]; omega), if_neg (by rw [z_le]; rw [s5] at r3; omega), z_ld _ _ _ _ ⟨r2, by rw [s5] at r3; omega⟩]
        rfl
      · unfold f_X11_element
        rw [s5] at r3
        rw [p_mref _ _ _ ha, z_cl, hr, if_pos rfl, z_ld _ _ _ _ (by rw [t60 ha ⟨r2, by omega⟩]; omega), t60 ha ⟨r2, by omega⟩]
        have := (hd.2.2 i.toInt.toNat (by omega)).1
        rw [this]
        show some (q_G w 65 _, w) = some (q_G w 65 (60 * a.toInt.toNat + i.toInt.toNat), w)
        rw [show (60 * a.toInt + i.toInt).toNat = 60 * a.toInt.toNat + i.toInt.toNat by omega]
    · refine ⟨-9223372036854775808, w, w, ?_, ?_, hJ⟩
      · unfold f_X10_element
        rw [p_isShelf, z_cl, decide_eq_true ha.1, decide_eq_true ha.2, Bool.and_self, b2i_t, if_neg n1_0, s_al _ _ ha, p_refAt hpl hd, z_cl, if_neg hr]
      · unfold f_X11_element
        rw [p_mref _ _ _ ha, z_cl, if_neg hr]
  · have hb : (decide (0 ≤ a.toInt) && decide (a.toInt < 6)) = false := by simp; omega
    refine ⟨-9223372036854775808, w, w, ?_, ?_, hJ⟩
    · unfold f_X10_element
      rw [p_isShelf, hb]
      rfl
    · unfold f_X11_element f_X11_refusal
      rw [p_mshelf, hb]
      rfl
def nrw (so : Int32) (v : Int64) : Int64 := if so = 0 then Int32.toInt64 (Int8.toInt32 (Int32.toInt8 (Int64.toInt32 v))) else if so = 1 then Int32.toInt64 (Int16.toInt32 (Int32.toInt16 (Int64.toInt32 v))) else if so = 2 then Int32.toInt64 (Int64.toInt32 v) else if so = 3 then v else if v = 0 then 0 else 1
theorem p_narrowed (w : qW) (id : Nat) (v : Int64) : f_X6_narrowed w id v = some (nrw (q_I w id 1) v, w) := by
  unfold f_X6_narrowed nrw
  simp only [z_bn, lg_cmp_eq]
  repeat' split
  all_goals rfl
theorem p_asSort (w : qW) (so : Int32) (v : Int64) (h : 0 ≤ so.toInt ∧ so.toInt ≤ 4) : f_X11_asSort w so v = some (nrw so v, w) := by
  unfold f_X11_asSort nrw
  simp only [lg_cmp_eq]
  by_cases h0 : so = 0
  · rw [if_pos h0, if_pos h0]
  · rw [if_neg h0, if_neg h0]
    by_cases h1 : so = 1
    · rw [if_pos h1, if_pos h1]
    · rw [if_neg h1, if_neg h1]
      by_cases h2 : so = 2
      · rw [if_pos h2, if_pos h2]
      · rw [if_neg h2, if_neg h2]
        by_cases h3 : so = 3
        · rw [if_pos h3, if_neg (by rw [h3]; decide)]
        · have h4 : so = 4 := by
            rw [z_eq] at h0 h1 h2 h3 ⊢
            rw [c0] at h0
            rw [c1] at h1
            rw [c2] at h2
            rw [c3] at h3
            rw [c4]
            omega
          rw [if_pos h4, if_neg h3]
          split <;> rfl
theorem nrw_8 (v : Int64) : -128 ≤ (nrw 0 v).toInt ∧ (nrw 0 v).toInt ≤ 127 := by
  have h : (nrw 0 v).toInt = (Int32.toInt8 (Int64.toInt32 v)).toInt := by
    show (Int32.toInt64 (Int8.toInt32 (Int32.toInt8 (Int64.toInt32 v)))).toInt = _
    rw [Int32.toInt_toInt64, Int8.toInt_toInt32]
  rw [h]
  have h1 := Int8.le_toInt (Int32.toInt8 (Int64.toInt32 v))
  have h2 := Int8.toInt_lt (Int32.toInt8 (Int64.toInt32 v))
  omega
theorem nrw_16 (v : Int64) : -32768 ≤ (nrw 1 v).toInt ∧ (nrw 1 v).toInt ≤ 32767 := by
  have h : (nrw 1 v).toInt = (Int32.toInt16 (Int64.toInt32 v)).toInt := by
    show (Int32.toInt64 (Int16.toInt32 (Int32.toInt16 (Int64.toInt32 v)))).toInt = _
    rw [Int32.toInt_toInt64, Int16.toInt_toInt32]
  rw [h]
  have h1 := Int16.le_toInt (Int32.toInt16 (Int64.toInt32 v))
  have h2 := Int16.toInt_lt (Int32.toInt16 (Int64.toInt32 v))
  omega
theorem p_put : j_put := by
  intro a i v w hJ
  show ∃ r w1 w2, f_X10_put w a i v = some (r, w1) ∧ f_X11_put w1 a i v = some (r, w2) ∧ Jn w2
  have hS : jS w := hJ.2.2.2.2.1
  have hpl : (q_I w 32 1).toInt ≤ 50 := hJ.2.2.2.1.1.2
  by_cases ha : 0 ≤ a.toInt ∧ a.toInt < 6
  · have hd := jS_at hS a.toInt.toNat (by omega)
    generalize hde : a.toInt.toNat = d at hd
    have hd6 : d < 6 := by omega
    by_cases hr : rfv (q_A w 63 d) (q_A w 64 d) i = 0
    · obtain ⟨r1, r2, r3⟩ := rfv_0 hr
      obtain ⟨s1, s2, s3, s4, s5⟩ := jSd_row hpl hd r1
      rw [s5] at r3
      have e1 : f_X10_put w a i v = some (1, q_sG w (36 + 2 * d + 1) (vp_updL (q_G w (36 + 2 * d + 1)) i.toInt.toNat (nrw (q_I w (36 + 2 * d) 1) v))) := by
        unfold f_X10_put f_X6_set
        rw [p_isShelf, z_cl, decide_eq_true ha.1, decide_eq_true ha.2, Bool.and_self, b2i_t, if_neg n1_0, s_al _ _ ha, hde, p_refAt hpl hd, z_cl, hr, if_pos rfl, s_al _ _ ha, hde, if_neg (by rw [z_lt, c0]; omega), if_neg (by rw [z_le]; omega), p_narrowed, z_cl, z_stl _ _ _ _ _ _ ⟨r2, by omega⟩]
        rfl
      generalize hw1 : q_sG w (36 + 2 * d + 1) (vp_updL (q_G w (36 + 2 * d + 1)) i.toInt.toNat (nrw (q_I w (36 + 2 * d) 1) v)) = w1 at e1
      have a63 : q_A w1 63 = q_A w 63 := by rw [← hw1]; rfl
      have a64 : q_A w1 64 = q_A w 64 := by rw [← hw1]; rfl
      have g65 : q_G w1 65 = q_G w 65 := by rw [← hw1, g_GG, if_neg (by omega)]
      have hi1 : q_I w1 = q_I w := by rw [← hw1]; rfl
      refine ⟨1, w1, q_sG w1 65 (vp_updL (q_G w1 65) (60 * d + i.toInt.toNat) (nrw (q_I w (36 + 2 * d) 1) v)), e1, ?_, ?_⟩
      · unfold f_X11_put f_X11_put_B37
        rw [p_mref _ _ _ ha, z_cl, hde, a63, a64, hr, if_pos rfl, z_ld _ _ _ _ ha, hde, s3]
        have hsub : (50 : Int32) + q_I w (36 + 2 * d) 1 - 50 = q_I w (36 + 2 * d) 1 := by
          rw [z_eq, t_sub _ _ (by rw [t50 s2, c50]; omega) (by rw [t50 s2, c50]; omega), t50 s2, c50]
          omega
        rw [hsub, p_asSort _ _ _ s2, z_cl, z_stl _ _ _ _ _ _ (by rw [t60 ha ⟨r2, by omega⟩]; omega), t60 ha ⟨r2, by omega⟩, if_pos rfl]
        rw [show (60 * a.toInt + i.toInt).toNat = 60 * d + i.toInt.toNat by omega]
      · refine Jn_Os hJ (by rw [← hw1]; exact (jOs.sG _ _ _).tr (jOs.sG _ _ _)) (jS_of fun d2 hd2 => ?_)
        have hd2o := jS_at hS d2 hd2
        by_cases he : d2 = d
        · subst he
          obtain ⟨k1, k2, k3⟩ := hd2o
          refine ⟨?_, ?_, fun j hj => ?_⟩
          · rw [g_IG, g_AG, hi1, a63]
            exact k1
          · show q_A w1 64 d2 = q_I w1 (36 + 2 * d2) 2
            rw [a64, hi1]
            exact k2
          · have hel : q_G (q_sG w1 65 (vp_updL (q_G w1 65) (60 * d2 + i.toInt.toNat) (nrw (q_I w (36 + 2 * d2) 1) v))) (36 + 2 * d2 + 1) = vp_updL (q_G w (36 + 2 * d2 + 1)) i.toInt.toNat (nrw (q_I w (36 + 2 * d2) 1) v) := by
              rw [g_GG, if_neg (by omega), ← hw1, g_GG, if_pos rfl]
            have hit : q_G (q_sG w1 65 (vp_updL (q_G w1 65) (60 * d2 + i.toInt.toNat) (nrw (q_I w (36 + 2 * d2) 1) v))) 65 = vp_updL (q_G w 65) (60 * d2 + i.toInt.toNat) (nrw (q_I w (36 + 2 * d2) 1) v) := by
              rw [g_GG, if_pos rfl, g65]
            show q_G _ (36 + 2 * d2 + 1) j = q_G _ 65 (60 * d2 + j) ∧ (q_I w1 (36 + 2 * d2) 1 = 0 → -128 ≤ (q_G _ (36 + 2 * d2 + 1) j).toInt ∧ (q_G _ (36 + 2 * d2 + 1) j).toInt ≤ 127) ∧ (q_I w1 (36 + 2 * d2) 1 = 1 → -32768 ≤ (q_G _ (36 + 2 * d2 + 1) j).toInt ∧ (q_G _ (36 + 2 * d2 + 1) j).toInt ≤ 32767)
            rw [hel, hit, hi1]
            unfold vp_updL
            by_cases hji : j = i.toInt.toNat
            · rw [if_pos hji, if_pos (by omega)]
              exact ⟨rfl, fun hz => by rw [hz]; exact nrw_8 v, fun hz => by rw [hz]; exact nrw_16 v⟩
            · rw [if_neg hji, if_neg (by omega)]
              exact k3 j hj
        · refine jSd_same ?_ ?_ ?_ ?_ ?_ ?_ ?_ ?_ hd2o
          · show q_I w1 32 1 = _; rw [hi1]
          · show q_I w1 _ 0 = _; rw [hi1]
          · show q_I w1 _ 1 = _; rw [hi1]
          · show q_I w1 _ 2 = _; rw [hi1]
          · show q_A w1 63 _ = _; rw [a63]
          · show q_A w1 64 _ = _; rw [a64]
          · rw [g_GG, if_neg (by omega), ← hw1, g_GG, if_neg (by omega)]
          · intro j hj
            rw [g_GG, if_pos rfl, g65]
            unfold vp_updL
            rw [if_neg (by omega)]
    · refine ⟨rfv (q_A w 63 d) (q_A w 64 d) i, w, w, ?_, ?_, hJ⟩
      · unfold f_X10_put
        rw [p_isShelf, z_cl, decide_eq_true ha.1, decide_eq_true ha.2, Bool.and_self, b2i_t, if_neg n1_0, s_al _ _ ha, hde, p_refAt hpl hd, z_cl, if_neg hr]
      · unfold f_X11_put f_X11_put_B37
        rw [p_mref _ _ _ ha, z_cl, hde, if_neg hr, if_neg hr]
  · have hb : (decide (0 ≤ a.toInt) && decide (a.toInt < 6)) = false := by simp; omega
    refine ⟨-1, w, w, ?_, ?_, hJ⟩
    · unfold f_X10_put
      rw [p_isShelf, hb]
      rfl
    · unfold f_X11_put f_X11_refusal
      rw [p_mshelf, hb]
      rfl
