theorem x_add (a b : Int64) (h1 : -9223372036854775808 ≤ a.toInt + b.toInt) (h2 : a.toInt + b.toInt < 9223372036854775808) : (a + b).toInt = a.toInt + b.toInt := by
  rw [Int64.toInt_add]
  exact Int.bmod_eq_of_le (by omega) (by omega)
theorem x_mul (a b : Int64) (h1 : -9223372036854775808 ≤ a.toInt * b.toInt) (h2 : a.toInt * b.toInt < 9223372036854775808) : (a * b).toInt = a.toInt * b.toInt := by
  rw [Int64.toInt_mul]
  exact Int.bmod_eq_of_le (by omega) (by omega)
theorem x_l2i {x : Int64} (h1 : -2147483648 ≤ x.toInt) (h2 : x.toInt < 2147483648) : (Int64.toInt32 x).toInt = x.toInt := by
  have h := lg_i2l_l2i (x := x) (by omega) (by omega)
  have e : (x.toInt32.toInt64).toInt = x.toInt := by rw [h]
  rw [Int32.toInt_toInt64] at e
  exact e
def sitL (ok : Nat → Bool) (T1 T2 T3 : Nat → Int32) : Nat → Nat → Nat → (Nat → Int32) → Nat × Nat × (Nat → Int32)
  | 0, i, st, N => (i, st, N)
  | k + 1, i, st, N => if st < 8 ∧ ok i = true then sitL ok T1 T2 T3 k (i + 1) (st + 1) (pSit N st (T1 i) (T2 i) (T3 i)) else (i, st, N)
def sitOk (E : Nat → Int64) (i0 sz i : Nat) : Bool := decide (i0 + 3 * i + 2 < sz ∧ ((0 ≤ (E (i0 + 3 * i)).toInt ∧ (E (i0 + 3 * i)).toInt ≤ 143) ∧ (0 ≤ (E (i0 + 3 * i + 1)).toInt ∧ (E (i0 + 3 * i + 1)).toInt ≤ 4095) ∧ 1 ≤ (E (i0 + 3 * i + 2)).toInt ∧ (E (i0 + 3 * i + 2)).toInt ≤ 12))
theorem p_shget {w : qW} {id sz j : Nat} (h : q_I w id 2 = nI sz) (hs : sz ≤ 60) (hj : j < sz) : f_X6_get w id (nI j) = some (q_G w (id + 1) j, w) := by
  have t0 : (nI j).toInt = (j : Int) := nI_toInt (by omega)
  unfold f_X6_get
  rw [if_neg (nI_pos (by omega)), h, if_neg (nI_ge (by omega) (by omega)), z_ld _ _ _ _ (by rw [t0]; omega), t0]
  rfl
theorem p_sitFrom_f {w : qW} {id sz i0 i : Nat} {E : Nat → Int64} (hid : 36 ≤ id) (hz : q_I w id 2 = nI sz) (hs : sz ≤ 60) (hE : q_G w (id + 1) = E) (hr : ∀ j, j < 60 → -32768 ≤ (E j).toInt ∧ (E j).toInt ≤ 32767) {pl : Int64} (hpl : pl.toInt = ((i0 + 3 * i : Nat) : Int)) (hlt : i0 + 3 * i < 4000000000) (hok : ¬ sitOk E i0 sz i = true) : f_X10_sitterFrom w id pl = some (0, w) := by
  unfold f_X10_sitterFrom
  have e2 : (pl + 2).toInt = ((i0 + 3 * i + 2 : Nat) : Int) := by rw [x_add _ _ (by rw [hpl, d2]; omega) (by rw [hpl, d2]; omega), hpl, d2]; omega
  have h0 : ¬ lg_cmp pl 0 < 0 := by rw [lg_cmp_lt, Int64.lt_iff_toInt_lt, hpl, d0]; omega
  rw [if_neg h0]
  unfold f_X6_size
  rw [z_cl, hz]
  by_cases hb : i0 + 3 * i + 2 < sz
  · have h1 : lg_cmp (pl + 2) (Int32.toInt64 (nI sz)) < 0 := by rw [lg_cmp_lt, Int64.lt_iff_toInt_lt, e2, Int32.toInt_toInt64, nI_toInt (by omega)]; omega
    have hp : Int64.toInt32 pl = nI (i0 + 3 * i) := by
      rw [z_eq, x_l2i (by omega) (by omega), hpl, nI_toInt (by omega)]
    have hp1 : nI (i0 + 3 * i) + 1 = nI (i0 + 3 * i + 1) := nI_add _ 1
    have hp2 : nI (i0 + 3 * i) + 2 = nI (i0 + 3 * i + 2) := nI_add _ 2
    rw [if_pos h1, z_bn, hp, hp1, hp2, p_shget hz hs (by omega), z_cl, z_bn, p_shget hz hs (by omega), z_cl, z_bn, p_shget hz hs (by omega), z_cl, z_bn, hE]
    have r0 := hr (i0 + 3 * i) (by omega)
    have r1 := hr (i0 + 3 * i + 1) (by omega)
    have r2 := hr (i0 + 3 * i + 2) (by omega)
    have v0 := x_l2i (x := E (i0 + 3 * i)) (by omega) (by omega)
    have v1 := x_l2i (x := E (i0 + 3 * i + 1)) (by omega) (by omega)
    have v2 := x_l2i (x := E (i0 + 3 * i + 2)) (by omega) (by omega)
    by_cases q0 : fitP 4 (Int64.toInt32 (E (i0 + 3 * i)))
    · rw [p_fits_t q0, z_cl, if_neg n1_0]
      by_cases q1 : fitP 5 (Int64.toInt32 (E (i0 + 3 * i + 1)))
      · rw [p_fits_t q1, z_cl, if_neg n1_0]
        have q2 : ¬ fitP 6 (Int64.toInt32 (E (i0 + 3 * i + 2))) := by
          intro q2
          rw [fit4, v0] at q0
          rw [fit5, v1] at q1
          rw [fit6, v2] at q2
          exact hok (decide_eq_true ⟨hb, q0, q1, q2⟩)
        rw [p_fits_f q2]
        rfl
      · rw [p_fits_f q1]
        rfl
    · rw [p_fits_f q0]
      rfl
  · have h1 : ¬ lg_cmp (pl + 2) (Int32.toInt64 (nI sz)) < 0 := by rw [lg_cmp_lt, Int64.lt_iff_toInt_lt, e2, Int32.toInt_toInt64, nI_toInt (by omega)]; omega
    rw [if_neg h1]
    rfl
theorem p_sitFrom_t {w : qW} {id sz i0 i st : Nat} {E : Nat → Int64} (hid : 36 ≤ id) (hz : q_I w id 2 = nI sz) (hs : sz ≤ 60) (hE : q_G w (id + 1) = E) (hr : ∀ j, j < 60 → -32768 ≤ (E j).toInt ∧ (E j).toInt ≤ 32767) {pl : Int64} (hpl : pl.toInt = ((i0 + 3 * i : Nat) : Int)) (hok : sitOk E i0 sz i = true) (hm : (q_I w 1 1).toInt ≤ 7) (hst : q_I w 1 2 = nI st) (hst8 : st ≤ 8) : f_X10_sitterFrom w id pl = if st < 8 then some (1, q_sA (q_sI w 1 2 (nI (st + 1))) 2 (pSit (q_A w 2) st (Int64.toInt32 (E (i0 + 3 * i))) (Int64.toInt32 (E (i0 + 3 * i + 1))) (Int64.toInt32 (E (i0 + 3 * i + 2))))) else some (0, w) := by
  have hok := of_decide_eq_true hok
  obtain ⟨hb, q0, q1, q2⟩ := hok
  unfold f_X10_sitterFrom
  have e2 : (pl + 2).toInt = ((i0 + 3 * i + 2 : Nat) : Int) := by rw [x_add _ _ (by rw [hpl, d2]; omega) (by rw [hpl, d2]; omega), hpl, d2]; omega
  have h0 : ¬ lg_cmp pl 0 < 0 := by rw [lg_cmp_lt, Int64.lt_iff_toInt_lt, hpl, d0]; omega
  rw [if_neg h0]
  unfold f_X6_size
  rw [z_cl, hz]
  have h1 : lg_cmp (pl + 2) (Int32.toInt64 (nI sz)) < 0 := by rw [lg_cmp_lt, Int64.lt_iff_toInt_lt, e2, Int32.toInt_toInt64, nI_toInt (by omega)]; omega
  have hp : Int64.toInt32 pl = nI (i0 + 3 * i) := by
    rw [z_eq, x_l2i (by omega) (by omega), hpl, nI_toInt (by omega)]
  have hp1 : nI (i0 + 3 * i) + 1 = nI (i0 + 3 * i + 1) := nI_add _ 1
  have hp2 : nI (i0 + 3 * i) + 2 = nI (i0 + 3 * i + 2) := nI_add _ 2
  rw [if_pos h1, z_bn, hp, hp1, hp2, p_shget hz hs (by omega), z_cl, z_bn, p_shget hz hs (by omega), z_cl, z_bn, p_shget hz hs (by omega), z_cl, z_bn, hE]
  have r0 := hr (i0 + 3 * i) (by omega)
  have r1 := hr (i0 + 3 * i + 1) (by omega)
  have r2 := hr (i0 + 3 * i + 2) (by omega)
  have v0 := x_l2i (x := E (i0 + 3 * i)) (by omega) (by omega)
  have v1 := x_l2i (x := E (i0 + 3 * i + 1)) (by omega) (by omega)
  have v2 := x_l2i (x := E (i0 + 3 * i + 2)) (by omega) (by omega)
  rw [p_fits_t ((fit4 _).mpr (by rw [v0]; exact q0)), z_cl, if_neg n1_0, p_fits_t ((fit5 _).mpr (by rw [v1]; exact q1)), z_cl, if_neg n1_0, p_fits_t ((fit6 _).mpr (by rw [v2]; exact q2)), z_cl, if_neg n1_0]
  have ts : (nI st).toInt = (st : Int) := nI_toInt (by omega)
  by_cases h8 : st < 8
  · rw [if_pos h8, p_addSit hm (by rw [hst, ts]; omega), z_cl, hst, if_neg (nI_pos (by omega)), ts, nI_1]
    rfl
  · rw [if_neg h8]
    unfold f_X4_addSitter
    rw [hst, if_neg (by rw [z_lt, ts, c8]; omega)]
    rfl
theorem p_sitR {id sz i0 n : Nat} {a : Int32} {E : Nat → Int64} (hid : 36 ≤ id) (hs : sz ≤ 60) (hr : ∀ j, j < 60 → -32768 ≤ (E j).toInt ∧ (E j).toInt ≤ 32767) (ha : a.toInt = (i0 : Int)) (hn : n ≤ 8) : ∀ (k fuel i st : Nat) (w : qW), (q_I w 1 1).toInt ≤ 7 → q_I w 1 2 = nI st → st ≤ 8 → q_I w id 2 = nI sz → q_G w (id + 1) = E → i + k = n → k < fuel → f_X10_sitters_R53 fuel w a (nI n) id (nI i) = some (nI (sitL (sitOk E i0 sz) (fun i => Int64.toInt32 (E (i0 + 3 * i))) (fun i => Int64.toInt32 (E (i0 + 3 * i + 1))) (fun i => Int64.toInt32 (E (i0 + 3 * i + 2))) k i st (q_A w 2)).1, q_sA (q_sI w 1 2 (nI (sitL (sitOk E i0 sz) (fun i => Int64.toInt32 (E (i0 + 3 * i))) (fun i => Int64.toInt32 (E (i0 + 3 * i + 1))) (fun i => Int64.toInt32 (E (i0 + 3 * i + 2))) k i st (q_A w 2)).2.1)) 2 (sitL (sitOk E i0 sz) (fun i => Int64.toInt32 (E (i0 + 3 * i))) (fun i => Int64.toInt32 (E (i0 + 3 * i + 1))) (fun i => Int64.toInt32 (E (i0 + 3 * i + 2))) k i st (q_A w 2)).2.2)
  | 0, fuel + 1, i, st, w, h1, h2, h3, h4, h5, h6, h7 => by
    show f_X10_sitters_B53 _ w a (nI n) id (nI i) = _
    unfold f_X10_sitters_B53
    rw [if_pos (nI_le (by omega) (by omega))]
    show _ = some (nI i, q_sA (q_sI w 1 2 (nI st)) 2 (q_A w 2))
    rw [← h2, sI_self, sA_self]
  | k + 1, fuel + 1, i, st, w, h1, h2, h3, h4, h5, h6, h7 => by
    show f_X10_sitters_B53 (f_X10_sitters_R53 fuel) w a (nI n) id (nI i) = _
    unfold f_X10_sitters_B53
    rw [if_neg (nI_ge (by omega) (by omega))]
    have t0 : (nI i).toInt = (i : Int) := nI_toInt (by omega)
    have hm3 : ((3 : Int64) * Int32.toInt64 (nI i)).toInt = 3 * (i : Int) := by rw [x_mul _ _ (by rw [d3, Int32.toInt_toInt64, t0]; omega) (by rw [d3, Int32.toInt_toInt64, t0]; omega), d3, Int32.toInt_toInt64, t0]
    have hai := t_hi a
    have hpl : (Int32.toInt64 a + (3 : Int64) * Int32.toInt64 (nI i)).toInt = ((i0 + 3 * i : Nat) : Int) := by
      rw [x_add _ _ (by rw [hm3, Int32.toInt_toInt64]; omega) (by rw [hm3, Int32.toInt_toInt64]; omega), hm3, Int32.toInt_toInt64]; omega
    unfold sitL
    by_cases hok : sitOk E i0 sz i = true
    · rw [p_sitFrom_t hid h4 hs h5 hr hpl hok h1 h2 h3]
      by_cases h8 : st < 8
      · rw [if_pos h8, if_pos ⟨h8, hok⟩, z_cl, if_neg n1_0, z_bn, nI_1]
        rw [p_sitR hid hs hr ha hn k fuel (i + 1) (st + 1) _ (by exact h1) rfl (by omega) (by rw [g_IA, g_II, if_neg (by omega)]; exact h4) (by exact h5) (by omega) (by omega)]
        rw [show ∀ (f g : Nat → Int32) (x y : Int32), q_sA (q_sI (q_sA (q_sI w 1 2 x) 2 f) 1 2 y) 2 g = q_sA (q_sA (q_sI (q_sI w 1 2 x) 1 2 y) 2 f) 2 g from fun _ _ _ _ => rfl, sA_two, sI_two]
        rfl
      · rw [if_neg h8, if_neg (fun q => h8 q.1), z_cl, if_pos rfl, ← h2, sI_self, sA_self]
    · rw [p_sitFrom_f hid h4 hs h5 hr hpl (by omega) hok, z_cl, if_pos rfl, if_neg (fun q => hok q.2), ← h2, sI_self, sA_self]
  | _, 0, _, _, _, _, _, _, _, _, _, h => by omega
