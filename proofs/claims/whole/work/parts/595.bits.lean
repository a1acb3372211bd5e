/-! bits: sets made of answers, and how many -/
def pc (x : Nat) (k : Nat) : Nat := sm (fun h => if x.testBit h then 1 else 0) k
def bcv (a1 : Int32) : Int32 := (fun v1 : Int32 => (fun v2 : Int32 => (fun v3 : Int32 => (fun v4 : Int32 => (fun v5 : Int32 => v5 &&& 63) (v4 + (q_ush v4 16))) (v3 + (q_ush v3 8))) ((v2 + (q_ush v2 4)) &&& 252645135)) ((v1 &&& 858993459) + ((q_ush v1 2) &&& 858993459))) (a1 - ((q_ush a1 1) &&& 1431655765))
theorem bc_eq (w : qW) (a : Int32) : f_J6_bitCount_0f7a4 w a = some (bcv a, w) := rfl
theorem bc_12a : ∀ a : Nat, a < 64 → ∀ b : Nat, b < 64 → bcv (nI (64 * a + b)) = nI (pc (64 * a + b) 12) := by decide +kernel
theorem s_bc (w : qW) {x : Nat} (hx : x < 4096) : f_J6_bitCount_0f7a4 w (nI x) = some (nI (pc x 12), w) := by
  have := bc_12a (x / 64) (by omega) (x % 64) (by omega)
  rw [show 64 * (x / 64) + x % 64 = x by omega] at this
  rw [bc_eq, this]
theorem m_bits_R {x : Nat} (hx : x < 4096) (w : qW) : ∀ (k F i : Nat), i + k = 12 → k < F → f_X11_bitsOf_R4 F w (nI x) (nI (pc x i)) (nI i) = some (nI (pc x 12), w)
  | 0, F + 1, i, h1, _ => by
    have hi : i = 12 := by omega
    subst hi
    show f_X11_bitsOf_B4 (f_X11_bitsOf_R4 F) w (nI x) (nI (pc x 12)) (nI 12) = _
    unfold f_X11_bitsOf_B4
    rw [if_pos (by decide)]
  | k + 1, F + 1, i, h1, h2 => by
    show f_X11_bitsOf_B4 (f_X11_bitsOf_R4 F) w (nI x) (nI (pc x i)) (nI i) = _
    unfold f_X11_bitsOf_B4
    rw [if_neg (by rw [z_le, c12, nI_toInt (by omega)]; omega), z_bn, z_bn, bt_12 hx (by omega), nI_add, nI_1]
    exact m_bits_R hx w k F (i + 1) (by omega) (by omega)
theorem m_bits (w : qW) {x : Nat} (hx : x < 4096) : f_X11_bitsOf w (nI x) = some (nI (pc x 12), w) := m_bits_R hx w 12 q_fuel 0 (by omega) (by rw [q_fuel_eq]; omega)
def mkb (f : Nat → Bool) : Nat → Nat
  | 0 => 0
  | k + 1 => mkb f k + (if f k then 2 ^ k else 0)
theorem mkb_lt (f : Nat → Bool) : ∀ k, mkb f k < 2 ^ k
  | 0 => by show 0 < 1; omega
  | k + 1 => by
    have := mkb_lt f k
    show mkb f k + (if f k then 2 ^ k else 0) < 2 ^ (k + 1)
    rw [Nat.pow_succ]
    by_cases h : f k
    · rw [if_pos h]; omega
    · rw [if_neg h]; omega
theorem or_st : ∀ i : Nat, i < 12 → ∀ a : Nat, a < 2 ^ i → nI a ||| ((1 : Int32) <<< (nI i &&& 31)) = nI (a + 2 ^ i) := by decide +kernel
theorem mkb_or (f : Nat → Bool) {i : Nat} (hi : i < 12) (h : f i = true) : nI (mkb f i) ||| ((1 : Int32) <<< (nI i &&& 31)) = nI (mkb f (i + 1)) := by
  rw [or_st i hi _ (mkb_lt f i)]
  show _ = nI (mkb f i + (if f i then 2 ^ i else 0))
  rw [if_pos h]
theorem mkb_no (f : Nat → Bool) {i : Nat} (h : f i = false) : mkb f (i + 1) = mkb f i := by
  show mkb f i + (if f i then 2 ^ i else 0) = _
  rw [h]
  rfl
theorem mkb_bt (f : Nat → Bool) : ∀ (n i : Nat), (mkb f n).testBit i = (decide (i < n) && f i)
  | 0, i => by
    show Nat.testBit 0 i = _
    rw [Nat.zero_testBit, decide_eq_false (by omega)]
    rfl
  | n + 1, i => by
    show (mkb f n + (if f n then 2 ^ n else 0)).testBit i = _
    have ih := mkb_bt f n
    have hl := mkb_lt f n
    by_cases hin : i < n
    · rw [decide_eq_true (show i < n + 1 by omega)]
      by_cases hf : f n
      · rw [if_pos hf, Nat.add_comm, Nat.testBit_two_pow_add_gt hin, ih i, decide_eq_true hin]
      · rw [if_neg hf, Nat.add_zero, ih i, decide_eq_true hin]
    · by_cases hin2 : i = n
      · subst hin2
        rw [decide_eq_true (show i < i + 1 by omega)]
        have z : (mkb f i).testBit i = false := Nat.testBit_lt_two_pow hl
        by_cases hf : f i
        · rw [if_pos hf, Nat.add_comm, Nat.testBit_two_pow_add_eq, z, hf]; rfl
        · rw [if_neg hf, Nat.add_zero, z]
          cases hfi : f i with
          | true => exact absurd hfi hf
          | false => rfl
      · rw [decide_eq_false (show ¬ i < n + 1 by omega)]
        have h2 : mkb f n + (if f n then 2 ^ n else 0) < 2 ^ (n + 1) := mkb_lt f (n + 1)
        have h3 : 2 ^ (n + 1) ≤ 2 ^ i := Nat.pow_le_pow_right (by omega) (by omega)
        rw [Nat.testBit_lt_two_pow (by omega)]
        rfl
theorem mkb_ext {f : Nat → Bool} {n x : Nat} (hx : x < 2 ^ n) (h : ∀ i, i < n → x.testBit i = f i) : x = mkb f n := by
  apply Nat.eq_of_testBit_eq
  intro i
  rw [mkb_bt]
  by_cases hi : i < n
  · rw [h i hi, decide_eq_true hi]; rfl
  · have h3 : 2 ^ n ≤ 2 ^ i := Nat.pow_le_pow_right (by omega) (by omega)
    rw [decide_eq_false hi, Nat.testBit_lt_two_pow (by omega)]; rfl
def andn (v b : Nat) : Nat := v &&& (b ^^^ 4294967295)
theorem andn_bt (v b : Nat) {i : Nat} (hi : i < 32) : (andn v b).testBit i = (v.testBit i && !(b.testBit i)) := by
  unfold andn
  rw [Nat.testBit_and, Nat.testBit_xor, show (4294967295 : Nat) = 2 ^ 32 - 1 from rfl, Nat.testBit_two_pow_sub_one, decide_eq_true hi, Bool.xor_true]
theorem i_andn {v b : Nat} (hv : v < 2 ^ 31) (hb : b < 2 ^ 31) : nI v &&& (nI b ^^^ (-1)) = nI (andn v b) := by
  apply Int32.toBitVec_inj.mp
  apply BitVec.eq_of_toNat_eq
  have e1 : (nI v).toBitVec.toNat = v := by
    show (BitVec.ofNat 32 v).toNat = v
    rw [BitVec.toNat_ofNat, Nat.mod_eq_of_lt (by omega)]
  have e2 : (nI b).toBitVec.toNat = b := by
    show (BitVec.ofNat 32 b).toNat = b
    rw [BitVec.toNat_ofNat, Nat.mod_eq_of_lt (by omega)]
  have e3 : ((-1 : Int32)).toBitVec.toNat = 4294967295 := by decide
  have e4 : andn v b ≤ v := Nat.and_le_left
  have e5 : (nI (andn v b)).toBitVec.toNat = andn v b := by
    show (BitVec.ofNat 32 (andn v b)).toNat = andn v b
    rw [BitVec.toNat_ofNat, Nat.mod_eq_of_lt (by omega)]
  rw [Int32.toBitVec_and, BitVec.toNat_and, Int32.toBitVec_xor, BitVec.toNat_xor, e1, e2, e3, e5]
  rfl
theorem pc_mkb (f : Nat → Bool) {n : Nat} (hn : n ≤ 12) : pc (mkb f n) 12 = sm (fun h => if f h then 1 else 0) n := by
  unfold pc
  have a : ∀ k, k ≤ n → sm (fun h => if (mkb f n).testBit h then 1 else 0) k = sm (fun h => if f h then 1 else 0) k := by
    intro k hk
    apply sm_congr
    intro m hm
    rw [mkb_bt, decide_eq_true (show m < n by omega)]
    rfl
  have b : ∀ j k, k = n + j → sm (fun h => if (mkb f n).testBit h then 1 else 0) k = sm (fun h => if (mkb f n).testBit h then 1 else 0) n := by
    intro j
    induction j with
    | zero => intro k hk; rw [hk, Nat.add_zero]
    | succ j ih =>
      intro k hk
      subst hk
      show sm _ (n + j) + (if (mkb f n).testBit (n + j) then 1 else 0) = _
      rw [ih _ rfl, mkb_bt, decide_eq_false (show ¬ n + j < n by omega)]
      rfl
  rw [b (12 - n) 12 (by omega), a n (Nat.le_refl n)]
theorem andn_mkb (f g : Nat → Bool) {n : Nat} (hn : n ≤ 12) : andn (mkb f n) (mkb g n) = mkb (fun i => f i && !g i) n := by
  apply mkb_ext
  · exact Nat.lt_of_le_of_lt Nat.and_le_left (mkb_lt f n)
  · intro i hi
    rw [andn_bt _ _ (by omega), mkb_bt, mkb_bt, decide_eq_true hi]
    rfl
