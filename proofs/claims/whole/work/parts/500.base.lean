/-! pure rows: comparisons as numbers, reads behind writes -/
theorem z_lt (a b : Int32) : (a < b) = (a.toInt < b.toInt) := propext Int32.lt_iff_toInt_lt
theorem z_le (a b : Int32) : (a ≤ b) = (a.toInt ≤ b.toInt) := propext Int32.le_iff_toInt_le
theorem z_eq (a b : Int32) : (a = b) = (a.toInt = b.toInt) := propext Int32.toInt_inj.symm
theorem z_clamp (a : Int32) : a.toNatClampNeg = a.toInt.toNat := rfl
theorem z_in (j : Int32) (n : Nat) : (q_in j n = true) = (0 ≤ j.toInt ∧ j.toInt < (n : Int)) := by
  unfold q_in
  rw [z_clamp]
  simp only [z_lt, Bool.not_eq_true', Bool.or_eq_false_iff, decide_eq_false_iff_not]
  have h0 : (0 : Int32).toInt = 0 := by decide
  rw [h0]
  apply propext
  omega
def b2i (b : Bool) : Int32 := if b then 1 else 0
theorem b2i_0 (b : Bool) : (b2i b = 0) = (b = false) := by cases b <;> simp [b2i]
theorem b2i_and (b : Bool) : b2i b &&& 1 = b2i b := by cases b <;> decide
theorem g_II (w : qW) (o k : Nat) (v : Int32) (a b : Nat) : q_I (q_sI w o k v) a b = if a = o ∧ b = k then v else q_I w a b := rfl
theorem g_IR (w : qW) (o k v : Nat) : q_I (q_sR w o k v) = q_I w := rfl
theorem g_IA (w : qW) (o : Nat) (f : Nat → Int32) : q_I (q_sA w o f) = q_I w := rfl
theorem g_IG (w : qW) (o : Nat) (f : Nat → Int64) : q_I (q_sG w o f) = q_I w := rfl
theorem g_RI (w : qW) (o k : Nat) (v : Int32) : q_R (q_sI w o k v) = q_R w := rfl
theorem g_RR (w : qW) (o k v : Nat) (a b : Nat) : q_R (q_sR w o k v) a b = if a = o ∧ b = k then v else q_R w a b := rfl
theorem g_RA (w : qW) (o : Nat) (f : Nat → Int32) : q_R (q_sA w o f) = q_R w := rfl
theorem g_RG (w : qW) (o : Nat) (f : Nat → Int64) : q_R (q_sG w o f) = q_R w := rfl
theorem g_AI (w : qW) (o k : Nat) (v : Int32) : q_A (q_sI w o k v) = q_A w := rfl
theorem g_AR (w : qW) (o k v : Nat) : q_A (q_sR w o k v) = q_A w := rfl
theorem g_AA (w : qW) (o : Nat) (f : Nat → Int32) (a : Nat) : q_A (q_sA w o f) a = if a = o then f else q_A w a := rfl
theorem g_AG (w : qW) (o : Nat) (f : Nat → Int64) : q_A (q_sG w o f) = q_A w := rfl
theorem g_GI (w : qW) (o k : Nat) (v : Int32) : q_G (q_sI w o k v) = q_G w := rfl
theorem g_GR (w : qW) (o k v : Nat) : q_G (q_sR w o k v) = q_G w := rfl
theorem g_GA (w : qW) (o : Nat) (f : Nat → Int32) : q_G (q_sA w o f) = q_G w := rfl
theorem g_GG (w : qW) (o : Nat) (f : Nat → Int64) (a : Nat) : q_G (q_sG w o f) a = if a = o then f else q_G w a := rfl
theorem z_bn {α β : Type} (v : α) (k : α → Option β) : q_bn v k = k v := rfl
theorem z_cl {α β : Type} (r : α) (w : qW) (k : α → qW → Option β) : q_cl (some (r, w)) k = k r w := rfl
theorem z_cl0 {α β : Type} (k : α → qW → Option β) : q_cl none k = none := rfl
theorem z_st {β : Type} (w : qW) (o n : Nat) (j v : Int32) (k : qW → Option β) (h : 0 ≤ j.toInt ∧ j.toInt < (n : Int)) : q_st w o n j v k = k (q_sA w o (upd (q_A w o) j.toInt.toNat v)) := by
  unfold q_st
  rw [if_pos (by rw [z_in]; exact h)]
  rfl
theorem z_stl {β : Type} (w : qW) (o n : Nat) (j : Int32) (v : Int64) (k : qW → Option β) (h : 0 ≤ j.toInt ∧ j.toInt < (n : Int)) : q_stl w o n j v k = k (q_sG w o (vp_updL (q_G w o) j.toInt.toNat v)) := by
  unfold q_stl
  rw [if_pos (by rw [z_in]; exact h)]
  rfl
theorem z_ld {α β : Type} (f : Nat → α) (n : Nat) (j : Int32) (k : α → Option β) (h : 0 ≤ j.toInt ∧ j.toInt < (n : Int)) : q_ld f n j k = k (f j.toInt.toNat) := by
  unfold q_ld
  rw [if_pos (by rw [z_in]; exact h)]
  rfl
/-! small numbers -/
theorem t_lit (n : Nat) (h : n < 2 ^ 31) : (Int32.ofNat n).toInt = n := nI_toInt h
theorem t_add (a b : Int32) (h1 : -2147483648 ≤ a.toInt + b.toInt) (h2 : a.toInt + b.toInt < 2147483648) : (a + b).toInt = a.toInt + b.toInt := by
  rw [Int32.toInt_add]
  exact Int.bmod_eq_of_le (by omega) (by omega)
theorem t_sub (a b : Int32) (h1 : -2147483648 ≤ a.toInt - b.toInt) (h2 : a.toInt - b.toInt < 2147483648) : (a - b).toInt = a.toInt - b.toInt := by
  rw [Int32.toInt_sub]
  exact Int.bmod_eq_of_le (by omega) (by omega)
theorem t_mul (a b : Int32) (h1 : -2147483648 ≤ a.toInt * b.toInt) (h2 : a.toInt * b.toInt < 2147483648) : (a * b).toInt = a.toInt * b.toInt := by
  rw [Int32.toInt_mul]
  exact Int.bmod_eq_of_le (by omega) (by omega)
theorem t_lo (a : Int32) : -2147483648 ≤ a.toInt := Int32.le_toInt a
theorem t_hi (a : Int32) : a.toInt < 2147483648 := Int32.toInt_lt a
theorem z_ofInt (a : Int32) : Int32.ofInt a.toInt = a := by simp
theorem z_nI (a : Int32) (h : 0 ≤ a.toInt) : a = nI a.toInt.toNat := by
  apply Int32.toInt_inj.mp
  rw [nI_toInt (by have := t_hi a; omega)]
  omega
/-! the small tests of both sides -/
theorem p_choice (w : qW) (a n : Int32) : f_X10_isChoice w a n = some (b2i (decide (0 ≤ a.toInt) && decide (a.toInt < n.toInt)), w) := by
  have h0 : (0 : Int32).toInt = 0 := by decide
  unfold f_X10_isChoice
  simp only [z_lt, h0]
  by_cases h1 : a.toInt < 0
  · rw [if_pos h1]; simp [b2i, show ¬ 0 ≤ a.toInt by omega]
  · rw [if_neg h1]
    by_cases h2 : a.toInt < n.toInt
    · simp [z_le, b2i, h2, show 0 ≤ a.toInt by omega]
    · simp [z_le, b2i, h2, show n.toInt ≤ a.toInt by omega]
theorem p_within (w : qW) (a b c : Int64) : f_X11_within w a b c = some (b2i (decide (b.toInt ≤ a.toInt) && decide (a.toInt ≤ c.toInt)), w) := by
  unfold f_X11_within
  simp only [lg_cmp_lt, lg_cmp_gt, Int64.lt_iff_toInt_lt]
  by_cases h1 : a.toInt < b.toInt
  · rw [if_pos h1]; simp [b2i, show ¬ b.toInt ≤ a.toInt by omega]
  · rw [if_neg h1]
    by_cases h2 : c.toInt < a.toInt
    · rw [if_pos h2]; simp [b2i, show ¬ a.toInt ≤ c.toInt by omega]
    · rw [if_neg h2]; simp [b2i, show a.toInt ≤ c.toInt by omega, show b.toInt ≤ a.toInt by omega]
theorem p_isHour (w : qW) (a : Int32) : f_X10_isHour w a = some (b2i (decide (0 ≤ a.toInt) && decide (a.toInt < 12)), w) := p_choice w a 12
theorem p_isShelf (w : qW) (a : Int32) : f_X10_isShelf w a = some (b2i (decide (0 ≤ a.toInt) && decide (a.toInt < 6)), w) := p_choice w a 6
theorem p_within32 (w : qW) (a : Int32) (b c : Int64) : f_X11_within w (Int32.toInt64 a) b c = some (b2i (decide (b.toInt ≤ a.toInt) && decide (a.toInt ≤ c.toInt)), w) := by
  rw [p_within, Int32.toInt_toInt64]
theorem b2i_1 (b : Bool) : (b2i b = 1) = (b = true) := by cases b <;> simp [b2i]
