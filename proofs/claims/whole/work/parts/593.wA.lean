/-! what a sitter wants, as bits -/
theorem bt_12a : ∀ a : Nat, a < 64 → ∀ b : Nat, b < 64 → ∀ h : Nat, h < 12 → (nI (64 * a + b) >>> (nI h &&& 31)) &&& 1 = nI (if (64 * a + b).testBit h then 1 else 0) := by decide +kernel
theorem bt_12 {v h : Nat} (hv : v < 4096) (hh : h < 12) : (nI v >>> (nI h &&& 31)) &&& 1 = nI (if v.testBit h then 1 else 0) := by
  have := bt_12a (v / 64) (by omega) (v % 64) (by omega) h hh
  rw [show 64 * (v / 64) + v % 64 = v by omega] at this
  exact this
theorem m_isIn12 (w : qW) {v h : Nat} (hv : v < 4096) (hh : h < 12) : f_X11_isIn w (nI v) (nI h) = some (b2i (v.testBit h), w) := by
  unfold f_X11_isIn
  rw [bt_12 hv hh]
  cases v.testBit h with
  | true => rw [if_pos rfl, if_pos (by decide)]; rfl
  | false => rw [if_neg (show ¬ false = true by decide), if_neg (by decide)]; rfl
