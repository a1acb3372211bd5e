/-! the law's text: the model's reader does what the parser does, and works it out -/
def vW (w : qW) (p : Nat) (op ft : Int32) : qW := q_sI (q_sI (q_sI w 48 13 (nI p)) 48 16 op) 48 15 ft
def vB (w : qW) (L : Nat) (T : Nat → Int32) : Prop := q_I w 48 14 = nI L ∧ L ≤ 120 ∧ ((q_I w 48 12 = 0 ∧ q_A w 54 = T) ∨ (q_I w 48 12 = -1 ∧ q_A w 53 = T))
theorem vW_13 (w : qW) (p s : Nat) (op ft : Int32) : q_sI (vW w p op ft) 48 13 (nI s) = vW w s op ft := by
  refine W_ext ?_ rfl rfl rfl
  funext o k
  unfold vW
  simp only [g_II]
  by_cases h1 : o = 48 ∧ k = 13
  · have h2 : ¬ (o = 48 ∧ k = 15) := by omega
    have h3 : ¬ (o = 48 ∧ k = 16) := by omega
    simp only [if_pos h1, if_neg h2, if_neg h3]
  · simp only [if_neg h1]
theorem vW_16 (w : qW) (p : Nat) (op ft v : Int32) : q_sI (vW w p op ft) 48 16 v = vW w p v ft := by
  refine W_ext ?_ rfl rfl rfl
  funext o k
  unfold vW
  simp only [g_II]
  by_cases h1 : o = 48 ∧ k = 16
  · have h2 : ¬ (o = 48 ∧ k = 15) := by omega
    simp only [if_pos h1, if_neg h2]
  · simp only [if_neg h1]
theorem vW_15 (w : qW) (p : Nat) (op ft v : Int32) : q_sI (vW w p op ft) 48 15 v = vW w p op v := by
  unfold vW
  rw [sI_two]
theorem v_inc (w : qW) (p : Nat) (op ft : Int32) : q_sI (vW w p op ft) 48 13 (q_I (vW w p op ft) 48 13 + 1) = vW w (p + 1) op ft := by
  rw [show q_I (vW w p op ft) 48 13 = nI p from rfl, nI_1, vW_13]
theorem v_byte {w : qW} {L : Nat} {T : Nat → Int32} {c : Nat → Int} (h : vB w L T) (hcd : lw_chr T (L : Int) = c) {p : Nat} (hp : p ≤ L) (op ft : Int32) : ∃ x : Int32, f_X11_byteAt (vW w p op ft) = some (x, vW w p op ft) ∧ ((c p = -1 ∧ x.toInt = 0) ∨ (p < L ∧ x.toInt = c p)) := by
  have i14 : q_I (vW w p op ft) 48 14 = nI L := h.1
  have i13 : q_I (vW w p op ft) 48 13 = nI p := rfl
  have i12 : q_I (vW w p op ft) 48 12 = q_I w 48 12 := rfl
  have hL := h.2.1
  unfold f_X11_byteAt
  rw [i14, i13, i12]
  by_cases hpL : p < L
  · refine ⟨T p, ?_, Or.inr ⟨hpL, by rw [← hcd]; unfold lw_chr; rw [if_pos (by omega)]⟩⟩
    rw [if_neg (nI_ge hpL (by omega))]
    rcases h.2.2 with ⟨e1, e2⟩ | ⟨e1, e2⟩
    · rw [e1, if_pos (by decide), Int32.zero_add, z_ld _ _ _ _ (by rw [nI_toInt (by omega)]; omega), nI_toInt (by omega), show q_A (vW w p op ft) 54 = T from e2]
      rfl
    · rw [e1, if_neg (by decide), z_ld _ _ _ _ (by rw [nI_toInt (by omega)]; omega), nI_toInt (by omega), show q_A (vW w p op ft) 53 = T from e2]
      rfl
  · refine ⟨0, ?_, Or.inl ⟨by rw [← hcd]; unfold lw_chr; rw [if_neg (by omega)], c0⟩⟩
    rw [if_pos (nI_le (by omega) (by omega))]
theorem a00 : (0 : Int32) &&& 1 = 0 := by decide
theorem a10 : (1 : Int32) &&& 1 = 1 := by decide
theorem v_takes_y {w : qW} {L : Nat} {T : Nat → Int32} {c : Nat → Int} (h : vB w L T) (hcd : lw_chr T (L : Int) = c) {p : Nat} (hp : p ≤ L) (op k : Int32) (hk : 0 < k.toInt) (e : c p = k.toInt) : f_X11_takes (vW w p op (-1)) k = some (1, vW w (p + 1) op (-1)) := by
  obtain ⟨x, hx, h2⟩ := v_byte h hcd hp op (-1)
  unfold f_X11_takes
  rw [if_neg (show ¬ 0 ≤ q_I (vW w p op (-1)) 48 15 from by show ¬ (0 : Int32) ≤ -1; decide), hx, z_cl, if_pos (by rw [z_eq]; omega), z_bn, v_inc, a10]
theorem v_takes_n {w : qW} {L : Nat} {T : Nat → Int32} {c : Nat → Int} (h : vB w L T) (hcd : lw_chr T (L : Int) = c) {p : Nat} (hp : p ≤ L) (op k : Int32) (hk : 0 < k.toInt) (e : ¬ c p = k.toInt) : f_X11_takes (vW w p op (-1)) k = some (0, vW w p op (-1)) := by
  obtain ⟨x, hx, h2⟩ := v_byte h hcd hp op (-1)
  unfold f_X11_takes
  rw [if_neg (show ¬ 0 ≤ q_I (vW w p op (-1)) 48 15 from by show ¬ (0 : Int32) ≤ -1; decide), hx, z_cl, if_neg (by rw [z_eq]; omega), a00]
theorem v_ft {w : qW} {p q : Nat} {op : Int32} (hq : q ≤ 120) : 0 ≤ q_I (vW w p op (nI q)) 48 15 := by
  show 0 ≤ nI q
  rw [z_le, c0, nI_toInt (by omega)]
  omega
theorem v_takes_f {w : qW} {p q : Nat} {op k : Int32} (hq : q ≤ 120) : f_X11_takes (vW w p op (nI q)) k = some (0, vW w p op (nI q)) := by
  unfold f_X11_takes
  rw [if_pos (v_ft hq), a00]
theorem v_wrong (w : qW) (p : Nat) (op : Int32) : f_X11_wrong (vW w p op (-1)) = some (0, vW w p op (nI p)) := by
  unfold f_X11_wrong
  rw [if_neg (show ¬ 0 ≤ q_I (vW w p op (-1)) 48 15 from by show ¬ (0 : Int32) ≤ -1; decide), z_bn, vW_15]
  rfl
theorem v_wrong_f {w : qW} {p q : Nat} {op : Int32} (hq : q ≤ 120) : f_X11_wrong (vW w p op (nI q)) = some (0, vW w p op (nI q)) := by
  unfold f_X11_wrong
  rw [if_pos (v_ft hq), z_bn, sI_self]
def mG (n lv : Nat) : qW → Option (Int32 × qW) := match lv with
  | 0 => (G_X11_either n).1
  | 1 => (G_X11_either n).2.1
  | 2 => (G_X11_either n).2.2.1
  | 3 => (G_X11_either n).2.2.2.1
  | 4 => (G_X11_either n).2.2.2.2.1
  | _ => (G_X11_either n).2.2.2.2.2
def mL (n lv F : Nat) (w : qW) (x : Int32) : Option (Int32 × qW) := match lv with
  | 0 => f_X11_either_R5 (G_X11_either n).1 (G_X11_either n).2.1 (G_X11_either n).2.2.1 (G_X11_either n).2.2.2.1 (G_X11_either n).2.2.2.2.1 (G_X11_either n).2.2.2.2.2 F w x
  | 1 => f_X11_both_R5 (G_X11_either n).1 (G_X11_either n).2.1 (G_X11_either n).2.2.1 (G_X11_either n).2.2.2.1 (G_X11_either n).2.2.2.2.1 (G_X11_either n).2.2.2.2.2 F w x
  | 2 => q_cl (f_X11_byteAt w ) (fun r3 w4 => if 0 ≤ (q_I w4 48 15) then (some (x, w4)) else (if r3 = 60 then (f_X11_compared_B37 (G_X11_either n).1 (G_X11_either n).2.1 (G_X11_either n).2.2.1 (G_X11_either n).2.2.2.1 (G_X11_either n).2.2.2.2.1 (G_X11_either n).2.2.2.2.2 w4 x r3) else (if r3 = 61 then (f_X11_compared_B37 (G_X11_either n).1 (G_X11_either n).2.1 (G_X11_either n).2.2.1 (G_X11_either n).2.2.2.1 (G_X11_either n).2.2.2.2.1 (G_X11_either n).2.2.2.2.2 w4 x r3) else (if r3 = 62 then (f_X11_compared_B37 (G_X11_either n).1 (G_X11_either n).2.1 (G_X11_either n).2.2.1 (G_X11_either n).2.2.2.1 (G_X11_either n).2.2.2.2.1 (G_X11_either n).2.2.2.2.2 w4 x r3) else (some (x, w4))))))
  | 3 => f_X11_sums_R5 (G_X11_either n).1 (G_X11_either n).2.1 (G_X11_either n).2.2.1 (G_X11_either n).2.2.2.1 (G_X11_either n).2.2.2.2.1 (G_X11_either n).2.2.2.2.2 F w x
  | _ => q_cl (f_X11_byteAt w ) (fun r3 w4 => f_X11_product_R10 (G_X11_either n).1 (G_X11_either n).2.1 (G_X11_either n).2.2.1 (G_X11_either n).2.2.2.1 (G_X11_either n).2.2.2.2.1 (G_X11_either n).2.2.2.2.2 F w4 x r3)
theorem mL_0 (n F : Nat) (w : qW) (x : Int32) : mL n 0 F w x = f_X11_either_R5 (G_X11_either n).1 (G_X11_either n).2.1 (G_X11_either n).2.2.1 (G_X11_either n).2.2.2.1 (G_X11_either n).2.2.2.2.1 (G_X11_either n).2.2.2.2.2 F w x := rfl
theorem mL_1 (n F : Nat) (w : qW) (x : Int32) : mL n 1 F w x = f_X11_both_R5 (G_X11_either n).1 (G_X11_either n).2.1 (G_X11_either n).2.2.1 (G_X11_either n).2.2.2.1 (G_X11_either n).2.2.2.2.1 (G_X11_either n).2.2.2.2.2 F w x := rfl
theorem mL_2 (n F : Nat) (w : qW) (x : Int32) : mL n 2 F w x = q_cl (f_X11_byteAt w ) (fun r3 w4 => if 0 ≤ (q_I w4 48 15) then (some (x, w4)) else (if r3 = 60 then (f_X11_compared_B37 (G_X11_either n).1 (G_X11_either n).2.1 (G_X11_either n).2.2.1 (G_X11_either n).2.2.2.1 (G_X11_either n).2.2.2.2.1 (G_X11_either n).2.2.2.2.2 w4 x r3) else (if r3 = 61 then (f_X11_compared_B37 (G_X11_either n).1 (G_X11_either n).2.1 (G_X11_either n).2.2.1 (G_X11_either n).2.2.2.1 (G_X11_either n).2.2.2.2.1 (G_X11_either n).2.2.2.2.2 w4 x r3) else (if r3 = 62 then (f_X11_compared_B37 (G_X11_either n).1 (G_X11_either n).2.1 (G_X11_either n).2.2.1 (G_X11_either n).2.2.2.1 (G_X11_either n).2.2.2.2.1 (G_X11_either n).2.2.2.2.2 w4 x r3) else (some (x, w4)))))) := rfl
theorem mL_3 (n F : Nat) (w : qW) (x : Int32) : mL n 3 F w x = f_X11_sums_R5 (G_X11_either n).1 (G_X11_either n).2.1 (G_X11_either n).2.2.1 (G_X11_either n).2.2.2.1 (G_X11_either n).2.2.2.2.1 (G_X11_either n).2.2.2.2.2 F w x := rfl
theorem mL_4 (n F : Nat) (w : qW) (x : Int32) : mL n 4 F w x = q_cl (f_X11_byteAt w ) (fun r3 w4 => f_X11_product_R10 (G_X11_either n).1 (G_X11_either n).2.1 (G_X11_either n).2.2.1 (G_X11_either n).2.2.2.1 (G_X11_either n).2.2.2.2.1 (G_X11_either n).2.2.2.2.2 F w4 x r3) := rfl
theorem mG_step (n : Nat) (w : qW) : ∀ lv : Nat, lv < 5 → mG (n + 1) lv w = q_cl (mG n (lv + 1) w) (fun r1 w2 => mL n lv q_fuel w2 r1) := by
  intro lv hl
  match lv, hl with
  | 0, _ =>
    simp only [mL_0]
    show b_X11_either (G_X11_either n).1 (G_X11_either n).2.1 (G_X11_either n).2.2.1 (G_X11_either n).2.2.2.1 (G_X11_either n).2.2.2.2.1 (G_X11_either n).2.2.2.2.2 w = q_cl ((G_X11_either n).2.1 w) _
    unfold b_X11_either
    rfl
  | 1, _ =>
    simp only [mL_1]
    show b_X11_both (G_X11_either n).1 (G_X11_either n).2.1 (G_X11_either n).2.2.1 (G_X11_either n).2.2.2.1 (G_X11_either n).2.2.2.2.1 (G_X11_either n).2.2.2.2.2 w = q_cl ((G_X11_either n).2.2.1 w) _
    unfold b_X11_both
    rfl
  | 2, _ =>
    simp only [mL_2]
    show b_X11_compared (G_X11_either n).1 (G_X11_either n).2.1 (G_X11_either n).2.2.1 (G_X11_either n).2.2.2.1 (G_X11_either n).2.2.2.2.1 (G_X11_either n).2.2.2.2.2 w = q_cl ((G_X11_either n).2.2.2.1 w) _
    unfold b_X11_compared
    rfl
  | 3, _ =>
    simp only [mL_3]
    show b_X11_sums (G_X11_either n).1 (G_X11_either n).2.1 (G_X11_either n).2.2.1 (G_X11_either n).2.2.2.1 (G_X11_either n).2.2.2.2.1 (G_X11_either n).2.2.2.2.2 w = q_cl ((G_X11_either n).2.2.2.2.1 w) _
    unfold b_X11_sums
    rfl
  | 4, _ =>
    simp only [mL_4]
    show b_X11_product (G_X11_either n).1 (G_X11_either n).2.1 (G_X11_either n).2.2.1 (G_X11_either n).2.2.2.1 (G_X11_either n).2.2.2.2.1 (G_X11_either n).2.2.2.2.2 w = q_cl ((G_X11_either n).2.2.2.2.2 w) _
    unfold b_X11_product
    rfl
theorem mL_pass {w : qW} {L : Nat} {T : Nat → Int32} {c : Nat → Int} (h : vB w L T) (hcd : lw_chr T (L : Int) = c) (n F : Nat) {p q : Nat} (hp : p ≤ L) (hq : q ≤ 120) (op x : Int32) : ∀ lv : Nat, lv < 5 → mL n lv (F + 1) (vW w p op (nI q)) x = some (x, vW w p op (nI q)) := by
  obtain ⟨y, hy, -⟩ := v_byte h hcd hp op (nI q)
  intro lv hl
  match lv, hl with
  | 0, _ =>
    show f_X11_either_B5 (G_X11_either n).1 (G_X11_either n).2.1 (G_X11_either n).2.2.1 (G_X11_either n).2.2.2.1 (G_X11_either n).2.2.2.2.1 (G_X11_either n).2.2.2.2.2 _ (vW w p op (nI q)) x = _
    unfold f_X11_either_B5
    rw [v_takes_f hq, z_cl, if_pos rfl]
  | 1, _ =>
    show f_X11_both_B5 (G_X11_either n).1 (G_X11_either n).2.1 (G_X11_either n).2.2.1 (G_X11_either n).2.2.2.1 (G_X11_either n).2.2.2.2.1 (G_X11_either n).2.2.2.2.2 _ (vW w p op (nI q)) x = _
    unfold f_X11_both_B5
    rw [v_takes_f hq, z_cl, if_pos rfl]
  | 2, _ =>
    show q_cl (f_X11_byteAt (vW w p op (nI q))) _ = _
    rw [hy, z_cl, if_pos (v_ft hq)]
  | 3, _ =>
    show f_X11_sums_B5 (G_X11_either n).1 (G_X11_either n).2.1 (G_X11_either n).2.2.1 (G_X11_either n).2.2.2.1 (G_X11_either n).2.2.2.2.1 (G_X11_either n).2.2.2.2.2 _ (vW w p op (nI q)) x = _
    unfold f_X11_sums_B5
    rw [if_pos (v_ft hq)]
  | 4, _ =>
    show q_cl (f_X11_byteAt (vW w p op (nI q))) _ = _
    rw [hy, z_cl]
    show f_X11_product_B10 (G_X11_either n).1 (G_X11_either n).2.1 (G_X11_either n).2.2.1 (G_X11_either n).2.2.2.1 (G_X11_either n).2.2.2.2.1 (G_X11_either n).2.2.2.2.2 _ (vW w p op (nI q)) x y = _
    unfold f_X11_product_B10
    rw [if_pos (v_ft hq)]
theorem v_nf (w : qW) (p : Nat) (op : Int32) : ¬ 0 ≤ q_I (vW w p op (-1)) 48 15 := by show ¬ (0 : Int32) ≤ -1; decide
theorem z_ne {x : Int32} {c k : Int} {p L : Nat} (y : Int32) (h2 : (c = -1 ∧ x.toInt = 0) ∨ (p < L ∧ x.toInt = c)) (hy : y.toInt = k) (hk : 0 < k) (h : ¬ c = k) : ¬ x = y := by
  rw [z_eq, hy]
  omega
theorem z_is {x : Int32} {c k : Int} {p L : Nat} (y : Int32) (h2 : (c = -1 ∧ x.toInt = 0) ∨ (p < L ∧ x.toInt = c)) (hy : y.toInt = k) (hk : 0 < k) (h : c = k) : x = y := by
  rw [z_eq, hy]
  omega
theorem mL_none {w : qW} {L : Nat} {T : Nat → Int32} {c : Nat → Int} (h : vB w L T) (hcd : lw_chr T (L : Int) = c) (n F : Nat) {p : Nat} (hp : p ≤ L) (op x : Int32) : ∀ lv : Nat, lv < 5 → lw_opr lv (c p) = none → mL n lv (F + 1) (vW w p op (-1)) x = some (x, vW w p op (-1)) := by
  obtain ⟨y, hy, h2⟩ := v_byte h hcd hp op (-1)
  intro lv hl ho
  match lv, hl, ho with
  | 0, _, ho =>
    have h1 : ¬ c p = 124 := fun e => by rw [e] at ho; exact absurd ho (by decide)
    show f_X11_either_B5 (G_X11_either n).1 (G_X11_either n).2.1 (G_X11_either n).2.2.1 (G_X11_either n).2.2.2.1 (G_X11_either n).2.2.2.2.1 (G_X11_either n).2.2.2.2.2 _ (vW w p op (-1)) x = _
    unfold f_X11_either_B5
    rw [v_takes_n h hcd hp op 124 (by decide) h1, z_cl, if_pos rfl]
  | 1, _, ho =>
    have h1 : ¬ c p = 38 := fun e => by rw [e] at ho; exact absurd ho (by decide)
    show f_X11_both_B5 (G_X11_either n).1 (G_X11_either n).2.1 (G_X11_either n).2.2.1 (G_X11_either n).2.2.2.1 (G_X11_either n).2.2.2.2.1 (G_X11_either n).2.2.2.2.2 _ (vW w p op (-1)) x = _
    unfold f_X11_both_B5
    rw [v_takes_n h hcd hp op 38 (by decide) h1, z_cl, if_pos rfl]
  | 2, _, ho =>
    have h3 : ¬ c p = 60 := fun e => by rw [e] at ho; exact absurd ho (by decide)
    have h4 : ¬ c p = 61 := fun e => by rw [e] at ho; exact absurd ho (by decide)
    have h5 : ¬ c p = 62 := fun e => by rw [e] at ho; exact absurd ho (by decide)
    show q_cl (f_X11_byteAt (vW w p op (-1))) _ = _
    rw [hy, z_cl, if_neg (v_nf w p op), if_neg (z_ne 60 h2 (by decide) (by decide) h3), if_neg (z_ne 61 h2 (by decide) (by decide) h4), if_neg (z_ne 62 h2 (by decide) (by decide) h5)]
  | 3, _, ho =>
    have h3 : ¬ c p = 43 := fun e => by rw [e] at ho; exact absurd ho (by decide)
    have h4 : ¬ c p = 45 := fun e => by rw [e] at ho; exact absurd ho (by decide)
    show f_X11_sums_B5 (G_X11_either n).1 (G_X11_either n).2.1 (G_X11_either n).2.2.1 (G_X11_either n).2.2.2.1 (G_X11_either n).2.2.2.2.1 (G_X11_either n).2.2.2.2.2 _ (vW w p op (-1)) x = _
    unfold f_X11_sums_B5
    rw [if_neg (v_nf w p op), hy, z_cl, if_neg (z_ne 43 h2 (by decide) (by decide) h3), hy, z_cl, if_neg (z_ne 45 h2 (by decide) (by decide) h4)]
  | 4, _, ho =>
    have h3 : ¬ c p = 42 := fun e => by rw [e] at ho; exact absurd ho (by decide)
    have h4 : ¬ c p = 47 := fun e => by rw [e] at ho; exact absurd ho (by decide)
    have h5 : ¬ c p = 37 := fun e => by rw [e] at ho; exact absurd ho (by decide)
    show q_cl (f_X11_byteAt (vW w p op (-1))) _ = _
    rw [hy, z_cl]
    show f_X11_product_B10 (G_X11_either n).1 (G_X11_either n).2.1 (G_X11_either n).2.2.1 (G_X11_either n).2.2.2.1 (G_X11_either n).2.2.2.2.1 (G_X11_either n).2.2.2.2.2 _ (vW w p op (-1)) x y = _
    unfold f_X11_product_B10
    rw [if_neg (v_nf w p op), if_neg (z_ne 42 h2 (by decide) (by decide) h3), if_neg (z_ne 47 h2 (by decide) (by decide) h4), if_neg (z_ne 37 h2 (by decide) (by decide) h5)]
theorem z_nz {β : Type} {r : Int32} (h : ¬ r = 0) (k : Option β) : q_nz r k = k := by
  unfold q_nz
  rw [if_neg h]
theorem mL_some {w : qW} {L : Nat} {T : Nat → Int32} {c : Nat → Int} (h : vB w L T) (hcd : lw_chr T (L : Int) = c) (n F : Nat) {p o : Nat} (hp : p ≤ L) (op x r : Int32) (w3 : qW) : ∀ lv : Nat, lv < 5 → lw_opr lv (c p) = some o → mG n (lv + 1) (vW w (p + 1) op (-1)) = some (r, w3) → mL n lv (F + 1) (vW w p op (-1)) x = (if lv = 2 then some (lw_bin o x r, w3) else mL n lv F w3 (lw_bin o x r)) := by
  obtain ⟨y, hy, h2⟩ := v_byte h hcd hp op (-1)
  intro lv hl ho hg
  match lv, hl, ho, hg with
  | 0, _, ho, hg =>
    have ho : (if c p = 124 then some 6 else none) = some o := ho
    by_cases h1 : c p = 124
    · rw [if_pos h1] at ho
      injection ho with ho
      subst ho
      show f_X11_either_B5 (G_X11_either n).1 (G_X11_either n).2.1 (G_X11_either n).2.2.1 (G_X11_either n).2.2.2.1 (G_X11_either n).2.2.2.2.1 (G_X11_either n).2.2.2.2.2 _ (vW w p op (-1)) x = _
      unfold f_X11_either_B5
      rw [v_takes_y h hcd hp op 124 (by decide) h1, z_cl, if_neg (by decide), show (G_X11_either n).2.1 (vW w (p + 1) op (-1)) = some (r, w3) from hg, z_cl, if_neg (show ¬ (0 : Nat) = 2 by decide)]
      show _ = f_X11_either_R5 (G_X11_either n).1 (G_X11_either n).2.1 (G_X11_either n).2.2.1 (G_X11_either n).2.2.2.1 (G_X11_either n).2.2.2.2.1 (G_X11_either n).2.2.2.2.2 F w3 (if ¬ x = 0 ∨ ¬ r = 0 then 1 else 0)
      by_cases hx : x = 0
      · by_cases hr : r = 0
        · rw [if_pos hx, if_pos hr, if_neg (fun q => q.elim (fun q => q hx) (fun q => q hr))]; rfl
        · rw [if_pos hx, if_neg hr, if_pos (Or.inr hr)]; rfl
      · rw [if_neg hx, if_pos (Or.inl hx)]; rfl
    · rw [if_neg h1] at ho; exact absurd ho (by simp)
  | 1, _, ho, hg =>
    have ho : (if c p = 38 then some 7 else none) = some o := ho
    by_cases h1 : c p = 38
    · rw [if_pos h1] at ho
      injection ho with ho
      subst ho
      show f_X11_both_B5 (G_X11_either n).1 (G_X11_either n).2.1 (G_X11_either n).2.2.1 (G_X11_either n).2.2.2.1 (G_X11_either n).2.2.2.2.1 (G_X11_either n).2.2.2.2.2 _ (vW w p op (-1)) x = _
      unfold f_X11_both_B5
      rw [v_takes_y h hcd hp op 38 (by decide) h1, z_cl, if_neg (by decide), show (G_X11_either n).2.2.1 (vW w (p + 1) op (-1)) = some (r, w3) from hg, z_cl, if_neg (show ¬ (1 : Nat) = 2 by decide)]
      show _ = f_X11_both_R5 (G_X11_either n).1 (G_X11_either n).2.1 (G_X11_either n).2.2.1 (G_X11_either n).2.2.2.1 (G_X11_either n).2.2.2.2.1 (G_X11_either n).2.2.2.2.2 F w3 (if ¬ x = 0 ∧ ¬ r = 0 then 1 else 0)
      by_cases hx : x = 0
      · rw [if_pos hx, if_neg (fun q => q.1 hx)]; rfl
      · by_cases hr : r = 0
        · rw [if_neg hx, if_pos hr, if_neg (fun q => q.2 hr)]; rfl
        · rw [if_neg hx, if_neg hr, if_pos ⟨hx, hr⟩]; rfl
    · rw [if_neg h1] at ho; exact absurd ho (by simp)
  | 2, _, ho, hg =>
    have ho : (if c p = 60 then some 8 else if c p = 61 then some 9 else if c p = 62 then some 10 else none) = some o := ho
    have hg : (G_X11_either n).2.2.2.1 (vW w (p + 1) op (-1)) = some (r, w3) := hg
    show q_cl (f_X11_byteAt (vW w p op (-1))) _ = _
    rw [hy, z_cl, if_neg (v_nf w p op), if_pos rfl]
    by_cases h1 : c p = 60
    · rw [if_pos h1] at ho
      injection ho with ho
      subst ho
      have hy1 := z_is 60 h2 (by decide) (by decide) h1
      rw [if_pos hy1]
      unfold f_X11_compared_B37
      rw [z_bn, v_inc, hg, z_cl, if_pos hy1]
      show _ = some (if x < r then 1 else 0, w3)
      by_cases hr : x < r
      · rw [if_pos hr, if_neg (by rw [z_le]; rw [z_lt] at hr; omega)]; rfl
      · rw [if_neg hr, if_pos (by rw [z_le]; rw [z_lt] at hr; omega)]
    · have hy1 := z_ne 60 h2 (by decide) (by decide) h1
      rw [if_neg h1] at ho
      rw [if_neg hy1]
      by_cases h3 : c p = 61
      · rw [if_pos h3] at ho
        injection ho with ho
        subst ho
        have hy2 := z_is 61 h2 (by decide) (by decide) h3
        rw [if_pos hy2]
        unfold f_X11_compared_B37
        rw [z_bn, v_inc, hg, z_cl, if_neg hy1, if_pos hy2]
        show _ = some (if x = r then 1 else 0, w3)
        by_cases hr : x = r
        · rw [if_pos hr, if_pos hr]; rfl
        · rw [if_neg hr, if_neg hr]
      · have hy2 := z_ne 61 h2 (by decide) (by decide) h3
        rw [if_neg h3] at ho
        rw [if_neg hy2]
        by_cases h4 : c p = 62
        · rw [if_pos h4] at ho
          injection ho with ho
          subst ho
          rw [if_pos (z_is 62 h2 (by decide) (by decide) h4)]
          unfold f_X11_compared_B37
          rw [z_bn, v_inc, hg, z_cl, if_neg hy1, if_neg hy2]
          show _ = some (if r < x then 1 else 0, w3)
          by_cases hr : r < x
          · rw [if_pos hr, if_neg (by rw [z_le]; rw [z_lt] at hr; omega)]; rfl
          · rw [if_neg hr, if_pos (by rw [z_le]; rw [z_lt] at hr; omega)]
        · rw [if_neg h4] at ho; exact absurd ho (by simp)
  | 3, _, ho, hg =>
    have ho : (if c p = 43 then some 11 else if c p = 45 then some 12 else none) = some o := ho
    have hg : (G_X11_either n).2.2.2.2.1 (vW w (p + 1) op (-1)) = some (r, w3) := hg
    show f_X11_sums_B5 (G_X11_either n).1 (G_X11_either n).2.1 (G_X11_either n).2.2.1 (G_X11_either n).2.2.2.1 (G_X11_either n).2.2.2.2.1 (G_X11_either n).2.2.2.2.2 _ (vW w p op (-1)) x = _
    unfold f_X11_sums_B5
    rw [if_neg (v_nf w p op), hy, z_cl, if_neg (show ¬ 3 = 2 by decide)]
    by_cases h1 : c p = 43
    · rw [if_pos h1] at ho
      injection ho with ho
      subst ho
      have hy1 := z_is 43 h2 (by decide) (by decide) h1
      rw [if_pos hy1]
      unfold f_X11_sums_B30 f_X11_sums_B44
      rw [hy, z_cl, if_pos hy1, z_bn, v_inc, hg, z_cl, if_neg (by decide)]
      rfl
    · have hy1 := z_ne 43 h2 (by decide) (by decide) h1
      rw [if_neg h1] at ho
      rw [if_neg hy1, hy, z_cl]
      by_cases h3 : c p = 45
      · rw [if_pos h3] at ho
        injection ho with ho
        subst ho
        rw [if_pos (z_is 45 h2 (by decide) (by decide) h3)]
        unfold f_X11_sums_B30 f_X11_sums_B44
        rw [hy, z_cl, if_neg hy1, z_bn, v_inc, hg, z_cl, if_pos rfl]
        rfl
      · rw [if_neg h3] at ho; exact absurd ho (by simp)
  | 4, _, ho, hg =>
    have ho : (if c p = 42 then some 13 else if c p = 47 then some 14 else if c p = 37 then some 15 else none) = some o := ho
    have hg : (G_X11_either n).2.2.2.2.2 (vW w (p + 1) op (-1)) = some (r, w3) := hg
    show q_cl (f_X11_byteAt (vW w p op (-1))) _ = _
    rw [hy, z_cl, if_neg (show ¬ 4 = 2 by decide)]
    show f_X11_product_B10 (G_X11_either n).1 (G_X11_either n).2.1 (G_X11_either n).2.2.1 (G_X11_either n).2.2.2.1 (G_X11_either n).2.2.2.2.1 (G_X11_either n).2.2.2.2.2 (f_X11_product_R10 (G_X11_either n).1 (G_X11_either n).2.1 (G_X11_either n).2.2.1 (G_X11_either n).2.2.2.1 (G_X11_either n).2.2.2.2.1 (G_X11_either n).2.2.2.2.2 F) (vW w p op (-1)) x y = q_cl (f_X11_byteAt w3) (fun r3 w4 => f_X11_product_R10 (G_X11_either n).1 (G_X11_either n).2.1 (G_X11_either n).2.2.1 (G_X11_either n).2.2.2.1 (G_X11_either n).2.2.2.2.1 (G_X11_either n).2.2.2.2.2 F w4 (lw_bin o x r) r3)
    unfold f_X11_product_B10
    rw [if_neg (v_nf w p op)]
    by_cases h1 : c p = 42
    · rw [if_pos h1] at ho
      injection ho with ho
      subst ho
      have hy1 := z_is 42 h2 (by decide) (by decide) h1
      rw [if_pos hy1]
      unfold f_X11_product_B35
      rw [z_bn, v_inc, hg, z_cl, if_pos hy1]
      rfl
    · have hy1 := z_ne 42 h2 (by decide) (by decide) h1
      rw [if_neg h1] at ho
      rw [if_neg hy1]
      by_cases h3 : c p = 47
      · rw [if_pos h3] at ho
        injection ho with ho
        subst ho
        have hy2 := z_is 47 h2 (by decide) (by decide) h3
        rw [if_pos hy2]
        unfold f_X11_product_B35
        rw [z_bn, v_inc, hg, z_cl, if_neg hy1]
        show _ = q_cl (f_X11_byteAt w3) (fun r3 w4 => f_X11_product_R10 (G_X11_either n).1 (G_X11_either n).2.1 (G_X11_either n).2.2.1 (G_X11_either n).2.2.2.1 (G_X11_either n).2.2.2.2.1 (G_X11_either n).2.2.2.2.2 F w4 (if r = 0 then 0 else x / r) r3)
        by_cases hr : r = 0
        · rw [if_pos hr, if_pos hr]; rfl
        · rw [if_neg hr, if_neg hr, if_pos hy2, z_nz hr]; rfl
      · have hy2 := z_ne 47 h2 (by decide) (by decide) h3
        rw [if_neg h3] at ho
        rw [if_neg hy2]
        by_cases h4 : c p = 37
        · rw [if_pos h4] at ho
          injection ho with ho
          subst ho
          rw [if_pos (z_is 37 h2 (by decide) (by decide) h4)]
          unfold f_X11_product_B35
          rw [z_bn, v_inc, hg, z_cl, if_neg hy1]
          show _ = q_cl (f_X11_byteAt w3) (fun r3 w4 => f_X11_product_R10 (G_X11_either n).1 (G_X11_either n).2.1 (G_X11_either n).2.2.1 (G_X11_either n).2.2.2.1 (G_X11_either n).2.2.2.2.1 (G_X11_either n).2.2.2.2.2 F w4 (if r = 0 then 0 else q_rem x r) r3)
          by_cases hr : r = 0
          · rw [if_pos hr, if_pos hr]; rfl
          · rw [if_neg hr, if_neg hr, if_neg hy2, z_nz hr]; rfl
        · rw [if_neg h4] at ho; exact absurd ho (by simp)
