/-! the law's text, the class's reader -/
theorem wd_num0 : ∀ a : Nat, a < 100 → ∀ b : Nat, b < 100 → (0 : Int32) ||| (nI (100 * a + b) <<< ((5 : Int32) &&& 31)) = lw_wd (0, 100 * a + b) := by decide +kernel
theorem wd_num (v : Nat) (h : v < 10000) : (0 : Int32) ||| (nI v <<< ((5 : Int32) &&& 31)) = lw_wd (0, v) := by
  have := wd_num0 (v / 100) (by omega) (v % 100) (by omega)
  rw [show 100 * (v / 100) + v % 100 = v by omega] at this
  exact this
theorem wd_nam : ∀ v : Nat, v < 6 → (1 : Int32) ||| (nI v <<< ((5 : Int32) &&& 31)) = lw_wd (1, v) := by decide +kernel
theorem wd_skp : ∀ v : Nat, v < 129 → (3 : Int32) ||| (nI v <<< ((5 : Int32) &&& 31)) = lw_wd (3, v) := by decide +kernel
theorem wd_op : ∀ v : Nat, v < 16 → nI v ||| ((0 : Int32) <<< ((5 : Int32) &&& 31)) = lw_wd (v, 0) := by decide +kernel
def lw_wr (D : Nat → Int32) : Nat → List (Nat × Nat) → Nat → Int32
  | _, [] => D
  | d, q :: t => lw_wr (upd D d (lw_wd q)) (d + 1) t
theorem lw_wr_app : ∀ (l m : List (Nat × Nat)) (D : Nat → Int32) (d : Nat), lw_wr D d (l ++ m) = lw_wr (lw_wr D d l) (d + l.length) m
  | [], m, D, d => rfl
  | v :: l, m, D, d => by
    show lw_wr (upd D d (lw_wd v)) (d + 1) (l ++ m) = lw_wr (lw_wr (upd D d (lw_wd v)) (d + 1) l) (d + (l.length + 1)) m
    rw [lw_wr_app l m (upd D d (lw_wd v)) (d + 1), show d + 1 + l.length = d + (l.length + 1) by omega]
theorem l_isDigit (w : qW) (x : Int32) : f_X3_isDigit w x = some (b2i (lw_dig x.toInt), w) := by
  have c48 : (48 : Int32).toInt = 48 := by decide
  have c57 : (57 : Int32).toInt = 57 := by decide
  unfold f_X3_isDigit lw_dig
  by_cases h : x.toInt < 48
  · rw [if_pos (by rw [z_lt, c48]; exact h), decide_eq_false (show ¬ 48 ≤ x.toInt by omega)]; rfl
  · rw [if_neg (by rw [z_lt, c48]; exact h), decide_eq_true (show 48 ≤ x.toInt by omega)]
    by_cases h2 : 57 < x.toInt
    · rw [if_pos (by rw [z_lt, c57]; exact h2), decide_eq_false (show ¬ x.toInt ≤ 57 by omega)]; rfl
    · rw [if_neg (by rw [z_lt, c57]; exact h2), decide_eq_true (show x.toInt ≤ 57 by omega)]; rfl
def oI (o : Option Nat) : Int32 := match o with
  | some n => nI n
  | none => -1
theorem l_nameOf (w : qW) (x : Int32) : f_X3_nameOf w x = some (oI (lw_nam x.toInt), w) := by
  unfold f_X3_nameOf
  by_cases h1 : x = 97
  · subst h1; rfl
  by_cases h2 : x = 98
  · subst h2; rfl
  by_cases h3 : x = 104
  · subst h3; rfl
  by_cases h4 : x = 107
  · subst h4; rfl
  by_cases h5 : x = 109
  · subst h5; rfl
  by_cases h6 : x = 115
  · subst h6; rfl
  rw [if_neg h1, if_neg h2, if_neg h3, if_neg h4, if_neg h5, if_neg h6]
  rw [z_eq, show (97 : Int32).toInt = 97 by decide] at h1
  rw [z_eq, show (98 : Int32).toInt = 98 by decide] at h2
  rw [z_eq, show (104 : Int32).toInt = 104 by decide] at h3
  rw [z_eq, show (107 : Int32).toInt = 107 by decide] at h4
  rw [z_eq, show (109 : Int32).toInt = 109 by decide] at h5
  rw [z_eq, show (115 : Int32).toInt = 115 by decide] at h6
  unfold lw_nam
  rw [if_neg h4, if_neg h6, if_neg h1, if_neg h2, if_neg h3, if_neg h5]
  rfl
theorem lw_nam_lt {x : Int} {n : Nat} (h : lw_nam x = some n) : n < 6 := by
  unfold lw_nam at h
  repeat' split at h
  all_goals first | (injection h with h; omega) | exact absurd h (by simp)
theorem lw_opr_lt {lv : Nat} {x : Int} {n : Nat} (h : lw_opr lv x = some n) : 6 ≤ n ∧ n < 16 ∧ lv < 5 ∧ 0 ≤ x := by
  unfold lw_opr at h
  split at h
  all_goals repeat' split at h
  all_goals first | (injection h with h; omega) | exact absurd h (by simp)
theorem l_operator (w : qW) (x : Int32) : ∀ lv : Nat, lv < 5 → f_X3_operator w (nI lv) x = some (oI (lw_opr lv x.toInt), w) := by
  intro lv hlv
  by_cases h1 : x = 37
  · subst h1; match lv, hlv with
    | 0, _ => rfl
    | 1, _ => rfl
    | 2, _ => rfl
    | 3, _ => rfl
    | 4, _ => rfl
  by_cases h2 : x = 38
  · subst h2; match lv, hlv with
    | 0, _ => rfl
    | 1, _ => rfl
    | 2, _ => rfl
    | 3, _ => rfl
    | 4, _ => rfl
  by_cases h3 : x = 42
  · subst h3; match lv, hlv with
    | 0, _ => rfl
    | 1, _ => rfl
    | 2, _ => rfl
    | 3, _ => rfl
    | 4, _ => rfl
  by_cases h4 : x = 43
  · subst h4; match lv, hlv with
    | 0, _ => rfl
    | 1, _ => rfl
    | 2, _ => rfl
    | 3, _ => rfl
    | 4, _ => rfl
  by_cases h5 : x = 45
  · subst h5; match lv, hlv with
    | 0, _ => rfl
    | 1, _ => rfl
    | 2, _ => rfl
    | 3, _ => rfl
    | 4, _ => rfl
  by_cases h6 : x = 47
  · subst h6; match lv, hlv with
    | 0, _ => rfl
    | 1, _ => rfl
    | 2, _ => rfl
    | 3, _ => rfl
    | 4, _ => rfl
  by_cases h7 : x = 60
  · subst h7; match lv, hlv with
    | 0, _ => rfl
    | 1, _ => rfl
    | 2, _ => rfl
    | 3, _ => rfl
    | 4, _ => rfl
  by_cases h8 : x = 61
  · subst h8; match lv, hlv with
    | 0, _ => rfl
    | 1, _ => rfl
    | 2, _ => rfl
    | 3, _ => rfl
    | 4, _ => rfl
  by_cases h9 : x = 62
  · subst h9; match lv, hlv with
    | 0, _ => rfl
    | 1, _ => rfl
    | 2, _ => rfl
    | 3, _ => rfl
    | 4, _ => rfl
  by_cases h10 : x = 124
  · subst h10; match lv, hlv with
    | 0, _ => rfl
    | 1, _ => rfl
    | 2, _ => rfl
    | 3, _ => rfl
    | 4, _ => rfl
  have e : lw_opr lv x.toInt = none := by
    rw [z_eq, show (37 : Int32).toInt = 37 by decide] at h1
    rw [z_eq, show (38 : Int32).toInt = 38 by decide] at h2
    rw [z_eq, show (42 : Int32).toInt = 42 by decide] at h3
    rw [z_eq, show (43 : Int32).toInt = 43 by decide] at h4
    rw [z_eq, show (45 : Int32).toInt = 45 by decide] at h5
    rw [z_eq, show (47 : Int32).toInt = 47 by decide] at h6
    rw [z_eq, show (60 : Int32).toInt = 60 by decide] at h7
    rw [z_eq, show (61 : Int32).toInt = 61 by decide] at h8
    rw [z_eq, show (62 : Int32).toInt = 62 by decide] at h9
    rw [z_eq, show (124 : Int32).toInt = 124 by decide] at h10
    match lv, hlv with
    | 0, _ => show (if x.toInt = 124 then some 6 else none) = none; rw [if_neg h10]
    | 1, _ => show (if x.toInt = 38 then some 7 else none) = none; rw [if_neg h2]
    | 2, _ => show (if x.toInt = 60 then some 8 else if x.toInt = 61 then some 9 else if x.toInt = 62 then some 10 else none) = none; rw [if_neg h7, if_neg h8, if_neg h9]
    | 3, _ => show (if x.toInt = 43 then some 11 else if x.toInt = 45 then some 12 else none) = none; rw [if_neg h4, if_neg h5]
    | 4, _ => show (if x.toInt = 42 then some 13 else if x.toInt = 47 then some 14 else if x.toInt = 37 then some 15 else none) = none; rw [if_neg h3, if_neg h6, if_neg h1]
  rw [e]
  unfold f_X3_operator
  rw [if_neg h1, if_neg h2, if_neg h3, if_neg h4, if_neg h5, if_neg h6, if_neg h7, if_neg h8, if_neg h9, if_neg h10]
  rfl
/-- the class while it reads: place p, d words drafted, D the draft -/
def pW (w : qW) (p d : Nat) (D : Nat → Int32) : qW := q_sI (q_sI (q_sA w (q_R w 3 5) D) 3 2 (nI p)) 3 6 (nI d)
def pB (w : qW) (L : Nat) : Prop := q_I w 3 1 = nI L ∧ L ≤ 120 ∧ (q_R w 3 5 = 5 ∨ q_R w 3 5 = 6)
theorem pW_A {w : qW} {L : Nat} (h : pB w L) (p d : Nat) (D : Nat → Int32) : q_A (pW w p d D) 4 = q_A w 4 := by
  show q_A (q_sA w (q_R w 3 5) D) 4 = _
  rw [g_AA, if_neg (by rcases h.2.2 with e | e <;> rw [e] <;> decide)]
theorem pW_p (w : qW) (p d s : Nat) (D : Nat → Int32) : q_sI (pW w p d D) 3 2 (nI s) = pW w s d D := by
  refine W_ext ?_ rfl rfl rfl
  funext o k
  by_cases h1 : o = 3 ∧ k = 2
  · have h2 : ¬ (o = 3 ∧ k = 6) := by omega
    unfold pW
    simp only [g_II, if_pos h1, if_neg h2]
  · by_cases h2 : o = 3 ∧ k = 6
    · unfold pW
      simp only [g_II, if_neg h1, if_pos h2]
    · unfold pW
      simp only [g_II, if_neg h1, if_neg h2]
theorem l_next {w : qW} {L : Nat} (h : pB w L) (p d : Nat) (D : Nat → Int32) (hp : p ≤ L) : ∃ x : Int32, f_X3_next (pW w p d D) = some (x, pW w p d D) ∧ x.toInt = lw_chr (q_A w 4) (L : Int) p := by
  have i1 : q_I (pW w p d D) 3 1 = nI L := h.1
  have i2 : q_I (pW w p d D) 3 2 = nI p := rfl
  have hL := h.2.1
  unfold f_X3_next lw_chr
  rw [i1, i2]
  by_cases hpL : p < L
  · refine ⟨q_A w 4 p, ?_, by rw [if_pos (by omega)]⟩
    rw [if_neg (nI_ge hpL (by omega)), if_neg (by rw [z_le, nI_toInt (by omega), c120]; omega), z_ld _ _ _ _ (by rw [nI_toInt (by omega)]; omega), nI_toInt (by omega), pW_A h]
    rfl
  · refine ⟨-1, ?_, by rw [if_neg (by omega)]; rfl⟩
    rw [if_pos (nI_le (by omega) (by omega))]
theorem q_rf_5 {β : Type} {id : Nat} (k : Nat → Option β) (h : id = 5 ∨ id = 6) : q_rf id 128 k = k id := by
  unfold q_rf
  rcases h with h | h
  · subst h; exact if_pos rfl
  · subst h; exact if_pos rfl
theorem l_write {w : qW} {L : Nat} (h : pB w L) (p d : Nat) (D : Nat → Int32) (a b : Int32) (hd : d < 128) : f_X3_write (pW w p d D) a b = some ((), pW w p (d + 1) (upd D d (a ||| (b <<< ((5 : Int32) &&& 31))))) := by
  have i6 : q_I (pW w p d D) 3 6 = nI d := rfl
  have r5 : q_R (pW w p d D) 3 5 = q_R w 3 5 := rfl
  have aD : q_A (pW w p d D) (q_R w 3 5) = D := by
    show q_A (q_sA w (q_R w 3 5) D) (q_R w 3 5) = D
    rw [g_AA, if_pos rfl]
  have t0 : (nI d).toInt = (d : Int) := nI_toInt (by omega)
  unfold f_X3_write
  rw [r5, q_rf_5 _ h.2.2, i6, if_neg (by rw [z_le, t0, show (Int32.ofNat 128).toInt = 128 by decide]; omega), q_rf_5 _ h.2.2, z_st _ _ _ _ _ _ (by rw [t0]; omega), z_bn, t0, aD]
  have e : q_sI (q_sA (pW w p d D) (q_R w 3 5) (upd D d (a ||| (b <<< ((5 : Int32) &&& 31))))) 3 6 (q_I (q_sA (pW w p d D) (q_R w 3 5) (upd D d (a ||| (b <<< ((5 : Int32) &&& 31))))) 3 6 + 1) = pW w p (d + 1) (upd D d (a ||| (b <<< ((5 : Int32) &&& 31)))) := by
    show q_sI (q_sI (q_sI (q_sA (q_sA w (q_R w 3 5) D) (q_R w 3 5) _) 3 2 (nI p)) 3 6 (nI d)) 3 6 (nI d + 1) = _
    rw [sI_two, sA_two, nI_1]
    rfl
  exact congrArg (fun x => some ((), x)) e
theorem l_write_any {w : qW} {L : Nat} (h : pB w L) (p d : Nat) (D : Nat → Int32) (a b : Int32) (hd : d ≤ 128) : ∃ d2 D2, d2 ≤ 128 ∧ f_X3_write (pW w p d D) a b = some ((), pW w p d2 D2) := by
  by_cases h1 : d < 128
  · exact ⟨_, _, by omega, l_write h p d D a b h1⟩
  · refine ⟨d, D, hd, ?_⟩
    have i6 : q_I (pW w p d D) 3 6 = nI d := rfl
    have r5 : q_R (pW w p d D) 3 5 = q_R w 3 5 := rfl
    unfold f_X3_write
    rw [r5, q_rf_5 _ h.2.2, i6, if_pos (by rw [show d = 128 by omega]; decide)]
