theorem p_runs (w : qW) (r : Nat) (tr : Nat → Int32) (v : Int32) (hr : r < 24) : f_X11_runs (mW w r tr) v = some ((), mW w (r + 1) (upd tr r v)) := by
  have h3 : q_I (mW w r tr) 48 31 = nI r := rfl
  have t0 : (nI r).toInt = (r : Int) := nI_toInt (by omega)
  unfold f_X11_runs
  rw [h3, if_neg (by rw [z_le, t0, c24]; omega), z_st _ _ _ _ _ _ (by rw [t0]; omega), t0]
  unfold f_X11_runs_B19
  rw [z_bn, show q_I (q_sA (mW w r tr) 62 (upd (q_A (mW w r tr) 62) ((r : Int)).toNat v)) 48 31 = nI r from rfl, nI_1, show q_sI (q_sA (mW w r tr) 62 (upd (q_A (mW w r tr) 62) ((r : Int)).toNat v)) 48 31 (nI (r + 1)) = mW w (r + 1) (upd tr r v) from mW_set w r (r + 1) tr (upd tr r v)]
def mOk (w : qW) (f : qW → Int32 → Int32 → Option (Int32 × qW)) (k : Nat) (T : Int32 → aT) : Prop := ∀ (r : Nat) (tr : Nat → Int32) (x : Int32), r + (T x).2.length ≤ 24 → f (mW w r tr) (nI k) x = some ((T x).1, mW w (r + (T x).2.length) (addT tr r (T x).2))
def mKn (w : qW) (ow : Nat) (se : Int32) : Prop := q_I w 48 33 = se ∧ q_I w 48 32 = nI ow
theorem mSt_0 {w : qW} {ow : Nat} {se : Int32} (h : mKn w ow se) (n : Nat) : mOk w (G_X11_standsAs (n + 1)) 0 (aSt0 se) := by
  intro r tr x hr
  have hr : r + 1 ≤ 24 := hr
  show q_cl (f_X11_runs (mW w r tr) 1) _ = _
  rw [p_runs _ _ _ _ (by omega), z_cl, ← h.1]
  rfl
theorem mSt_2 {w : qW} {ow : Nat} {se : Int32} (h : mKn w ow se) (n : Nat) : mOk w (G_X11_standsAs (n + 1)) 2 (aSt0 se) := by
  intro r tr x hr
  have hr : r + 1 ≤ 24 := hr
  show q_cl (f_X11_runs (mW w r tr) 1) _ = _
  rw [p_runs _ _ _ _ (by omega), z_cl, ← h.1]
  rfl
theorem mSt_3 {w : qW} {ow : Nat} {se : Int32} (h : mKn w ow se) (n : Nat) : mOk w (G_X11_standsAs (n + 1)) 3 (aSt0 se) := by
  intro r tr x hr
  have hr : r + 1 ≤ 24 := hr
  show q_cl (f_X11_runs (mW w r tr) 1) _ = _
  rw [p_runs _ _ _ _ (by omega), z_cl, ← h.1]
  rfl
theorem mSt_5 {w : qW} {ow : Nat} {se : Int32} (h : mKn w ow se) (n : Nat) : mOk w (G_X11_standsAs (n + 1)) 5 (aSt0 se) := by
  intro r tr x hr
  have hr : r + 1 ≤ 24 := hr
  show q_cl (f_X11_runs (mW w r tr) 1) _ = _
  rw [p_runs _ _ _ _ (by omega), z_cl, ← h.1]
  rfl
theorem mSt_1 {w : qW} {ow : Nat} {se : Int32} (h : mKn w ow se) (n : Nat) : mOk w (G_X11_standsAs (n + 2)) 1 (fun x => ((aSt0 se x).1 + 3, 20 :: (aSt0 se x).2)) := by
  intro r tr x hr
  have hr : r + 2 ≤ 24 := hr
  show q_cl (f_X11_runs (mW w r tr) 20) (fun _ w2 => q_cl (G_X11_standsAs (n + 1) w2 (nI 0) x) (fun r3 w4 => some (r3 + 3, w4))) = _
  rw [p_runs _ _ _ _ (by omega), z_cl, mSt_0 h n (r + 1) (upd tr r 20) x (by show r + 1 + 1 ≤ 24; omega)]
  rfl
theorem mSt_4 {w : qW} {ow : Nat} {se : Int32} (h : mKn w ow se) (n : Nat) : mOk w (G_X11_standsAs (n + 2)) 4 (fun x => ((aSt0 se x).1 + 3, 20 :: (aSt0 se x).2)) := by
  intro r tr x hr
  have hr : r + 2 ≤ 24 := hr
  show q_cl (f_X11_runs (mW w r tr) 20) (fun _ w2 => q_cl (G_X11_standsAs (n + 1) w2 (nI 0) x) (fun r3 w4 => some (r3 + 3, w4))) = _
  rw [p_runs _ _ _ _ (by omega), z_cl, mSt_0 h n (r + 1) (upd tr r 20) x (by show r + 1 + 1 ≤ 24; omega)]
  rfl
theorem mSt_7 {w : qW} {ow : Nat} {se : Int32} (h : mKn w ow se) (n : Nat) : mOk w (G_X11_standsAs (n + 2)) 7 (fun x => ((aSt0 se x).1 + 3, 20 :: (aSt0 se x).2)) := by
  intro r tr x hr
  have hr : r + 2 ≤ 24 := hr
  show q_cl (f_X11_runs (mW w r tr) 20) (fun _ w2 => q_cl (G_X11_standsAs (n + 1) w2 (nI 0) x) (fun r3 w4 => some (r3 + 3, w4))) = _
  rw [p_runs _ _ _ _ (by omega), z_cl, mSt_0 h n (r + 1) (upd tr r 20) x (by show r + 1 + 1 ≤ 24; omega)]
  rfl
theorem mSt_6 {w : qW} {ow : Nat} {se : Int32} (h : mKn w ow se) (n : Nat) : mOk w (G_X11_standsAs (n + 2)) 6 (fun x => ((aSt0 se x).1 * 2, 70 :: (aSt0 se x).2)) := by
  intro r tr x hr
  have hr : r + 2 ≤ 24 := hr
  show q_cl (f_X11_runs (mW w r tr) 70) (fun _ w2 => q_cl (G_X11_standsAs (n + 1) w2 (nI 0) x) (fun r3 w4 => some (r3 * 2, w4))) = _
  rw [p_runs _ _ _ _ (by omega), z_cl, mSt_0 h n (r + 1) (upd tr r 70) x (by show r + 1 + 1 ≤ 24; omega)]
  rfl
theorem mSt {w : qW} {ow : Nat} {se : Int32} (h : mKn w ow se) (n : Nat) : ∀ k : Nat, k < 8 → mOk w (G_X11_standsAs (n + 2)) k (aSt se k)
  | 0, _ => mSt_0 h (n + 1)
  | 1, _ => mSt_1 h n
  | 2, _ => mSt_2 h (n + 1)
  | 3, _ => mSt_3 h (n + 1)
  | 4, _ => mSt_4 h n
  | 5, _ => mSt_5 h (n + 1)
  | 6, _ => mSt_6 h n
  | 7, _ => mSt_7 h n
  | k + 8, h => by omega
theorem mStF {w : qW} {ow : Nat} {se : Int32} (h : mKn w ow se) (k : Nat) (hk : k < 8) : mOk w f_X11_standsAs k (aSt se k) := mSt h 98 k hk
theorem mLe_0 {w : qW} {ow : Nat} {se : Int32} (h : mKn w ow se) (n : Nat) : mOk w (G_X11_letsAs (n + 1)) 0 (aLe0 se) := by
  intro r tr x hr
  have hr : r + 1 ≤ 24 := hr
  show q_cl (f_X11_runs (mW w r tr) 11) _ = _
  rw [p_runs _ _ _ _ (by omega), z_cl, ← h.1]
  rfl
theorem mLe_1 {w : qW} {ow : Nat} {se : Int32} (h : mKn w ow se) (n : Nat) : mOk w (G_X11_letsAs (n + 1)) 1 (aLe0 se) := by
  intro r tr x hr
  have hr : r + 1 ≤ 24 := hr
  show q_cl (f_X11_runs (mW w r tr) 11) _ = _
  rw [p_runs _ _ _ _ (by omega), z_cl, ← h.1]
  rfl
theorem mLe_2 {w : qW} {ow : Nat} {se : Int32} (h : mKn w ow se) (n : Nat) : mOk w (G_X11_letsAs (n + 1)) 2 (aLe0 se) := by
  intro r tr x hr
  have hr : r + 1 ≤ 24 := hr
  show q_cl (f_X11_runs (mW w r tr) 11) _ = _
  rw [p_runs _ _ _ _ (by omega), z_cl, ← h.1]
  rfl
theorem mLe_6 {w : qW} {ow : Nat} {se : Int32} (h : mKn w ow se) (n : Nat) : mOk w (G_X11_letsAs (n + 1)) 6 (aLe0 se) := by
  intro r tr x hr
  have hr : r + 1 ≤ 24 := hr
  show q_cl (f_X11_runs (mW w r tr) 11) _ = _
  rw [p_runs _ _ _ _ (by omega), z_cl, ← h.1]
  rfl
theorem mLe_3 {w : qW} {ow : Nat} {se : Int32} (h : mKn w ow se) (n : Nat) : mOk w (G_X11_letsAs (n + 2)) 3 (fun x => ((aLe0 se x).1 * 3, 40 :: (aLe0 se x).2)) := by
  intro r tr x hr
  have hr : r + 2 ≤ 24 := hr
  show q_cl (f_X11_runs (mW w r tr) 40) (fun _ w2 => q_cl (G_X11_letsAs (n + 1) w2 (nI 2) x) (fun r3 w4 => some (r3 * 3, w4))) = _
  rw [p_runs _ _ _ _ (by omega), z_cl, mLe_2 h n (r + 1) (upd tr r 40) x (by show r + 1 + 1 ≤ 24; omega)]
  rfl
theorem mLe_5 {w : qW} {ow : Nat} {se : Int32} (h : mKn w ow se) (n : Nat) : mOk w (G_X11_letsAs (n + 2)) 5 (fun x => ((aLe0 se x).1 * 3, 40 :: (aLe0 se x).2)) := by
  intro r tr x hr
  have hr : r + 2 ≤ 24 := hr
  show q_cl (f_X11_runs (mW w r tr) 40) (fun _ w2 => q_cl (G_X11_letsAs (n + 1) w2 (nI 2) x) (fun r3 w4 => some (r3 * 3, w4))) = _
  rw [p_runs _ _ _ _ (by omega), z_cl, mLe_2 h n (r + 1) (upd tr r 40) x (by show r + 1 + 1 ≤ 24; omega)]
  rfl
theorem mLe_4 {w : qW} {ow : Nat} {se : Int32} (ho : ow < 8) (h : mKn w ow se) (n : Nat) : mOk w (G_X11_letsAs (n + 2)) 4 (fun x => ((aLe0 se x).1 - (aSt se ow 2).1, 50 :: ((aLe0 se x).2 ++ (aSt se ow 2).2))) := by
  intro r tr x hr
  have hr : r + ((aLe0 se x).2.length + (aSt se ow 2).2.length + 1) ≤ 24 := by
    rw [← List.length_append]; exact hr
  show q_cl (f_X11_runs (mW w r tr) 50) (fun _ w2 => q_cl (G_X11_letsAs (n + 1) w2 (nI 1) x) (fun r3 w4 => q_cl (f_X11_standsAs w4 (q_I w4 48 32) 2) (fun r5 w6 => some (r3 - r5, w6)))) = _
  rw [p_runs _ _ _ _ (by omega), z_cl, mLe_1 h n (r + 1) (upd tr r 50) x (by omega), z_cl, show q_I (mW w (r + 1 + (aLe0 se x).2.length) (addT (upd tr r 50) (r + 1) (aLe0 se x).2)) 48 32 = nI ow from h.2, mStF h ow ho (r + 1 + (aLe0 se x).2.length) (addT (upd tr r 50) (r + 1) (aLe0 se x).2) 2 (by omega), z_cl, ← addT_app]
  show _ = some (_, mW w (r + ((50 : Int32) :: ((aLe0 se x).2 ++ (aSt se ow 2).2)).length) (addT (upd tr r 50) (r + 1) ((aLe0 se x).2 ++ (aSt se ow 2).2)))
  rw [List.length_cons, List.length_append, show r + 1 + (aLe0 se x).2.length + (aSt se ow 2).2.length = r + ((aLe0 se x).2.length + (aSt se ow 2).2.length + 1) by omega]
theorem mLe_7 {w : qW} {ow : Nat} {se : Int32} (ho : ow < 8) (h : mKn w ow se) (n : Nat) : mOk w (G_X11_letsAs (n + 2)) 7 (fun x => ((aLe0 se x).1 - (aSt se ow 2).1, 50 :: ((aLe0 se x).2 ++ (aSt se ow 2).2))) := by
  intro r tr x hr
  have hr : r + ((aLe0 se x).2.length + (aSt se ow 2).2.length + 1) ≤ 24 := by
    rw [← List.length_append]; exact hr
  show q_cl (f_X11_runs (mW w r tr) 50) (fun _ w2 => q_cl (G_X11_letsAs (n + 1) w2 (nI 1) x) (fun r3 w4 => q_cl (f_X11_standsAs w4 (q_I w4 48 32) 2) (fun r5 w6 => some (r3 - r5, w6)))) = _
  rw [p_runs _ _ _ _ (by omega), z_cl, mLe_1 h n (r + 1) (upd tr r 50) x (by omega), z_cl, show q_I (mW w (r + 1 + (aLe0 se x).2.length) (addT (upd tr r 50) (r + 1) (aLe0 se x).2)) 48 32 = nI ow from h.2, mStF h ow ho (r + 1 + (aLe0 se x).2.length) (addT (upd tr r 50) (r + 1) (aLe0 se x).2) 2 (by omega), z_cl, ← addT_app]
  show _ = some (_, mW w (r + ((50 : Int32) :: ((aLe0 se x).2 ++ (aSt se ow 2).2)).length) (addT (upd tr r 50) (r + 1) ((aLe0 se x).2 ++ (aSt se ow 2).2)))
  rw [List.length_cons, List.length_append, show r + 1 + (aLe0 se x).2.length + (aSt se ow 2).2.length = r + ((aLe0 se x).2.length + (aSt se ow 2).2.length + 1) by omega]
theorem mLe {w : qW} {ow : Nat} {se : Int32} (ho : ow < 8) (h : mKn w ow se) (n : Nat) : ∀ k : Nat, k < 8 → mOk w (G_X11_letsAs (n + 2)) k (aLe se ow k)
  | 0, _ => mLe_0 h (n + 1)
  | 1, _ => mLe_1 h (n + 1)
  | 2, _ => mLe_2 h (n + 1)
  | 3, _ => mLe_3 h n
  | 4, _ => mLe_4 ho h n
  | 5, _ => mLe_5 h n
  | 6, _ => mLe_6 h (n + 1)
  | 7, _ => mLe_7 ho h n
  | k + 8, h => by omega
theorem mLeF {w : qW} {ow : Nat} {se : Int32} (ho : ow < 8) (h : mKn w ow se) (k : Nat) (hk : k < 8) : mOk w f_X11_letsAs k (aLe se ow k) := mLe ho h 98 k hk
theorem mSw_0 {w : qW} {ow : Nat} {se : Int32} (ho : ow < 8) (h : mKn w ow se) (n : Nat) : mOk w (G_X11_swaysAs (n + 1)) 0 (aSw0 se ow) := by
  intro r tr x hr
  have hr : r + ((aSt se ow x).2.length + 1) ≤ 24 := hr
  show q_cl (f_X11_runs (mW w r tr) 10) (fun _ w2 => q_cl (f_X11_standsAs w2 (q_I w2 48 32) x) (fun r3 w4 => some (r3 * 2, w4))) = _
  rw [p_runs _ _ _ _ (by omega), z_cl, show q_I (mW w (r + 1) (upd tr r 10)) 48 32 = nI ow from h.2, mStF h ow ho (r + 1) (upd tr r 10) x (by omega), z_cl]
  show some (_, mW w (r + 1 + (aSt se ow x).2.length) _) = some (_, mW w (r + ((aSt se ow x).2.length + 1)) _)
  rw [show r + 1 + (aSt se ow x).2.length = r + ((aSt se ow x).2.length + 1) by omega]
  rfl
theorem mSw_1 {w : qW} {ow : Nat} {se : Int32} (ho : ow < 8) (h : mKn w ow se) (n : Nat) : mOk w (G_X11_swaysAs (n + 1)) 1 (aSw0 se ow) := by
  intro r tr x hr
  have hr : r + ((aSt se ow x).2.length + 1) ≤ 24 := hr
  show q_cl (f_X11_runs (mW w r tr) 10) (fun _ w2 => q_cl (f_X11_standsAs w2 (q_I w2 48 32) x) (fun r3 w4 => some (r3 * 2, w4))) = _
  rw [p_runs _ _ _ _ (by omega), z_cl, show q_I (mW w (r + 1) (upd tr r 10)) 48 32 = nI ow from h.2, mStF h ow ho (r + 1) (upd tr r 10) x (by omega), z_cl]
  show some (_, mW w (r + 1 + (aSt se ow x).2.length) _) = some (_, mW w (r + ((aSt se ow x).2.length + 1)) _)
  rw [show r + 1 + (aSt se ow x).2.length = r + ((aSt se ow x).2.length + 1) by omega]
  rfl
theorem mSw_4 {w : qW} {ow : Nat} {se : Int32} (ho : ow < 8) (h : mKn w ow se) (n : Nat) : mOk w (G_X11_swaysAs (n + 1)) 4 (aSw0 se ow) := by
  intro r tr x hr
  have hr : r + ((aSt se ow x).2.length + 1) ≤ 24 := hr
  show q_cl (f_X11_runs (mW w r tr) 10) (fun _ w2 => q_cl (f_X11_standsAs w2 (q_I w2 48 32) x) (fun r3 w4 => some (r3 * 2, w4))) = _
  rw [p_runs _ _ _ _ (by omega), z_cl, show q_I (mW w (r + 1) (upd tr r 10)) 48 32 = nI ow from h.2, mStF h ow ho (r + 1) (upd tr r 10) x (by omega), z_cl]
  show some (_, mW w (r + 1 + (aSt se ow x).2.length) _) = some (_, mW w (r + ((aSt se ow x).2.length + 1)) _)
  rw [show r + 1 + (aSt se ow x).2.length = r + ((aSt se ow x).2.length + 1) by omega]
  rfl
theorem mSw_6 {w : qW} {ow : Nat} {se : Int32} (ho : ow < 8) (h : mKn w ow se) (n : Nat) : mOk w (G_X11_swaysAs (n + 1)) 6 (aSw0 se ow) := by
  intro r tr x hr
  have hr : r + ((aSt se ow x).2.length + 1) ≤ 24 := hr
  show q_cl (f_X11_runs (mW w r tr) 10) (fun _ w2 => q_cl (f_X11_standsAs w2 (q_I w2 48 32) x) (fun r3 w4 => some (r3 * 2, w4))) = _
  rw [p_runs _ _ _ _ (by omega), z_cl, show q_I (mW w (r + 1) (upd tr r 10)) 48 32 = nI ow from h.2, mStF h ow ho (r + 1) (upd tr r 10) x (by omega), z_cl]
  show some (_, mW w (r + 1 + (aSt se ow x).2.length) _) = some (_, mW w (r + ((aSt se ow x).2.length + 1)) _)
  rw [show r + 1 + (aSt se ow x).2.length = r + ((aSt se ow x).2.length + 1) by omega]
  rfl
theorem mSw_2 {w : qW} {ow : Nat} {se : Int32} (ho : ow < 8) (h : mKn w ow se) (n : Nat) : mOk w (G_X11_swaysAs (n + 2)) 2 (aSw2 se ow) := by
  intro r tr x hr
  have hr : r + ((aSw0 se ow x).2.length + 1) ≤ 24 := hr
  show q_cl (f_X11_runs (mW w r tr) 30) (fun _ w2 => q_cl (G_X11_swaysAs (n + 1) w2 (nI 0) x) (fun r3 w4 => some (-r3, w4))) = _
  rw [p_runs _ _ _ _ (by omega), z_cl, mSw_0 ho h n (r + 1) (upd tr r 30) _ (by omega), z_cl]
  show some (_, mW w (r + 1 + (aSw0 se ow x).2.length) _) = some (_, mW w (r + ((aSw0 se ow x).2.length + 1)) _)
  rw [show r + 1 + (aSw0 se ow x).2.length = r + ((aSw0 se ow x).2.length + 1) by omega]
  rfl
theorem mSw_3 {w : qW} {ow : Nat} {se : Int32} (ho : ow < 8) (h : mKn w ow se) (n : Nat) : mOk w (G_X11_swaysAs (n + 3)) 3 (fun x => ((aSw2 se ow (x + 1)).1, 41 :: (aSw2 se ow (x + 1)).2)) := by
  intro r tr x hr
  have hr : r + ((aSw2 se ow (x + 1)).2.length + 1) ≤ 24 := hr
  show q_cl (f_X11_runs (mW w r tr) 41) (fun _ w2 => q_cl (G_X11_swaysAs (n + 2) w2 (nI 2) (x + 1)) (fun r3 w4 => some (r3, w4))) = _
  rw [p_runs _ _ _ _ (by omega), z_cl, mSw_2 ho h n (r + 1) (upd tr r 41) _ (by omega), z_cl]
  show some (_, mW w (r + 1 + (aSw2 se ow (x + 1)).2.length) _) = some (_, mW w (r + ((aSw2 se ow (x + 1)).2.length + 1)) _)
  rw [show r + 1 + (aSw2 se ow (x + 1)).2.length = r + ((aSw2 se ow (x + 1)).2.length + 1) by omega]
  rfl
theorem mSw_5 {w : qW} {ow : Nat} {se : Int32} (ho : ow < 8) (h : mKn w ow se) (n : Nat) : mOk w (G_X11_swaysAs (n + 3)) 5 (fun x => ((aSw2 se ow (x + 1)).1, 41 :: (aSw2 se ow (x + 1)).2)) := by
  intro r tr x hr
  have hr : r + ((aSw2 se ow (x + 1)).2.length + 1) ≤ 24 := hr
  show q_cl (f_X11_runs (mW w r tr) 41) (fun _ w2 => q_cl (G_X11_swaysAs (n + 2) w2 (nI 2) (x + 1)) (fun r3 w4 => some (r3, w4))) = _
  rw [p_runs _ _ _ _ (by omega), z_cl, mSw_2 ho h n (r + 1) (upd tr r 41) _ (by omega), z_cl]
  show some (_, mW w (r + 1 + (aSw2 se ow (x + 1)).2.length) _) = some (_, mW w (r + ((aSw2 se ow (x + 1)).2.length + 1)) _)
  rw [show r + 1 + (aSw2 se ow (x + 1)).2.length = r + ((aSw2 se ow (x + 1)).2.length + 1) by omega]
  rfl
theorem mSw_7 {w : qW} {ow : Nat} {se : Int32} (ho : ow < 8) (h : mKn w ow se) (n : Nat) : mOk w (G_X11_swaysAs (n + 2)) 7 (fun x => ((aSw0 se ow x).1 + (aLe se ow ow 2).1, 80 :: ((aSw0 se ow x).2 ++ (aLe se ow ow 2).2))) := by
  intro r tr x hr
  have hr : r + ((aSw0 se ow x).2.length + (aLe se ow ow 2).2.length + 1) ≤ 24 := by
    rw [← List.length_append]; exact hr
  show q_cl (f_X11_runs (mW w r tr) 80) (fun _ w2 => q_cl (G_X11_swaysAs (n + 1) w2 (nI 4) x) (fun r3 w4 => q_cl (f_X11_letsAs w4 (q_I w4 48 32) 2) (fun r5 w6 => some (r3 + r5, w6)))) = _
  rw [p_runs _ _ _ _ (by omega), z_cl, mSw_4 ho h n (r + 1) (upd tr r 80) x (by omega), z_cl, show q_I (mW w (r + 1 + (aSw0 se ow x).2.length) (addT (upd tr r 80) (r + 1) (aSw0 se ow x).2)) 48 32 = nI ow from h.2, mLeF ho h ow ho (r + 1 + (aSw0 se ow x).2.length) (addT (upd tr r 80) (r + 1) (aSw0 se ow x).2) 2 (by omega), z_cl, ← addT_app]
  show _ = some (_, mW w (r + ((80 : Int32) :: ((aSw0 se ow x).2 ++ (aLe se ow ow 2).2)).length) (addT (upd tr r 80) (r + 1) ((aSw0 se ow x).2 ++ (aLe se ow ow 2).2)))
  rw [List.length_cons, List.length_append, show r + 1 + (aSw0 se ow x).2.length + (aLe se ow ow 2).2.length = r + ((aSw0 se ow x).2.length + (aLe se ow ow 2).2.length + 1) by omega]
theorem mSw {w : qW} {ow : Nat} {se : Int32} (ho : ow < 8) (h : mKn w ow se) (n : Nat) : ∀ k : Nat, k < 8 → mOk w (G_X11_swaysAs (n + 3)) k (aSw se ow k)
  | 0, _ => mSw_0 ho h (n + 2)
  | 1, _ => mSw_1 ho h (n + 2)
  | 2, _ => mSw_2 ho h (n + 1)
  | 3, _ => mSw_3 ho h n
  | 4, _ => mSw_4 ho h (n + 2)
  | 5, _ => mSw_5 ho h n
  | 6, _ => mSw_6 ho h (n + 2)
  | 7, _ => mSw_7 ho h (n + 1)
  | k + 8, h => by omega
theorem mSwF {w : qW} {ow : Nat} {se : Int32} (ho : ow < 8) (h : mKn w ow se) (k : Nat) (hk : k < 8) : mOk w f_X11_swaysAs k (aSw se ow k) := mSw ho h 97 k hk
theorem mTe_0 {w : qW} {ow : Nat} {se : Int32} (ho : ow < 8) (h : mKn w ow se) (n : Nat) : mOk w (G_X11_tellsAs (n + 1)) 0 (fun x => ((aSw se ow ow x).1 - (aLe se ow ow 1).1, 2 :: ((aSw se ow ow x).2 ++ (aLe se ow ow 1).2))) := by
  intro r tr x hr
  have hr : r + ((aSw se ow ow x).2.length + (aLe se ow ow 1).2.length + 1) ≤ 24 := by
    rw [← List.length_append]; exact hr
  show q_cl (f_X11_runs (mW w r tr) 2) (fun _ w2 => q_cl (f_X11_swaysAs w2 (q_I w2 48 32) x) (fun r3 w4 => q_cl (f_X11_letsAs w4 (q_I w4 48 32) 1) (fun r5 w6 => some (r3 - r5, w6)))) = _
  rw [p_runs _ _ _ _ (by omega), z_cl, show q_I (mW w (r + 1) (upd tr r 2)) 48 32 = nI ow from h.2, mSwF ho h ow ho (r + 1) (upd tr r 2) x (by omega), z_cl, show q_I (mW w (r + 1 + (aSw se ow ow x).2.length) (addT (upd tr r 2) (r + 1) (aSw se ow ow x).2)) 48 32 = nI ow from h.2, mLeF ho h ow ho (r + 1 + (aSw se ow ow x).2.length) (addT (upd tr r 2) (r + 1) (aSw se ow ow x).2) 1 (by omega), z_cl, ← addT_app]
  show _ = some (_, mW w (r + ((2 : Int32) :: ((aSw se ow ow x).2 ++ (aLe se ow ow 1).2)).length) (addT (upd tr r 2) (r + 1) ((aSw se ow ow x).2 ++ (aLe se ow ow 1).2)))
  rw [List.length_cons, List.length_append, show r + 1 + (aSw se ow ow x).2.length + (aLe se ow ow 1).2.length = r + ((aSw se ow ow x).2.length + (aLe se ow ow 1).2.length + 1) by omega]
theorem mTe_1 {w : qW} {ow : Nat} {se : Int32} (ho : ow < 8) (h : mKn w ow se) (n : Nat) : mOk w (G_X11_tellsAs (n + 1)) 1 (fun x => ((aSw se ow ow x).1 - (aLe se ow ow 1).1, 2 :: ((aSw se ow ow x).2 ++ (aLe se ow ow 1).2))) := by
  intro r tr x hr
  have hr : r + ((aSw se ow ow x).2.length + (aLe se ow ow 1).2.length + 1) ≤ 24 := by
    rw [← List.length_append]; exact hr
  show q_cl (f_X11_runs (mW w r tr) 2) (fun _ w2 => q_cl (f_X11_swaysAs w2 (q_I w2 48 32) x) (fun r3 w4 => q_cl (f_X11_letsAs w4 (q_I w4 48 32) 1) (fun r5 w6 => some (r3 - r5, w6)))) = _
  rw [p_runs _ _ _ _ (by omega), z_cl, show q_I (mW w (r + 1) (upd tr r 2)) 48 32 = nI ow from h.2, mSwF ho h ow ho (r + 1) (upd tr r 2) x (by omega), z_cl, show q_I (mW w (r + 1 + (aSw se ow ow x).2.length) (addT (upd tr r 2) (r + 1) (aSw se ow ow x).2)) 48 32 = nI ow from h.2, mLeF ho h ow ho (r + 1 + (aSw se ow ow x).2.length) (addT (upd tr r 2) (r + 1) (aSw se ow ow x).2) 1 (by omega), z_cl, ← addT_app]
  show _ = some (_, mW w (r + ((2 : Int32) :: ((aSw se ow ow x).2 ++ (aLe se ow ow 1).2)).length) (addT (upd tr r 2) (r + 1) ((aSw se ow ow x).2 ++ (aLe se ow ow 1).2)))
  rw [List.length_cons, List.length_append, show r + 1 + (aSw se ow ow x).2.length + (aLe se ow ow 1).2.length = r + ((aSw se ow ow x).2.length + (aLe se ow ow 1).2.length + 1) by omega]
theorem mTe_2 {w : qW} {ow : Nat} {se : Int32} (ho : ow < 8) (h : mKn w ow se) (n : Nat) : mOk w (G_X11_tellsAs (n + 1)) 2 (fun x => ((aSw se ow ow x).1 - (aLe se ow ow 1).1, 2 :: ((aSw se ow ow x).2 ++ (aLe se ow ow 1).2))) := by
  intro r tr x hr
  have hr : r + ((aSw se ow ow x).2.length + (aLe se ow ow 1).2.length + 1) ≤ 24 := by
    rw [← List.length_append]; exact hr
  show q_cl (f_X11_runs (mW w r tr) 2) (fun _ w2 => q_cl (f_X11_swaysAs w2 (q_I w2 48 32) x) (fun r3 w4 => q_cl (f_X11_letsAs w4 (q_I w4 48 32) 1) (fun r5 w6 => some (r3 - r5, w6)))) = _
  rw [p_runs _ _ _ _ (by omega), z_cl, show q_I (mW w (r + 1) (upd tr r 2)) 48 32 = nI ow from h.2, mSwF ho h ow ho (r + 1) (upd tr r 2) x (by omega), z_cl, show q_I (mW w (r + 1 + (aSw se ow ow x).2.length) (addT (upd tr r 2) (r + 1) (aSw se ow ow x).2)) 48 32 = nI ow from h.2, mLeF ho h ow ho (r + 1 + (aSw se ow ow x).2.length) (addT (upd tr r 2) (r + 1) (aSw se ow ow x).2) 1 (by omega), z_cl, ← addT_app]
  show _ = some (_, mW w (r + ((2 : Int32) :: ((aSw se ow ow x).2 ++ (aLe se ow ow 1).2)).length) (addT (upd tr r 2) (r + 1) ((aSw se ow ow x).2 ++ (aLe se ow ow 1).2)))
  rw [List.length_cons, List.length_append, show r + 1 + (aSw se ow ow x).2.length + (aLe se ow ow 1).2.length = r + ((aSw se ow ow x).2.length + (aLe se ow ow 1).2.length + 1) by omega]
theorem mTe_3 {w : qW} {ow : Nat} {se : Int32} (ho : ow < 8) (h : mKn w ow se) (n : Nat) : mOk w (G_X11_tellsAs (n + 1)) 3 (fun x => ((aSw se ow ow x).1 - (aLe se ow ow 1).1, 2 :: ((aSw se ow ow x).2 ++ (aLe se ow ow 1).2))) := by
  intro r tr x hr
  have hr : r + ((aSw se ow ow x).2.length + (aLe se ow ow 1).2.length + 1) ≤ 24 := by
    rw [← List.length_append]; exact hr
  show q_cl (f_X11_runs (mW w r tr) 2) (fun _ w2 => q_cl (f_X11_swaysAs w2 (q_I w2 48 32) x) (fun r3 w4 => q_cl (f_X11_letsAs w4 (q_I w4 48 32) 1) (fun r5 w6 => some (r3 - r5, w6)))) = _
  rw [p_runs _ _ _ _ (by omega), z_cl, show q_I (mW w (r + 1) (upd tr r 2)) 48 32 = nI ow from h.2, mSwF ho h ow ho (r + 1) (upd tr r 2) x (by omega), z_cl, show q_I (mW w (r + 1 + (aSw se ow ow x).2.length) (addT (upd tr r 2) (r + 1) (aSw se ow ow x).2)) 48 32 = nI ow from h.2, mLeF ho h ow ho (r + 1 + (aSw se ow ow x).2.length) (addT (upd tr r 2) (r + 1) (aSw se ow ow x).2) 1 (by omega), z_cl, ← addT_app]
  show _ = some (_, mW w (r + ((2 : Int32) :: ((aSw se ow ow x).2 ++ (aLe se ow ow 1).2)).length) (addT (upd tr r 2) (r + 1) ((aSw se ow ow x).2 ++ (aLe se ow ow 1).2)))
  rw [List.length_cons, List.length_append, show r + 1 + (aSw se ow ow x).2.length + (aLe se ow ow 1).2.length = r + ((aSw se ow ow x).2.length + (aLe se ow ow 1).2.length + 1) by omega]
theorem mTe_4 {w : qW} {ow : Nat} {se : Int32} (ho : ow < 8) (h : mKn w ow se) (n : Nat) : mOk w (G_X11_tellsAs (n + 1)) 4 (fun x => ((aSw se ow ow x).1 - (aLe se ow ow 1).1, 2 :: ((aSw se ow ow x).2 ++ (aLe se ow ow 1).2))) := by
  intro r tr x hr
  have hr : r + ((aSw se ow ow x).2.length + (aLe se ow ow 1).2.length + 1) ≤ 24 := by
    rw [← List.length_append]; exact hr
  show q_cl (f_X11_runs (mW w r tr) 2) (fun _ w2 => q_cl (f_X11_swaysAs w2 (q_I w2 48 32) x) (fun r3 w4 => q_cl (f_X11_letsAs w4 (q_I w4 48 32) 1) (fun r5 w6 => some (r3 - r5, w6)))) = _
  rw [p_runs _ _ _ _ (by omega), z_cl, show q_I (mW w (r + 1) (upd tr r 2)) 48 32 = nI ow from h.2, mSwF ho h ow ho (r + 1) (upd tr r 2) x (by omega), z_cl, show q_I (mW w (r + 1 + (aSw se ow ow x).2.length) (addT (upd tr r 2) (r + 1) (aSw se ow ow x).2)) 48 32 = nI ow from h.2, mLeF ho h ow ho (r + 1 + (aSw se ow ow x).2.length) (addT (upd tr r 2) (r + 1) (aSw se ow ow x).2) 1 (by omega), z_cl, ← addT_app]
  show _ = some (_, mW w (r + ((2 : Int32) :: ((aSw se ow ow x).2 ++ (aLe se ow ow 1).2)).length) (addT (upd tr r 2) (r + 1) ((aSw se ow ow x).2 ++ (aLe se ow ow 1).2)))
  rw [List.length_cons, List.length_append, show r + 1 + (aSw se ow ow x).2.length + (aLe se ow ow 1).2.length = r + ((aSw se ow ow x).2.length + (aLe se ow ow 1).2.length + 1) by omega]
theorem mTe_6 {w : qW} {ow : Nat} {se : Int32} (ho : ow < 8) (h : mKn w ow se) (n : Nat) : mOk w (G_X11_tellsAs (n + 1)) 6 (fun x => ((aSw se ow ow x).1 - (aLe se ow ow 1).1, 2 :: ((aSw se ow ow x).2 ++ (aLe se ow ow 1).2))) := by
  intro r tr x hr
  have hr : r + ((aSw se ow ow x).2.length + (aLe se ow ow 1).2.length + 1) ≤ 24 := by
    rw [← List.length_append]; exact hr
  show q_cl (f_X11_runs (mW w r tr) 2) (fun _ w2 => q_cl (f_X11_swaysAs w2 (q_I w2 48 32) x) (fun r3 w4 => q_cl (f_X11_letsAs w4 (q_I w4 48 32) 1) (fun r5 w6 => some (r3 - r5, w6)))) = _
  rw [p_runs _ _ _ _ (by omega), z_cl, show q_I (mW w (r + 1) (upd tr r 2)) 48 32 = nI ow from h.2, mSwF ho h ow ho (r + 1) (upd tr r 2) x (by omega), z_cl, show q_I (mW w (r + 1 + (aSw se ow ow x).2.length) (addT (upd tr r 2) (r + 1) (aSw se ow ow x).2)) 48 32 = nI ow from h.2, mLeF ho h ow ho (r + 1 + (aSw se ow ow x).2.length) (addT (upd tr r 2) (r + 1) (aSw se ow ow x).2) 1 (by omega), z_cl, ← addT_app]
  show _ = some (_, mW w (r + ((2 : Int32) :: ((aSw se ow ow x).2 ++ (aLe se ow ow 1).2)).length) (addT (upd tr r 2) (r + 1) ((aSw se ow ow x).2 ++ (aLe se ow ow 1).2)))
  rw [List.length_cons, List.length_append, show r + 1 + (aSw se ow ow x).2.length + (aLe se ow ow 1).2.length = r + ((aSw se ow ow x).2.length + (aLe se ow ow 1).2.length + 1) by omega]
theorem mTe_5 {w : qW} {ow : Nat} {se : Int32} (ho : ow < 8) (h : mKn w ow se) (n : Nat) : mOk w (G_X11_tellsAs (n + 2)) 5 (fun x => ((aTe0 se ow x).1 ^^^ 5, 60 :: (aTe0 se ow x).2)) := by
  intro r tr x hr
  have hr : r + ((aTe0 se ow x).2.length + 1) ≤ 24 := hr
  show q_cl (f_X11_runs (mW w r tr) 60) (fun _ w2 => q_cl (G_X11_tellsAs (n + 1) w2 (nI 3) x) (fun r3 w4 => some (r3 ^^^ 5, w4))) = _
  rw [p_runs _ _ _ _ (by omega), z_cl, (show mOk w (G_X11_tellsAs (n + 1)) 3 (aTe0 se ow) from mTe_3 ho h n) (r + 1) (upd tr r 60) _ (by omega), z_cl]
  show some (_, mW w (r + 1 + (aTe0 se ow x).2.length) _) = some (_, mW w (r + ((aTe0 se ow x).2.length + 1)) _)
  rw [show r + 1 + (aTe0 se ow x).2.length = r + ((aTe0 se ow x).2.length + 1) by omega]
  rfl
theorem mTe_7 {w : qW} {ow : Nat} {se : Int32} (ho : ow < 8) (h : mKn w ow se) (n : Nat) : mOk w (G_X11_tellsAs (n + 2)) 7 (fun x => ((aTe0 se ow x).1 - 1, 81 :: (aTe0 se ow x).2)) := by
  intro r tr x hr
  have hr : r + ((aTe0 se ow x).2.length + 1) ≤ 24 := hr
  show q_cl (f_X11_runs (mW w r tr) 81) (fun _ w2 => q_cl (G_X11_tellsAs (n + 1) w2 (nI 4) x) (fun r3 w4 => some (r3 - 1, w4))) = _
  rw [p_runs _ _ _ _ (by omega), z_cl, (show mOk w (G_X11_tellsAs (n + 1)) 4 (aTe0 se ow) from mTe_4 ho h n) (r + 1) (upd tr r 81) _ (by omega), z_cl]
  show some (_, mW w (r + 1 + (aTe0 se ow x).2.length) _) = some (_, mW w (r + ((aTe0 se ow x).2.length + 1)) _)
  rw [show r + 1 + (aTe0 se ow x).2.length = r + ((aTe0 se ow x).2.length + 1) by omega]
  rfl
theorem mTe {w : qW} {ow : Nat} {se : Int32} (ho : ow < 8) (h : mKn w ow se) (n : Nat) : ∀ k : Nat, k < 8 → mOk w (G_X11_tellsAs (n + 2)) k (aTe se ow k)
  | 0, _ => mTe_0 ho h (n + 1)
  | 1, _ => mTe_1 ho h (n + 1)
  | 2, _ => mTe_2 ho h (n + 1)
  | 3, _ => mTe_3 ho h (n + 1)
  | 4, _ => mTe_4 ho h (n + 1)
  | 5, _ => mTe_5 ho h n
  | 6, _ => mTe_6 ho h (n + 1)
  | 7, _ => mTe_7 ho h n
  | k + 8, h => by omega
theorem mTeF {w : qW} {ow : Nat} {se : Int32} (ho : ow < 8) (h : mKn w ow se) (k : Nat) (hk : k < 8) : mOk w f_X11_tellsAs k (aTe se ow k) := mTe ho h 98 k hk
theorem aA_len (se x : Int32) : ∀ ow : Nat, ow < 8 → ∀ d : Nat, d < 4 → (aA se ow d ow x).2.length ≤ 24
  | 0, _, 0, _ => Nat.le_of_ble_eq_true rfl
  | 0, _, 1, _ => Nat.le_of_ble_eq_true rfl
  | 0, _, 2, _ => Nat.le_of_ble_eq_true rfl
  | 0, _, 3, _ => Nat.le_of_ble_eq_true rfl
  | 0, _, d + 4, h => by omega
  | 1, _, 0, _ => Nat.le_of_ble_eq_true rfl
  | 1, _, 1, _ => Nat.le_of_ble_eq_true rfl
  | 1, _, 2, _ => Nat.le_of_ble_eq_true rfl
  | 1, _, 3, _ => Nat.le_of_ble_eq_true rfl
  | 1, _, d + 4, h => by omega
  | 2, _, 0, _ => Nat.le_of_ble_eq_true rfl
  | 2, _, 1, _ => Nat.le_of_ble_eq_true rfl
  | 2, _, 2, _ => Nat.le_of_ble_eq_true rfl
  | 2, _, 3, _ => Nat.le_of_ble_eq_true rfl
  | 2, _, d + 4, h => by omega
  | 3, _, 0, _ => Nat.le_of_ble_eq_true rfl
  | 3, _, 1, _ => Nat.le_of_ble_eq_true rfl
  | 3, _, 2, _ => Nat.le_of_ble_eq_true rfl
  | 3, _, 3, _ => Nat.le_of_ble_eq_true rfl
  | 3, _, d + 4, h => by omega
  | 4, _, 0, _ => Nat.le_of_ble_eq_true rfl
  | 4, _, 1, _ => Nat.le_of_ble_eq_true rfl
  | 4, _, 2, _ => Nat.le_of_ble_eq_true rfl
  | 4, _, 3, _ => Nat.le_of_ble_eq_true rfl
  | 4, _, d + 4, h => by omega
  | 5, _, 0, _ => Nat.le_of_ble_eq_true rfl
  | 5, _, 1, _ => Nat.le_of_ble_eq_true rfl
  | 5, _, 2, _ => Nat.le_of_ble_eq_true rfl
  | 5, _, 3, _ => Nat.le_of_ble_eq_true rfl
  | 5, _, d + 4, h => by omega
  | 6, _, 0, _ => Nat.le_of_ble_eq_true rfl
  | 6, _, 1, _ => Nat.le_of_ble_eq_true rfl
  | 6, _, 2, _ => Nat.le_of_ble_eq_true rfl
  | 6, _, 3, _ => Nat.le_of_ble_eq_true rfl
  | 6, _, d + 4, h => by omega
  | 7, _, 0, _ => Nat.le_of_ble_eq_true rfl
  | 7, _, 1, _ => Nat.le_of_ble_eq_true rfl
  | 7, _, 2, _ => Nat.le_of_ble_eq_true rfl
  | 7, _, 3, _ => Nat.le_of_ble_eq_true rfl
  | 7, _, d + 4, h => by omega
  | ow + 8, h, _, _ => by omega
theorem p_act : j_act := by
  intro a d x w hJ
  show ∃ r w1 w2, f_X10_act w a d x = some (r, w1) ∧ f_X11_act w1 a d x = some (r, w2) ∧ Jn w2
  obtain ⟨hP, hC, hD, ⟨h1, h2, h3, h4, h5, h6⟩, hS, hL, hR⟩ := id hJ
  have mst : ∀ w1 : qW, q_I w1 48 28 = q_I w 32 1 → f_X11_isBody (q_sI w1 48 31 0) a = some (b2i (decide (0 ≤ a.toInt) && decide (a.toInt < (q_I w 32 1).toInt)), q_sI w1 48 31 0) := by
    intro w1 h28
    have h28 : q_I (q_sI w1 48 31 0) 48 28 = q_I w 32 1 := h28
    unfold f_X11_isBody
    rw [p_within32, z_cl, b2i_and, d0, h28, Int32.toInt_toInt64, t_sub _ _ (by rw [c1]; omega) (by rw [c1]; omega), c1]
    have e : (decide (a.toInt ≤ (q_I w 32 1).toInt - 1)) = decide (a.toInt < (q_I w 32 1).toInt) := by
      by_cases h : a.toInt < (q_I w 32 1).toInt
      · rw [decide_eq_true h, decide_eq_true (show a.toInt ≤ (q_I w 32 1).toInt - 1 by omega)]
      · rw [decide_eq_false h, decide_eq_false (show ¬ a.toInt ≤ (q_I w 32 1).toInt - 1 by omega)]
    rw [e]
  by_cases ha : 0 ≤ a.toInt ∧ a.toInt < (q_I w 32 1).toInt
  · obtain ⟨hk1, hk2⟩ := h6 a.toInt.toNat (by omega)
    obtain ⟨ow, how⟩ : ∃ ow : Nat, ow = (q_A w 33 a.toInt.toNat).toInt.toNat := ⟨_, rfl⟩
    have eow : q_A w 33 a.toInt.toNat = nI ow := by rw [how]; exact z_nI _ hk1
    have ho : ow < 8 := by omega
    by_cases hd : 0 ≤ d.toInt ∧ d.toInt < 4
    · obtain ⟨dd, hdd⟩ : ∃ dd : Nat, dd = d.toInt.toNat := ⟨_, rfl⟩
      have ed : d = nI dd := by rw [hdd]; exact z_nI _ hd.1
      have hd4 : dd < 4 := by omega
      obtain ⟨wc, hwc⟩ : ∃ wc : qW, wc = q_sI (q_sI w 32 3 0) 32 4 a := ⟨_, rfl⟩
      have hcK : cKn wc ow a := by
        refine ⟨by rw [hwc]; rfl, fun r tr => ?_⟩
        have i4 : q_I (cW wc r tr) 32 4 = a := by rw [hwc]; rfl
        have i1 : q_I (cW wc r tr) 32 1 = q_I w 32 1 := by rw [hwc]; rfl
        have a33 : q_A (cW wc r tr) 33 = q_A w 33 := by rw [hwc]; rfl
        unfold f_X8_kindOf
        rw [i4, i1, a33, if_neg (by rw [z_lt, c0]; omega), if_neg (by rw [z_le]; omega), z_ld _ _ _ _ (by omega), eow]
      have hw0 : cW wc 0 (q_A w 34) = wc := by
        have e1 : q_A wc 34 = q_A w 34 := by rw [hwc]; rfl
        have e2 : nI 0 = q_I wc 32 3 := by rw [hwc]; rfl
        unfold cW
        rw [← e1, sA_self, e2, sI_self]
      have hlen := aA_len a x ow ho dd hd4
      have hcl : aFrm 99 wc (nI ow) (nI dd) x (nI 0) = some ((aA a ow dd ow x).1, cW wc (0 + (aA a ow dd ow x).2.length) (addT (q_A w 34) 0 (aA a ow dd ow x).2)) := by
        have hh : ∀ dd : Nat, dd < 4 → cOk wc 99 0 dd ow (fun x => aA a ow dd ow x) := fun dd hd => match dd, hd with
          | 0, _ => cSt hcK 94 0 (by omega) ow ho
          | 1, _ => cSw ho hcK 85 0 (by omega) ow ho
          | 2, _ => cLe ho hcK 91 0 (by omega) ow ho
          | 3, _ => cTe ho hcK 79 0 (by omega) ow ho
          | d + 4, h => by omega
        have := hh dd hd4 0 (q_A w 34) x (by show 0 + (aA a ow dd ow x).2.length ≤ 24; omega)
        rw [hw0] at this
        exact this
      have e1 : f_X10_act w a d x = some ((aA a ow dd ow x).1, cW wc (0 + (aA a ow dd ow x).2.length) (addT (q_A w 34) 0 (aA a ow dd ow x).2)) := by
        unfold f_X10_act f_X8_perform
        rw [z_bn, show q_I (q_sI w 32 3 0) 32 1 = q_I w 32 1 from rfl, if_neg (by rw [z_lt, c0]; omega), if_neg (by rw [z_le]; omega), if_neg (by rw [z_lt, c0]; omega), if_pos (by rw [z_lt, c4]; exact hd.2), z_bn, ← hwc]
        have ho2 : f_X8_own wc d x 0 = aFrm 99 wc (nI ow) (nI dd) x (nI 0) := by
          show aOwn (99 + 1) wc d x 0 = _
          rw [ed, own_eq]
          have := hcK.2 0 (q_A w 34)
          rw [hw0] at this
          rw [this, z_cl]
          rfl
        rw [ho2, hcl]
        rfl
      generalize hl : aA a ow dd ow x = T at *
      generalize hw1 : cW wc (0 + T.2.length) (addT (q_A w 34) 0 T.2) = w1 at e1
      obtain ⟨wm, hwm⟩ : ∃ wm : qW, wm = q_sI (q_sI (q_sI w1 48 31 0) 48 32 (nI ow)) 48 33 a := ⟨_, rfl⟩
      have hmK : mKn wm ow a := ⟨by rw [hwm]; rfl, by rw [hwm]; rfl⟩
      have a62 : q_A w1 62 = q_A w 34 := by rw [← hw1, hwc]; exact h5
      have hm0 : mW wm 0 (q_A w 34) = wm := by
        have e1 : q_A wm 62 = q_A w 34 := by rw [hwm]; exact a62
        have e2 : nI 0 = q_I wm 48 31 := by rw [hwm]; rfl
        unfold mW
        rw [← e1, sA_self, e2, sI_self]
      refine ⟨_, w1, mW wm (0 + T.2.length) (addT (q_A w 34) 0 T.2), e1, ?_, ?_⟩
      · unfold f_X11_act
        rw [z_bn, mst w1 (by rw [← hw1, hwc]; exact h2), z_cl, decide_eq_true ha.1, decide_eq_true ha.2, Bool.and_self, b2i_t, if_neg n1_0]
        have a61 : q_A (q_sI w1 48 31 0) 61 = q_A w 33 := by rw [← hw1, hwc]; exact h4
        rw [a61, z_ld _ _ _ _ (by omega), eow, z_bn, z_bn, ← hwm, show q_I wm 48 32 = nI ow from hmK.2]
        have hh : ∀ dd : Nat, dd < 4 → aA a ow dd ow x = T → (if (nI dd) = 0 then (q_cl (f_X11_standsAs wm (nI ow) x) (fun r7 w8 => some (r7, w8))) else (if (nI dd) = 1 then (q_cl (f_X11_swaysAs wm (nI ow) x) (fun r10 w11 => some (r10, w11))) else (if (nI dd) = 2 then (q_cl (f_X11_letsAs wm (nI ow) x) (fun r13 w14 => some (r13, w14))) else (if (nI dd) = 3 then (q_cl (f_X11_tellsAs wm (nI ow) x) (fun r16 w17 => some (r16, w17))) else (some (0, wm)))))) = some (T.1, mW wm (0 + T.2.length) (addT (q_A w 34) 0 T.2)) := by
          intro dd hd hT
          subst hT
          match dd, hd with
          | 0, _ =>
            show q_cl (f_X11_standsAs wm (nI ow) x) (fun r7 w8 => some (r7, w8)) = _
            have := mStF hmK ow ho 0 (q_A w 34) x (by show 0 + (aA a ow 0 ow x).2.length ≤ 24; omega)
            rw [hm0] at this
            rw [q_cl_id, this]
            rfl
          | 1, _ =>
            show q_cl (f_X11_swaysAs wm (nI ow) x) (fun r7 w8 => some (r7, w8)) = _
            have := mSwF ho hmK ow ho 0 (q_A w 34) x (by show 0 + (aA a ow 1 ow x).2.length ≤ 24; omega)
            rw [hm0] at this
            rw [q_cl_id, this]
            rfl
          | 2, _ =>
            show q_cl (f_X11_letsAs wm (nI ow) x) (fun r7 w8 => some (r7, w8)) = _
            have := mLeF ho hmK ow ho 0 (q_A w 34) x (by show 0 + (aA a ow 2 ow x).2.length ≤ 24; omega)
            rw [hm0] at this
            rw [q_cl_id, this]
            rfl
          | 3, _ =>
            show q_cl (f_X11_tellsAs wm (nI ow) x) (fun r7 w8 => some (r7, w8)) = _
            have := mTeF ho hmK ow ho 0 (q_A w 34) x (by show 0 + (aA a ow 3 ow x).2.length ≤ 24; omega)
            rw [hm0] at this
            rw [q_cl_id, this]
            rfl
          | d + 4, h => omega
        have := hh dd hd4 hl
        rw [← ed] at this
        exact this
      · rw [hwm, ← hw1, hwc]
        exact ⟨hP, hC, hD, ⟨h1, h2, rfl, h4, rfl, h6⟩, hS, hL, hR⟩
    · refine ⟨0, q_sI w 32 3 0, q_sI (q_sI (q_sI (q_sI w 32 3 0) 48 31 0) 48 32 (nI ow)) 48 33 a, ?_, ?_, ?_⟩
      · unfold f_X10_act f_X8_perform
        rw [z_bn, show q_I (q_sI w 32 3 0) 32 1 = q_I w 32 1 from rfl, if_neg (by rw [z_lt, c0]; omega), if_neg (by rw [z_le]; omega)]
        by_cases q : d.toInt < 0
        · rw [if_pos (by rw [z_lt, c0]; exact q)]
          rfl
        · rw [if_neg (by rw [z_lt, c0]; exact q), if_neg (by rw [z_lt, c4]; omega)]
          rfl
      · unfold f_X11_act
        rw [z_bn, mst (q_sI w 32 3 0) h2, z_cl, decide_eq_true ha.1, decide_eq_true ha.2, Bool.and_self, b2i_t, if_neg n1_0]
        have a61 : q_A (q_sI (q_sI w 32 3 0) 48 31 0) 61 = q_A w 33 := h4
        rw [a61, z_ld _ _ _ _ (by omega), eow, z_bn, z_bn, if_neg (by rw [z_eq, c0]; omega), if_neg (by rw [z_eq, c1]; omega), if_neg (by rw [z_eq, c2]; omega), if_neg (by rw [z_eq, c3]; omega)]
      · exact ⟨hP, hC, hD, ⟨h1, h2, rfl, h4, h5, h6⟩, hS, hL, hR⟩
  · refine ⟨0, q_sI w 32 3 0, q_sI (q_sI w 32 3 0) 48 31 0, ?_, ?_, ?_⟩
    · unfold f_X10_act f_X8_perform
      rw [z_bn, show q_I (q_sI w 32 3 0) 32 1 = q_I w 32 1 from rfl]
      by_cases q : a.toInt < 0
      · rw [if_pos (by rw [z_lt, c0]; exact q)]
        rfl
      · rw [if_neg (by rw [z_lt, c0]; exact q), if_pos (by rw [z_le]; omega)]
        rfl
    · unfold f_X11_act
      have hb : (decide (0 ≤ a.toInt) && decide (a.toInt < (q_I w 32 1).toInt)) = false := by simp; omega
      rw [z_bn, mst (q_sI w 32 3 0) h2, z_cl, hb]
      rfl
    · exact ⟨hP, hC, hD, ⟨h1, h2, rfl, h4, h5, h6⟩, hS, hL, hR⟩
