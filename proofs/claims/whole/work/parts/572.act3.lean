def cOk (w : qW) (n dep d k : Nat) (T : Int32 → aT) : Prop := ∀ (r : Nat) (tr : Nat → Int32) (x : Int32), r + (T x).2.length ≤ 24 → aFrm n (cW w r tr) (nI k) (nI d) x (nI dep) = some ((T x).1, cW w (r + (T x).2.length) (addT tr r (T x).2))
def cKn (w : qW) (ow : Nat) (se : Int32) : Prop := q_I w 32 4 = se ∧ ∀ (r : Nat) (tr : Nat → Int32), f_X8_kindOf (cW w r tr) (q_I (cW w r tr) 32 4) = some (nI ow, cW w r tr)
theorem own_at {w : qW} {ow : Nat} {se : Int32} (h : cKn w ow se) (n r : Nat) (tr : Nat → Int32) (d x dep : Int32) : aOwn (n + 1) (cW w r tr) d x dep = aFrm n (cW w r tr) (nI ow) d x dep := by
  rw [own_eq, h.2, z_cl]
theorem cSt_0 {w : qW} {ow : Nat} {se : Int32} (h : cKn w ow se) (n dep : Nat) (hd : dep < 30) : cOk w (n + 2) dep 0 0 (aSt0 se) := by
  intro r tr x hr
  have hr : r + 1 ≤ 24 := hr
  rw [frm_0_0 _ _ _ _ hd, run_eq _ _ _ _ _ _ _ _ (by omega)]
  rw [← h.1]
  rfl
theorem cSt_2 {w : qW} {ow : Nat} {se : Int32} (h : cKn w ow se) (n dep : Nat) (hd : dep < 30) : cOk w (n + 2) dep 0 2 (aSt0 se) := by
  intro r tr x hr
  have hr : r + 1 ≤ 24 := hr
  rw [frm_2_0 _ _ _ _ hd, run_eq _ _ _ _ _ _ _ _ (by omega)]
  rw [← h.1]
  rfl
theorem cSt_3 {w : qW} {ow : Nat} {se : Int32} (h : cKn w ow se) (n dep : Nat) (hd : dep < 30) : cOk w (n + 2) dep 0 3 (aSt0 se) := by
  intro r tr x hr
  have hr : r + 1 ≤ 24 := hr
  rw [frm_3_0 _ _ _ _ hd, run_eq _ _ _ _ _ _ _ _ (by omega)]
  rw [← h.1]
  rfl
theorem cSt_5 {w : qW} {ow : Nat} {se : Int32} (h : cKn w ow se) (n dep : Nat) (hd : dep < 30) : cOk w (n + 2) dep 0 5 (aSt0 se) := by
  intro r tr x hr
  have hr : r + 1 ≤ 24 := hr
  rw [frm_5_0 _ _ _ _ hd, run_eq _ _ _ _ _ _ _ _ (by omega)]
  rw [← h.1]
  rfl
theorem cSt_1 {w : qW} {ow : Nat} {se : Int32} (h : cKn w ow se) (n dep : Nat) (hd : dep < 29) : cOk w (n + 5) dep 0 1 (fun x => ((aSt0 se x).1 + 3, 20 :: (aSt0 se x).2)) := by
  intro r tr x hr
  have hr : r + 2 ≤ 24 := hr
  rw [frm_1_0 _ _ _ _ (by omega), run_eq _ _ _ _ _ _ _ _ (by omega)]
  show q_cl (aOvr (n + 3) (cW w (r + 1) (upd tr r 20)) 1 0 x (nI (dep + 1))) _ = _
  rw [ovr_1]
  have e := cSt_0 h n (dep + 1) (by omega) (r + 1) (upd tr r 20) x (by show r + 1 + 1 ≤ 24; omega)
  show q_cl (aFrm (n + 2) (cW w (r + 1) (upd tr r 20)) (nI 0) (nI 0) x (nI (dep + 1))) _ = _
  rw [e]
  rfl
theorem cSt_4 {w : qW} {ow : Nat} {se : Int32} (h : cKn w ow se) (n dep : Nat) (hd : dep < 29) : cOk w (n + 5) dep 0 4 (fun x => ((aSt0 se x).1 + 3, 20 :: (aSt0 se x).2)) := by
  intro r tr x hr
  have hr : r + 2 ≤ 24 := hr
  rw [frm_4_0 _ _ _ _ (by omega), run_eq _ _ _ _ _ _ _ _ (by omega)]
  show q_cl (aOvr (n + 3) (cW w (r + 1) (upd tr r 20)) 1 0 x (nI (dep + 1))) _ = _
  rw [ovr_1]
  have e := cSt_0 h n (dep + 1) (by omega) (r + 1) (upd tr r 20) x (by show r + 1 + 1 ≤ 24; omega)
  show q_cl (aFrm (n + 2) (cW w (r + 1) (upd tr r 20)) (nI 0) (nI 0) x (nI (dep + 1))) _ = _
  rw [e]
  rfl
theorem cSt_7 {w : qW} {ow : Nat} {se : Int32} (h : cKn w ow se) (n dep : Nat) (hd : dep < 29) : cOk w (n + 5) dep 0 7 (fun x => ((aSt0 se x).1 + 3, 20 :: (aSt0 se x).2)) := by
  intro r tr x hr
  have hr : r + 2 ≤ 24 := hr
  rw [frm_7_0 _ _ _ _ (by omega), run_eq _ _ _ _ _ _ _ _ (by omega)]
  show q_cl (aOvr (n + 3) (cW w (r + 1) (upd tr r 20)) 1 0 x (nI (dep + 1))) _ = _
  rw [ovr_1]
  have e := cSt_0 h n (dep + 1) (by omega) (r + 1) (upd tr r 20) x (by show r + 1 + 1 ≤ 24; omega)
  show q_cl (aFrm (n + 2) (cW w (r + 1) (upd tr r 20)) (nI 0) (nI 0) x (nI (dep + 1))) _ = _
  rw [e]
  rfl
theorem cSt_6 {w : qW} {ow : Nat} {se : Int32} (h : cKn w ow se) (n dep : Nat) (hd : dep < 29) : cOk w (n + 5) dep 0 6 (fun x => ((aSt0 se x).1 * 2, 70 :: (aSt0 se x).2)) := by
  intro r tr x hr
  have hr : r + 2 ≤ 24 := hr
  rw [frm_6_0 _ _ _ _ (by omega), run_eq _ _ _ _ _ _ _ _ (by omega)]
  show q_cl (aOvr (n + 3) (cW w (r + 1) (upd tr r 70)) 6 0 x (nI (dep + 1))) _ = _
  rw [ovr_6]
  have e := cSt_0 h n (dep + 1) (by omega) (r + 1) (upd tr r 70) x (by show r + 1 + 1 ≤ 24; omega)
  show q_cl (aFrm (n + 2) (cW w (r + 1) (upd tr r 70)) (nI 0) (nI 0) x (nI (dep + 1))) _ = _
  rw [e]
  rfl
theorem cSt {w : qW} {ow : Nat} {se : Int32} (h : cKn w ow se) (n dep : Nat) (hd : dep < 29) : ∀ k : Nat, k < 8 → cOk w (n + 5) dep 0 k (aSt se k)
  | 0, _ => cSt_0 h (n + 3) dep (by omega)
  | 1, _ => cSt_1 h n dep hd
  | 2, _ => cSt_2 h (n + 3) dep (by omega)
  | 3, _ => cSt_3 h (n + 3) dep (by omega)
  | 4, _ => cSt_4 h n dep hd
  | 5, _ => cSt_5 h (n + 3) dep (by omega)
  | 6, _ => cSt_6 h n dep hd
  | 7, _ => cSt_7 h n dep hd
  | k + 8, h => by omega
theorem cLe_0 {w : qW} {ow : Nat} {se : Int32} (h : cKn w ow se) (n dep : Nat) (hd : dep < 30) : cOk w (n + 2) dep 2 0 (aLe0 se) := by
  intro r tr x hr
  have hr : r + 1 ≤ 24 := hr
  rw [frm_0_2 _ _ _ _ hd, run_eq _ _ _ _ _ _ _ _ (by omega)]
  rw [← h.1]
  rfl
theorem cLe_1 {w : qW} {ow : Nat} {se : Int32} (h : cKn w ow se) (n dep : Nat) (hd : dep < 30) : cOk w (n + 2) dep 2 1 (aLe0 se) := by
  intro r tr x hr
  have hr : r + 1 ≤ 24 := hr
  rw [frm_1_2 _ _ _ _ hd, run_eq _ _ _ _ _ _ _ _ (by omega)]
  rw [← h.1]
  rfl
theorem cLe_2 {w : qW} {ow : Nat} {se : Int32} (h : cKn w ow se) (n dep : Nat) (hd : dep < 30) : cOk w (n + 2) dep 2 2 (aLe0 se) := by
  intro r tr x hr
  have hr : r + 1 ≤ 24 := hr
  rw [frm_2_2 _ _ _ _ hd, run_eq _ _ _ _ _ _ _ _ (by omega)]
  rw [← h.1]
  rfl
theorem cLe_6 {w : qW} {ow : Nat} {se : Int32} (h : cKn w ow se) (n dep : Nat) (hd : dep < 30) : cOk w (n + 2) dep 2 6 (aLe0 se) := by
  intro r tr x hr
  have hr : r + 1 ≤ 24 := hr
  rw [frm_6_2 _ _ _ _ hd, run_eq _ _ _ _ _ _ _ _ (by omega)]
  rw [← h.1]
  rfl
theorem cLe_3 {w : qW} {ow : Nat} {se : Int32} (h : cKn w ow se) (n dep : Nat) (hd : dep < 29) : cOk w (n + 5) dep 2 3 (fun x => ((aLe0 se x).1 * 3, 40 :: (aLe0 se x).2)) := by
  intro r tr x hr
  have hr : r + 2 ≤ 24 := hr
  rw [frm_3_2 _ _ _ _ (by omega), run_eq _ _ _ _ _ _ _ _ (by omega)]
  show q_cl (aOvr (n + 3) (cW w (r + 1) (upd tr r 40)) 3 2 x (nI (dep + 1))) _ = _
  rw [ovr_3]
  have e := cLe_2 h n (dep + 1) (by omega) (r + 1) (upd tr r 40) x (by show r + 1 + 1 ≤ 24; omega)
  show q_cl (aFrm (n + 2) (cW w (r + 1) (upd tr r 40)) (nI 2) (nI 2) x (nI (dep + 1))) _ = _
  rw [e]
  rfl
theorem cLe_5 {w : qW} {ow : Nat} {se : Int32} (h : cKn w ow se) (n dep : Nat) (hd : dep < 29) : cOk w (n + 5) dep 2 5 (fun x => ((aLe0 se x).1 * 3, 40 :: (aLe0 se x).2)) := by
  intro r tr x hr
  have hr : r + 2 ≤ 24 := hr
  rw [frm_5_2 _ _ _ _ (by omega), run_eq _ _ _ _ _ _ _ _ (by omega)]
  show q_cl (aOvr (n + 3) (cW w (r + 1) (upd tr r 40)) 3 2 x (nI (dep + 1))) _ = _
  rw [ovr_3]
  have e := cLe_2 h n (dep + 1) (by omega) (r + 1) (upd tr r 40) x (by show r + 1 + 1 ≤ 24; omega)
  show q_cl (aFrm (n + 2) (cW w (r + 1) (upd tr r 40)) (nI 2) (nI 2) x (nI (dep + 1))) _ = _
  rw [e]
  rfl
theorem cLe_4 {w : qW} {ow : Nat} {se : Int32} (ho : ow < 8) (h : cKn w ow se) (n dep : Nat) (hd : dep < 28) : cOk w (n + 8) dep 2 4 (fun x => ((aLe0 se x).1 - (aSt se ow 2).1, 50 :: ((aLe0 se x).2 ++ (aSt se ow 2).2))) := by
  intro r tr x hr
  have hr : r + (1 + (aSt se ow 2).2.length + 1) ≤ 24 := by
    have e : ((50 : Int32) :: ((aLe0 se x).2 ++ (aSt se ow 2).2)).length = 1 + (aSt se ow 2).2.length + 1 := by rw [List.length_cons, List.length_append]; rfl
    rw [← e]; exact hr
  rw [frm_4_2 _ _ _ _ (by omega), run_eq _ _ _ _ _ _ _ _ (by omega)]
  show q_cl (aOvr (n + 6) (cW w (r + 1) (upd tr r 50)) 4 2 x (nI (dep + 1))) (fun r24 w25 => q_cl (aOwn (n + 6) w25 0 2 (nI (dep + 1))) (fun r26 w27 => some (r24 - r26, w27))) = _
  rw [ovr_4]
  have e := cLe_1 h (n + 3) (dep + 1) (by omega) (r + 1) (upd tr r 50) x (by show r + 1 + 1 ≤ 24; omega)
  show q_cl (aFrm (n + 5) (cW w (r + 1) (upd tr r 50)) (nI 1) (nI 2) x (nI (dep + 1))) _ = _
  rw [e, z_cl, own_at h]
  have e2 := cSt h n (dep + 1) (by omega) ow ho (r + 1 + (aLe0 se x).2.length) (addT (upd tr r 50) (r + 1) (aLe0 se x).2) 2 (by show r + 1 + 1 + _ ≤ 24; omega)
  show q_cl (aFrm (n + 5) (cW w (r + 1 + (aLe0 se x).2.length) (addT (upd tr r 50) (r + 1) (aLe0 se x).2)) (nI ow) (nI 0) 2 (nI (dep + 1))) _ = _
  rw [e2, z_cl, ← addT_app]
  show _ = some (_, cW w (r + ((50 : Int32) :: ((aLe0 se x).2 ++ (aSt se ow 2).2)).length) (addT (upd tr r 50) (r + 1) ((aLe0 se x).2 ++ (aSt se ow 2).2)))
  rw [List.length_cons, List.length_append, show r + 1 + (aLe0 se x).2.length + (aSt se ow 2).2.length = r + ((aLe0 se x).2.length + (aSt se ow 2).2.length + 1) by omega]
theorem cLe_7 {w : qW} {ow : Nat} {se : Int32} (ho : ow < 8) (h : cKn w ow se) (n dep : Nat) (hd : dep < 28) : cOk w (n + 8) dep 2 7 (fun x => ((aLe0 se x).1 - (aSt se ow 2).1, 50 :: ((aLe0 se x).2 ++ (aSt se ow 2).2))) := by
  intro r tr x hr
  have hr : r + (1 + (aSt se ow 2).2.length + 1) ≤ 24 := by
    have e : ((50 : Int32) :: ((aLe0 se x).2 ++ (aSt se ow 2).2)).length = 1 + (aSt se ow 2).2.length + 1 := by rw [List.length_cons, List.length_append]; rfl
    rw [← e]; exact hr
  rw [frm_7_2 _ _ _ _ (by omega), run_eq _ _ _ _ _ _ _ _ (by omega)]
  show q_cl (aOvr (n + 6) (cW w (r + 1) (upd tr r 50)) 4 2 x (nI (dep + 1))) (fun r24 w25 => q_cl (aOwn (n + 6) w25 0 2 (nI (dep + 1))) (fun r26 w27 => some (r24 - r26, w27))) = _
  rw [ovr_4]
  have e := cLe_1 h (n + 3) (dep + 1) (by omega) (r + 1) (upd tr r 50) x (by show r + 1 + 1 ≤ 24; omega)
  show q_cl (aFrm (n + 5) (cW w (r + 1) (upd tr r 50)) (nI 1) (nI 2) x (nI (dep + 1))) _ = _
  rw [e, z_cl, own_at h]
  have e2 := cSt h n (dep + 1) (by omega) ow ho (r + 1 + (aLe0 se x).2.length) (addT (upd tr r 50) (r + 1) (aLe0 se x).2) 2 (by show r + 1 + 1 + _ ≤ 24; omega)
  show q_cl (aFrm (n + 5) (cW w (r + 1 + (aLe0 se x).2.length) (addT (upd tr r 50) (r + 1) (aLe0 se x).2)) (nI ow) (nI 0) 2 (nI (dep + 1))) _ = _
  rw [e2, z_cl, ← addT_app]
  show _ = some (_, cW w (r + ((50 : Int32) :: ((aLe0 se x).2 ++ (aSt se ow 2).2)).length) (addT (upd tr r 50) (r + 1) ((aLe0 se x).2 ++ (aSt se ow 2).2)))
  rw [List.length_cons, List.length_append, show r + 1 + (aLe0 se x).2.length + (aSt se ow 2).2.length = r + ((aLe0 se x).2.length + (aSt se ow 2).2.length + 1) by omega]
theorem cLe {w : qW} {ow : Nat} {se : Int32} (ho : ow < 8) (h : cKn w ow se) (n dep : Nat) (hd : dep < 28) : ∀ k : Nat, k < 8 → cOk w (n + 8) dep 2 k (aLe se ow k)
  | 0, _ => cLe_0 h (n + 6) dep (by omega)
  | 1, _ => cLe_1 h (n + 6) dep (by omega)
  | 2, _ => cLe_2 h (n + 6) dep (by omega)
  | 3, _ => cLe_3 h (n + 3) dep (by omega)
  | 4, _ => cLe_4 ho h n dep hd
  | 5, _ => cLe_5 h (n + 3) dep (by omega)
  | 6, _ => cLe_6 h (n + 6) dep (by omega)
  | 7, _ => cLe_7 ho h n dep hd
  | k + 8, h => by omega
theorem cSw_0 {w : qW} {ow : Nat} {se : Int32} (ho : ow < 8) (h : cKn w ow se) (n dep : Nat) (hd : dep < 28) : cOk w (n + 8) dep 1 0 (aSw0 se ow) := by
  intro r tr x hr
  have hr : r + ((aSt se ow x).2.length + 1) ≤ 24 := hr
  rw [frm_0_1 _ _ _ _ (by omega), run_eq _ _ _ _ _ _ _ _ (by omega)]
  show q_cl (aOwn (n + 6) (cW w (r + 1) (upd tr r 10)) 0 x (nI (dep + 1))) (fun r8 w9 => some (r8 * 2, w9)) = _
  rw [own_at h]
  have e2 := cSt h n (dep + 1) (by omega) ow ho (r + 1) (upd tr r 10) x (by omega)
  show q_cl (aFrm (n + 5) (cW w (r + 1) (upd tr r 10)) (nI ow) (nI 0) x (nI (dep + 1))) _ = _
  rw [e2, z_cl]
  show some (_, cW w (r + 1 + (aSt se ow x).2.length) _) = some (_, cW w (r + ((aSt se ow x).2.length + 1)) _)
  rw [show r + 1 + (aSt se ow x).2.length = r + ((aSt se ow x).2.length + 1) by omega]
  rfl
theorem cSw_1 {w : qW} {ow : Nat} {se : Int32} (ho : ow < 8) (h : cKn w ow se) (n dep : Nat) (hd : dep < 28) : cOk w (n + 8) dep 1 1 (aSw0 se ow) := by
  intro r tr x hr
  have hr : r + ((aSt se ow x).2.length + 1) ≤ 24 := hr
  rw [frm_1_1 _ _ _ _ (by omega), run_eq _ _ _ _ _ _ _ _ (by omega)]
  show q_cl (aOwn (n + 6) (cW w (r + 1) (upd tr r 10)) 0 x (nI (dep + 1))) (fun r8 w9 => some (r8 * 2, w9)) = _
  rw [own_at h]
  have e2 := cSt h n (dep + 1) (by omega) ow ho (r + 1) (upd tr r 10) x (by omega)
  show q_cl (aFrm (n + 5) (cW w (r + 1) (upd tr r 10)) (nI ow) (nI 0) x (nI (dep + 1))) _ = _
  rw [e2, z_cl]
  show some (_, cW w (r + 1 + (aSt se ow x).2.length) _) = some (_, cW w (r + ((aSt se ow x).2.length + 1)) _)
  rw [show r + 1 + (aSt se ow x).2.length = r + ((aSt se ow x).2.length + 1) by omega]
  rfl
theorem cSw_4 {w : qW} {ow : Nat} {se : Int32} (ho : ow < 8) (h : cKn w ow se) (n dep : Nat) (hd : dep < 28) : cOk w (n + 8) dep 1 4 (aSw0 se ow) := by
  intro r tr x hr
  have hr : r + ((aSt se ow x).2.length + 1) ≤ 24 := hr
  rw [frm_4_1 _ _ _ _ (by omega), run_eq _ _ _ _ _ _ _ _ (by omega)]
  show q_cl (aOwn (n + 6) (cW w (r + 1) (upd tr r 10)) 0 x (nI (dep + 1))) (fun r8 w9 => some (r8 * 2, w9)) = _
  rw [own_at h]
  have e2 := cSt h n (dep + 1) (by omega) ow ho (r + 1) (upd tr r 10) x (by omega)
  show q_cl (aFrm (n + 5) (cW w (r + 1) (upd tr r 10)) (nI ow) (nI 0) x (nI (dep + 1))) _ = _
  rw [e2, z_cl]
  show some (_, cW w (r + 1 + (aSt se ow x).2.length) _) = some (_, cW w (r + ((aSt se ow x).2.length + 1)) _)
  rw [show r + 1 + (aSt se ow x).2.length = r + ((aSt se ow x).2.length + 1) by omega]
  rfl
theorem cSw_6 {w : qW} {ow : Nat} {se : Int32} (ho : ow < 8) (h : cKn w ow se) (n dep : Nat) (hd : dep < 28) : cOk w (n + 8) dep 1 6 (aSw0 se ow) := by
  intro r tr x hr
  have hr : r + ((aSt se ow x).2.length + 1) ≤ 24 := hr
  rw [frm_6_1 _ _ _ _ (by omega), run_eq _ _ _ _ _ _ _ _ (by omega)]
  show q_cl (aOwn (n + 6) (cW w (r + 1) (upd tr r 10)) 0 x (nI (dep + 1))) (fun r8 w9 => some (r8 * 2, w9)) = _
  rw [own_at h]
  have e2 := cSt h n (dep + 1) (by omega) ow ho (r + 1) (upd tr r 10) x (by omega)
  show q_cl (aFrm (n + 5) (cW w (r + 1) (upd tr r 10)) (nI ow) (nI 0) x (nI (dep + 1))) _ = _
  rw [e2, z_cl]
  show some (_, cW w (r + 1 + (aSt se ow x).2.length) _) = some (_, cW w (r + ((aSt se ow x).2.length + 1)) _)
  rw [show r + 1 + (aSt se ow x).2.length = r + ((aSt se ow x).2.length + 1) by omega]
  rfl
theorem cSw_2 {w : qW} {ow : Nat} {se : Int32} (ho : ow < 8) (h : cKn w ow se) (n dep : Nat) (hd : dep < 27) : cOk w (n + 11) dep 1 2 (aSw2 se ow) := by
  intro r tr x hr
  have hr : r + ((aSw0 se ow x).2.length + 1) ≤ 24 := hr
  rw [frm_2_1 _ _ _ _ (by omega), run_eq _ _ _ _ _ _ _ _ (by omega)]
  show q_cl (aOvr (n + 9) (cW w (r + 1) (upd tr r 30)) 2 1 x (nI (dep + 1))) (fun r8 w9 => some (-r8, w9)) = _
  rw [ovr_2]
  have e2 := cSw_0 ho h n (dep + 1) (by omega) (r + 1) (upd tr r 30) x (by omega)
  show q_cl (aFrm (n + 8) (cW w (r + 1) (upd tr r 30)) (nI 0) (nI 1) x (nI (dep + 1))) _ = _
  rw [e2, z_cl]
  show some (_, cW w (r + 1 + (aSw0 se ow x).2.length) _) = some (_, cW w (r + ((aSw0 se ow x).2.length + 1)) _)
  rw [show r + 1 + (aSw0 se ow x).2.length = r + ((aSw0 se ow x).2.length + 1) by omega]
  rfl
theorem cSw_3 {w : qW} {ow : Nat} {se : Int32} (ho : ow < 8) (h : cKn w ow se) (n dep : Nat) (hd : dep < 26) : cOk w (n + 14) dep 1 3 (fun x => ((aSw2 se ow (x + 1)).1, 41 :: (aSw2 se ow (x + 1)).2)) := by
  intro r tr x hr
  have hr : r + ((aSw2 se ow (x + 1)).2.length + 1) ≤ 24 := hr
  rw [frm_3_1 _ _ _ _ (by omega), run_eq _ _ _ _ _ _ _ _ (by omega)]
  show q_cl (aOvr (n + 12) (cW w (r + 1) (upd tr r 41)) 3 1 (x + 1) (nI (dep + 1))) (fun r8 w9 => some (r8, w9)) = _
  rw [ovr_3]
  have e2 := cSw_2 ho h n (dep + 1) (by omega) (r + 1) (upd tr r 41) (x + 1) (by omega)
  show q_cl (aFrm (n + 11) (cW w (r + 1) (upd tr r 41)) (nI 2) (nI 1) (x + 1) (nI (dep + 1))) _ = _
  rw [e2, z_cl]
  show some (_, cW w (r + 1 + (aSw2 se ow (x + 1)).2.length) _) = some (_, cW w (r + ((aSw2 se ow (x + 1)).2.length + 1)) _)
  rw [show r + 1 + (aSw2 se ow (x + 1)).2.length = r + ((aSw2 se ow (x + 1)).2.length + 1) by omega]
  rfl
theorem cSw_5 {w : qW} {ow : Nat} {se : Int32} (ho : ow < 8) (h : cKn w ow se) (n dep : Nat) (hd : dep < 26) : cOk w (n + 14) dep 1 5 (fun x => ((aSw2 se ow (x + 1)).1, 41 :: (aSw2 se ow (x + 1)).2)) := by
  intro r tr x hr
  have hr : r + ((aSw2 se ow (x + 1)).2.length + 1) ≤ 24 := hr
  rw [frm_5_1 _ _ _ _ (by omega), run_eq _ _ _ _ _ _ _ _ (by omega)]
  show q_cl (aOvr (n + 12) (cW w (r + 1) (upd tr r 41)) 3 1 (x + 1) (nI (dep + 1))) (fun r8 w9 => some (r8, w9)) = _
  rw [ovr_3]
  have e2 := cSw_2 ho h n (dep + 1) (by omega) (r + 1) (upd tr r 41) (x + 1) (by omega)
  show q_cl (aFrm (n + 11) (cW w (r + 1) (upd tr r 41)) (nI 2) (nI 1) (x + 1) (nI (dep + 1))) _ = _
  rw [e2, z_cl]
  show some (_, cW w (r + 1 + (aSw2 se ow (x + 1)).2.length) _) = some (_, cW w (r + ((aSw2 se ow (x + 1)).2.length + 1)) _)
  rw [show r + 1 + (aSw2 se ow (x + 1)).2.length = r + ((aSw2 se ow (x + 1)).2.length + 1) by omega]
  rfl
theorem cSw_7 {w : qW} {ow : Nat} {se : Int32} (ho : ow < 8) (h : cKn w ow se) (n dep : Nat) (hd : dep < 27) : cOk w (n + 11) dep 1 7 (fun x => ((aSw0 se ow x).1 + (aLe se ow ow 2).1, 80 :: ((aSw0 se ow x).2 ++ (aLe se ow ow 2).2))) := by
  intro r tr x hr
  have hr : r + ((aSw0 se ow x).2.length + (aLe se ow ow 2).2.length + 1) ≤ 24 := by
    rw [← List.length_append]; exact hr
  rw [frm_7_1 _ _ _ _ (by omega), run_eq _ _ _ _ _ _ _ _ (by omega)]
  show q_cl (aOvr (n + 9) (cW w (r + 1) (upd tr r 80)) 7 1 x (nI (dep + 1))) (fun r24 w25 => q_cl (aOwn (n + 9) w25 2 2 (nI (dep + 1))) (fun r26 w27 => some (r24 + r26, w27))) = _
  rw [ovr_7]
  have e := cSw_4 ho h n (dep + 1) (by omega) (r + 1) (upd tr r 80) x (by omega)
  show q_cl (aFrm (n + 8) (cW w (r + 1) (upd tr r 80)) (nI 4) (nI 1) x (nI (dep + 1))) _ = _
  rw [e, z_cl, own_at h]
  have e2 := cLe ho h n (dep + 1) (by omega) ow ho (r + 1 + (aSw0 se ow x).2.length) (addT (upd tr r 80) (r + 1) (aSw0 se ow x).2) 2 (by omega)
  show q_cl (aFrm (n + 8) (cW w (r + 1 + (aSw0 se ow x).2.length) (addT (upd tr r 80) (r + 1) (aSw0 se ow x).2)) (nI ow) (nI 2) 2 (nI (dep + 1))) _ = _
  rw [e2, z_cl, ← addT_app]
  show _ = some (_, cW w (r + ((80 : Int32) :: ((aSw0 se ow x).2 ++ (aLe se ow ow 2).2)).length) (addT (upd tr r 80) (r + 1) ((aSw0 se ow x).2 ++ (aLe se ow ow 2).2)))
  rw [List.length_cons, List.length_append, show r + 1 + (aSw0 se ow x).2.length + (aLe se ow ow 2).2.length = r + ((aSw0 se ow x).2.length + (aLe se ow ow 2).2.length + 1) by omega]
theorem cSw {w : qW} {ow : Nat} {se : Int32} (ho : ow < 8) (h : cKn w ow se) (n dep : Nat) (hd : dep < 26) : ∀ k : Nat, k < 8 → cOk w (n + 14) dep 1 k (aSw se ow k)
  | 0, _ => cSw_0 ho h (n + 6) dep (by omega)
  | 1, _ => cSw_1 ho h (n + 6) dep (by omega)
  | 2, _ => cSw_2 ho h (n + 3) dep (by omega)
  | 3, _ => cSw_3 ho h n dep hd
  | 4, _ => cSw_4 ho h (n + 6) dep (by omega)
  | 5, _ => cSw_5 ho h n dep hd
  | 6, _ => cSw_6 ho h (n + 6) dep (by omega)
  | 7, _ => cSw_7 ho h (n + 3) dep (by omega)
  | k + 8, h => by omega
theorem cTe_0 {w : qW} {ow : Nat} {se : Int32} (ho : ow < 8) (h : cKn w ow se) (n dep : Nat) (hd : dep < 25) : cOk w (n + 17) dep 3 0 (aTe0 se ow) := by
  intro r tr x hr
  have hr : r + ((aSw se ow ow x).2.length + (aLe se ow ow 1).2.length + 1) ≤ 24 := by
    rw [← List.length_append]; exact hr
  rw [frm_0_3 _ _ _ _ (by omega), run_eq _ _ _ _ _ _ _ _ (by omega)]
  show q_cl (aOwn (n + 15) (cW w (r + 1) (upd tr r 2)) 1 x (nI (dep + 1))) (fun r24 w25 => q_cl (aOwn (n + 15) w25 2 1 (nI (dep + 1))) (fun r26 w27 => some (r24 - r26, w27))) = _
  rw [own_at h]
  have e := cSw ho h n (dep + 1) (by omega) ow ho (r + 1) (upd tr r 2) x (by omega)
  show q_cl (aFrm (n + 14) (cW w (r + 1) (upd tr r 2)) (nI ow) (nI 1) x (nI (dep + 1))) _ = _
  rw [e, z_cl, own_at h]
  have e2 := cLe ho h (n + 6) (dep + 1) (by omega) ow ho (r + 1 + (aSw se ow ow x).2.length) (addT (upd tr r 2) (r + 1) (aSw se ow ow x).2) 1 (by omega)
  show q_cl (aFrm (n + 14) (cW w (r + 1 + (aSw se ow ow x).2.length) (addT (upd tr r 2) (r + 1) (aSw se ow ow x).2)) (nI ow) (nI 2) 1 (nI (dep + 1))) _ = _
  rw [e2, z_cl, ← addT_app]
  show _ = some (_, cW w (r + ((2 : Int32) :: ((aSw se ow ow x).2 ++ (aLe se ow ow 1).2)).length) (addT (upd tr r 2) (r + 1) ((aSw se ow ow x).2 ++ (aLe se ow ow 1).2)))
  rw [List.length_cons, List.length_append, show r + 1 + (aSw se ow ow x).2.length + (aLe se ow ow 1).2.length = r + ((aSw se ow ow x).2.length + (aLe se ow ow 1).2.length + 1) by omega]
  rfl
theorem cTe_1 {w : qW} {ow : Nat} {se : Int32} (ho : ow < 8) (h : cKn w ow se) (n dep : Nat) (hd : dep < 25) : cOk w (n + 17) dep 3 1 (aTe0 se ow) := by
  intro r tr x hr
  have hr : r + ((aSw se ow ow x).2.length + (aLe se ow ow 1).2.length + 1) ≤ 24 := by
    rw [← List.length_append]; exact hr
  rw [frm_1_3 _ _ _ _ (by omega), run_eq _ _ _ _ _ _ _ _ (by omega)]
  show q_cl (aOwn (n + 15) (cW w (r + 1) (upd tr r 2)) 1 x (nI (dep + 1))) (fun r24 w25 => q_cl (aOwn (n + 15) w25 2 1 (nI (dep + 1))) (fun r26 w27 => some (r24 - r26, w27))) = _
  rw [own_at h]
  have e := cSw ho h n (dep + 1) (by omega) ow ho (r + 1) (upd tr r 2) x (by omega)
  show q_cl (aFrm (n + 14) (cW w (r + 1) (upd tr r 2)) (nI ow) (nI 1) x (nI (dep + 1))) _ = _
  rw [e, z_cl, own_at h]
  have e2 := cLe ho h (n + 6) (dep + 1) (by omega) ow ho (r + 1 + (aSw se ow ow x).2.length) (addT (upd tr r 2) (r + 1) (aSw se ow ow x).2) 1 (by omega)
  show q_cl (aFrm (n + 14) (cW w (r + 1 + (aSw se ow ow x).2.length) (addT (upd tr r 2) (r + 1) (aSw se ow ow x).2)) (nI ow) (nI 2) 1 (nI (dep + 1))) _ = _
  rw [e2, z_cl, ← addT_app]
  show _ = some (_, cW w (r + ((2 : Int32) :: ((aSw se ow ow x).2 ++ (aLe se ow ow 1).2)).length) (addT (upd tr r 2) (r + 1) ((aSw se ow ow x).2 ++ (aLe se ow ow 1).2)))
  rw [List.length_cons, List.length_append, show r + 1 + (aSw se ow ow x).2.length + (aLe se ow ow 1).2.length = r + ((aSw se ow ow x).2.length + (aLe se ow ow 1).2.length + 1) by omega]
  rfl
theorem cTe_2 {w : qW} {ow : Nat} {se : Int32} (ho : ow < 8) (h : cKn w ow se) (n dep : Nat) (hd : dep < 25) : cOk w (n + 17) dep 3 2 (aTe0 se ow) := by
  intro r tr x hr
  have hr : r + ((aSw se ow ow x).2.length + (aLe se ow ow 1).2.length + 1) ≤ 24 := by
    rw [← List.length_append]; exact hr
  rw [frm_2_3 _ _ _ _ (by omega), run_eq _ _ _ _ _ _ _ _ (by omega)]
  show q_cl (aOwn (n + 15) (cW w (r + 1) (upd tr r 2)) 1 x (nI (dep + 1))) (fun r24 w25 => q_cl (aOwn (n + 15) w25 2 1 (nI (dep + 1))) (fun r26 w27 => some (r24 - r26, w27))) = _
  rw [own_at h]
  have e := cSw ho h n (dep + 1) (by omega) ow ho (r + 1) (upd tr r 2) x (by omega)
  show q_cl (aFrm (n + 14) (cW w (r + 1) (upd tr r 2)) (nI ow) (nI 1) x (nI (dep + 1))) _ = _
  rw [e, z_cl, own_at h]
  have e2 := cLe ho h (n + 6) (dep + 1) (by omega) ow ho (r + 1 + (aSw se ow ow x).2.length) (addT (upd tr r 2) (r + 1) (aSw se ow ow x).2) 1 (by omega)
  show q_cl (aFrm (n + 14) (cW w (r + 1 + (aSw se ow ow x).2.length) (addT (upd tr r 2) (r + 1) (aSw se ow ow x).2)) (nI ow) (nI 2) 1 (nI (dep + 1))) _ = _
  rw [e2, z_cl, ← addT_app]
  show _ = some (_, cW w (r + ((2 : Int32) :: ((aSw se ow ow x).2 ++ (aLe se ow ow 1).2)).length) (addT (upd tr r 2) (r + 1) ((aSw se ow ow x).2 ++ (aLe se ow ow 1).2)))
  rw [List.length_cons, List.length_append, show r + 1 + (aSw se ow ow x).2.length + (aLe se ow ow 1).2.length = r + ((aSw se ow ow x).2.length + (aLe se ow ow 1).2.length + 1) by omega]
  rfl
theorem cTe_3 {w : qW} {ow : Nat} {se : Int32} (ho : ow < 8) (h : cKn w ow se) (n dep : Nat) (hd : dep < 25) : cOk w (n + 17) dep 3 3 (aTe0 se ow) := by
  intro r tr x hr
  have hr : r + ((aSw se ow ow x).2.length + (aLe se ow ow 1).2.length + 1) ≤ 24 := by
    rw [← List.length_append]; exact hr
  rw [frm_3_3 _ _ _ _ (by omega), run_eq _ _ _ _ _ _ _ _ (by omega)]
  show q_cl (aOwn (n + 15) (cW w (r + 1) (upd tr r 2)) 1 x (nI (dep + 1))) (fun r24 w25 => q_cl (aOwn (n + 15) w25 2 1 (nI (dep + 1))) (fun r26 w27 => some (r24 - r26, w27))) = _
  rw [own_at h]
  have e := cSw ho h n (dep + 1) (by omega) ow ho (r + 1) (upd tr r 2) x (by omega)
  show q_cl (aFrm (n + 14) (cW w (r + 1) (upd tr r 2)) (nI ow) (nI 1) x (nI (dep + 1))) _ = _
  rw [e, z_cl, own_at h]
  have e2 := cLe ho h (n + 6) (dep + 1) (by omega) ow ho (r + 1 + (aSw se ow ow x).2.length) (addT (upd tr r 2) (r + 1) (aSw se ow ow x).2) 1 (by omega)
  show q_cl (aFrm (n + 14) (cW w (r + 1 + (aSw se ow ow x).2.length) (addT (upd tr r 2) (r + 1) (aSw se ow ow x).2)) (nI ow) (nI 2) 1 (nI (dep + 1))) _ = _
  rw [e2, z_cl, ← addT_app]
  show _ = some (_, cW w (r + ((2 : Int32) :: ((aSw se ow ow x).2 ++ (aLe se ow ow 1).2)).length) (addT (upd tr r 2) (r + 1) ((aSw se ow ow x).2 ++ (aLe se ow ow 1).2)))
  rw [List.length_cons, List.length_append, show r + 1 + (aSw se ow ow x).2.length + (aLe se ow ow 1).2.length = r + ((aSw se ow ow x).2.length + (aLe se ow ow 1).2.length + 1) by omega]
  rfl
theorem cTe_4 {w : qW} {ow : Nat} {se : Int32} (ho : ow < 8) (h : cKn w ow se) (n dep : Nat) (hd : dep < 25) : cOk w (n + 17) dep 3 4 (aTe0 se ow) := by
  intro r tr x hr
  have hr : r + ((aSw se ow ow x).2.length + (aLe se ow ow 1).2.length + 1) ≤ 24 := by
    rw [← List.length_append]; exact hr
  rw [frm_4_3 _ _ _ _ (by omega), run_eq _ _ _ _ _ _ _ _ (by omega)]
  show q_cl (aOwn (n + 15) (cW w (r + 1) (upd tr r 2)) 1 x (nI (dep + 1))) (fun r24 w25 => q_cl (aOwn (n + 15) w25 2 1 (nI (dep + 1))) (fun r26 w27 => some (r24 - r26, w27))) = _
  rw [own_at h]
  have e := cSw ho h n (dep + 1) (by omega) ow ho (r + 1) (upd tr r 2) x (by omega)
  show q_cl (aFrm (n + 14) (cW w (r + 1) (upd tr r 2)) (nI ow) (nI 1) x (nI (dep + 1))) _ = _
  rw [e, z_cl, own_at h]
  have e2 := cLe ho h (n + 6) (dep + 1) (by omega) ow ho (r + 1 + (aSw se ow ow x).2.length) (addT (upd tr r 2) (r + 1) (aSw se ow ow x).2) 1 (by omega)
  show q_cl (aFrm (n + 14) (cW w (r + 1 + (aSw se ow ow x).2.length) (addT (upd tr r 2) (r + 1) (aSw se ow ow x).2)) (nI ow) (nI 2) 1 (nI (dep + 1))) _ = _
  rw [e2, z_cl, ← addT_app]
  show _ = some (_, cW w (r + ((2 : Int32) :: ((aSw se ow ow x).2 ++ (aLe se ow ow 1).2)).length) (addT (upd tr r 2) (r + 1) ((aSw se ow ow x).2 ++ (aLe se ow ow 1).2)))
  rw [List.length_cons, List.length_append, show r + 1 + (aSw se ow ow x).2.length + (aLe se ow ow 1).2.length = r + ((aSw se ow ow x).2.length + (aLe se ow ow 1).2.length + 1) by omega]
  rfl
theorem cTe_6 {w : qW} {ow : Nat} {se : Int32} (ho : ow < 8) (h : cKn w ow se) (n dep : Nat) (hd : dep < 25) : cOk w (n + 17) dep 3 6 (aTe0 se ow) := by
  intro r tr x hr
  have hr : r + ((aSw se ow ow x).2.length + (aLe se ow ow 1).2.length + 1) ≤ 24 := by
    rw [← List.length_append]; exact hr
  rw [frm_6_3 _ _ _ _ (by omega), run_eq _ _ _ _ _ _ _ _ (by omega)]
  show q_cl (aOwn (n + 15) (cW w (r + 1) (upd tr r 2)) 1 x (nI (dep + 1))) (fun r24 w25 => q_cl (aOwn (n + 15) w25 2 1 (nI (dep + 1))) (fun r26 w27 => some (r24 - r26, w27))) = _
  rw [own_at h]
  have e := cSw ho h n (dep + 1) (by omega) ow ho (r + 1) (upd tr r 2) x (by omega)
  show q_cl (aFrm (n + 14) (cW w (r + 1) (upd tr r 2)) (nI ow) (nI 1) x (nI (dep + 1))) _ = _
  rw [e, z_cl, own_at h]
  have e2 := cLe ho h (n + 6) (dep + 1) (by omega) ow ho (r + 1 + (aSw se ow ow x).2.length) (addT (upd tr r 2) (r + 1) (aSw se ow ow x).2) 1 (by omega)
  show q_cl (aFrm (n + 14) (cW w (r + 1 + (aSw se ow ow x).2.length) (addT (upd tr r 2) (r + 1) (aSw se ow ow x).2)) (nI ow) (nI 2) 1 (nI (dep + 1))) _ = _
  rw [e2, z_cl, ← addT_app]
  show _ = some (_, cW w (r + ((2 : Int32) :: ((aSw se ow ow x).2 ++ (aLe se ow ow 1).2)).length) (addT (upd tr r 2) (r + 1) ((aSw se ow ow x).2 ++ (aLe se ow ow 1).2)))
  rw [List.length_cons, List.length_append, show r + 1 + (aSw se ow ow x).2.length + (aLe se ow ow 1).2.length = r + ((aSw se ow ow x).2.length + (aLe se ow ow 1).2.length + 1) by omega]
  rfl
theorem cTe_5 {w : qW} {ow : Nat} {se : Int32} (ho : ow < 8) (h : cKn w ow se) (n dep : Nat) (hd : dep < 24) : cOk w (n + 20) dep 3 5 (fun x => ((aTe0 se ow x).1 ^^^ 5, 60 :: (aTe0 se ow x).2)) := by
  intro r tr x hr
  have hr : r + ((aTe0 se ow x).2.length + 1) ≤ 24 := hr
  rw [frm_5_3 _ _ _ _ (by omega), run_eq _ _ _ _ _ _ _ _ (by omega)]
  show q_cl (aOvr (n + 18) (cW w (r + 1) (upd tr r 60)) 5 3 x (nI (dep + 1))) (fun r8 w9 => some (r8 ^^^ 5, w9)) = _
  rw [ovr_5]
  have e2 := cTe_3 ho h n (dep + 1) (by omega) (r + 1) (upd tr r 60) x (by omega)
  show q_cl (aFrm (n + 17) (cW w (r + 1) (upd tr r 60)) (nI 3) (nI 3) x (nI (dep + 1))) _ = _
  rw [e2, z_cl]
  show some (_, cW w (r + 1 + (aTe0 se ow x).2.length) _) = some (_, cW w (r + ((aTe0 se ow x).2.length + 1)) _)
  rw [show r + 1 + (aTe0 se ow x).2.length = r + ((aTe0 se ow x).2.length + 1) by omega]
  rfl
theorem cTe_7 {w : qW} {ow : Nat} {se : Int32} (ho : ow < 8) (h : cKn w ow se) (n dep : Nat) (hd : dep < 24) : cOk w (n + 20) dep 3 7 (fun x => ((aTe0 se ow x).1 - 1, 81 :: (aTe0 se ow x).2)) := by
  intro r tr x hr
  have hr : r + ((aTe0 se ow x).2.length + 1) ≤ 24 := hr
  rw [frm_7_3 _ _ _ _ (by omega), run_eq _ _ _ _ _ _ _ _ (by omega)]
  show q_cl (aOvr (n + 18) (cW w (r + 1) (upd tr r 81)) 7 3 x (nI (dep + 1))) (fun r8 w9 => some (r8 - 1, w9)) = _
  rw [ovr_7]
  have e2 := cTe_4 ho h n (dep + 1) (by omega) (r + 1) (upd tr r 81) x (by omega)
  show q_cl (aFrm (n + 17) (cW w (r + 1) (upd tr r 81)) (nI 4) (nI 3) x (nI (dep + 1))) _ = _
  rw [e2, z_cl]
  show some (_, cW w (r + 1 + (aTe0 se ow x).2.length) _) = some (_, cW w (r + ((aTe0 se ow x).2.length + 1)) _)
  rw [show r + 1 + (aTe0 se ow x).2.length = r + ((aTe0 se ow x).2.length + 1) by omega]
  rfl
theorem cTe {w : qW} {ow : Nat} {se : Int32} (ho : ow < 8) (h : cKn w ow se) (n dep : Nat) (hd : dep < 24) : ∀ k : Nat, k < 8 → cOk w (n + 20) dep 3 k (aTe se ow k)
  | 0, _ => cTe_0 ho h (n + 3) dep (by omega)
  | 1, _ => cTe_1 ho h (n + 3) dep (by omega)
  | 2, _ => cTe_2 ho h (n + 3) dep (by omega)
  | 3, _ => cTe_3 ho h (n + 3) dep (by omega)
  | 4, _ => cTe_4 ho h (n + 3) dep (by omega)
  | 5, _ => cTe_5 ho h n dep hd
  | 6, _ => cTe_6 ho h (n + 3) dep (by omega)
  | 7, _ => cTe_7 ho h n dep hd
  | k + 8, h => by omega
