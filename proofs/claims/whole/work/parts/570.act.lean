/-! acts of trees: both sides come to the same value and the same bodies -/
abbrev aT : Type := Int32 × List Int32
def aSt0 (se x : Int32) : aT := (x + se, [1])
def aSt (se : Int32) (k : Nat) (x : Int32) : aT := if k = 1 ∨ k = 4 ∨ k = 7 then ((aSt0 se x).1 + 3, 20 :: (aSt0 se x).2) else if k = 6 then ((aSt0 se x).1 * 2, 70 :: (aSt0 se x).2) else aSt0 se x
def aLe0 (se x : Int32) : aT := (x ^^^ se, [11])
def aLe (se : Int32) (ow k : Nat) (x : Int32) : aT := if k = 3 ∨ k = 5 then ((aLe0 se x).1 * 3, 40 :: (aLe0 se x).2) else if k = 4 ∨ k = 7 then ((aLe0 se x).1 - (aSt se ow 2).1, 50 :: ((aLe0 se x).2 ++ (aSt se ow 2).2)) else aLe0 se x
def aSw0 (se : Int32) (ow : Nat) (x : Int32) : aT := ((aSt se ow x).1 * 2, 10 :: (aSt se ow x).2)
def aSw2 (se : Int32) (ow : Nat) (x : Int32) : aT := (-(aSw0 se ow x).1, 30 :: (aSw0 se ow x).2)
def aSw (se : Int32) (ow k : Nat) (x : Int32) : aT := if k = 3 ∨ k = 5 then ((aSw2 se ow (x + 1)).1, 41 :: (aSw2 se ow (x + 1)).2) else if k = 2 then aSw2 se ow x else if k = 7 then ((aSw0 se ow x).1 + (aLe se ow ow 2).1, 80 :: ((aSw0 se ow x).2 ++ (aLe se ow ow 2).2)) else aSw0 se ow x
def aTe0 (se : Int32) (ow : Nat) (x : Int32) : aT := ((aSw se ow ow x).1 - (aLe se ow ow 1).1, 2 :: ((aSw se ow ow x).2 ++ (aLe se ow ow 1).2))
def aTe (se : Int32) (ow k : Nat) (x : Int32) : aT := if k = 5 then ((aTe0 se ow x).1 ^^^ 5, 60 :: (aTe0 se ow x).2) else if k = 7 then ((aTe0 se ow x).1 - 1, 81 :: (aTe0 se ow x).2) else aTe0 se ow x
def aA (se : Int32) (ow : Nat) (d k : Nat) (x : Int32) : aT := match d with
  | 0 => aSt se k x
  | 1 => aSw se ow k x
  | 2 => aLe se ow k x
  | _ => aTe se ow k x
def addT (tr : Nat → Int32) : Nat → List Int32 → Nat → Int32
  | _, [] => tr
  | r, v :: t => addT (upd tr r v) (r + 1) t
theorem addT_app : ∀ (l m : List Int32) (tr : Nat → Int32) (r : Nat), addT tr r (l ++ m) = addT (addT tr r l) (r + l.length) m
  | [], m, tr, r => rfl
  | v :: l, m, tr, r => by
    show addT (upd tr r v) (r + 1) (l ++ m) = addT (addT (upd tr r v) (r + 1) l) (r + (l.length + 1)) m
    rw [addT_app l m (upd tr r v) (r + 1), show r + 1 + l.length = r + (l.length + 1) by omega]
theorem q_cl_id {β : Type} (o : Option (β × qW)) : q_cl o (fun r w => some (r, w)) = o := by
  cases o with
  | none => rfl
  | some v => rfl
def cW (w : qW) (r : Nat) (tr : Nat → Int32) : qW := q_sI (q_sA w 34 tr) 32 3 (nI r)
def mW (w : qW) (r : Nat) (tr : Nat → Int32) : qW := q_sI (q_sA w 62 tr) 48 31 (nI r)
theorem cW_set (w : qW) (r s : Nat) (tr t2 : Nat → Int32) : q_sI (q_sA (cW w r tr) 34 t2) 32 3 (nI s) = cW w s t2 := by
  show q_sI (q_sI (q_sA (q_sA w 34 tr) 34 t2) 32 3 (nI r)) 32 3 (nI s) = _
  rw [sA_two, sI_two]
  rfl
theorem mW_set (w : qW) (r s : Nat) (tr t2 : Nat → Int32) : q_sI (q_sA (mW w r tr) 62 t2) 48 31 (nI s) = mW w s t2 := by
  show q_sI (q_sI (q_sA (q_sA w 62 tr) 62 t2) 48 31 (nI r)) 48 31 (nI s) = _
  rw [sA_two, sI_two]
  rfl
def aFrm (n : Nat) := (G_X8_own n).2.1
def aOwn (n : Nat) := (G_X8_own n).1
def aRun (n : Nat) := (G_X8_own n).2.2.1
def aOvr (n : Nat) := (G_X8_own n).2.2.2
theorem own_eq (n : Nat) (w : qW) (d x dep : Int32) : aOwn (n + 1) w d x dep = q_cl (f_X8_kindOf w (q_I w 32 4)) (fun r1 w2 => aFrm n w2 r1 d x dep) := by
  show b_X8_own (aOwn n) (aFrm n) (aRun n) (aOvr n) w d x dep = _
  unfold b_X8_own
  congr 1
  funext r1 w2
  exact q_cl_id _
theorem run_eq (n r : Nat) (w : qW) (tr : Nat → Int32) (nb k x dep : Int32) (hr : r < 24) : aRun (n + 1) (cW w r tr) nb k x dep = (fun w1 => if nb = 1 then (some (x + (q_I w1 32 4), w1)) else (if nb = 2 then (q_cl (aOwn n w1 1 x dep) (fun r3 w4 => q_cl (aOwn n w4 2 1 dep) (fun r5 w6 => some (r3 - r5, w6)))) else (if nb = 10 then (q_cl (aOwn n w1 0 x dep) (fun r8 w9 => some (r8 * 2, w9))) else (if nb = 11 then (some (x ^^^ (q_I w1 32 4), w1)) else (if nb = 20 then (q_cl (aOvr n w1 k 0 x dep) (fun r12 w13 => some (r12 + 3, w13))) else (if nb = 30 then (q_cl (aOvr n w1 k 1 x dep) (fun r15 w16 => some (-r15, w16))) else (if nb = 40 then (q_cl (aOvr n w1 k 2 x dep) (fun r18 w19 => some (r18 * 3, w19))) else (if nb = 41 then (q_cl (aOvr n w1 k 1 (x + 1) dep) (fun r21 w22 => some (r21, w22))) else (if nb = 50 then (q_cl (aOvr n w1 k 2 x dep) (fun r24 w25 => q_cl (aOwn n w25 0 2 dep) (fun r26 w27 => some (r24 - r26, w27)))) else (if nb = 60 then (q_cl (aOvr n w1 k 3 x dep) (fun r29 w30 => some (r29 ^^^ 5, w30))) else (if nb = 70 then (q_cl (aOvr n w1 k 0 x dep) (fun r32 w33 => some (r32 * 2, w33))) else (if nb = 80 then (q_cl (aOvr n w1 k 1 x dep) (fun r35 w36 => q_cl (aOwn n w36 2 2 dep) (fun r37 w38 => some (r35 + r37, w38)))) else (if nb = 81 then (q_cl (aOvr n w1 k 3 x dep) (fun r40 w41 => some (r40 - 1, w41))) else (some (0, w1))))))))))))))) (cW w (r + 1) (upd tr r nb)) := by
  have h3 : q_I (cW w r tr) 32 3 = nI r := rfl
  have t0 : (nI r).toInt = (r : Int) := nI_toInt (by omega)
  show b_X8_run (aOwn n) (aFrm n) (aRun n) (aOvr n) (cW w r tr) nb k x dep = _
  unfold b_X8_run
  rw [h3, if_neg (by rw [z_le, t0, c24]; omega), z_st _ _ _ _ _ _ (by rw [t0]; omega), t0]
  unfold f_X8_run_B19
  rw [z_bn, show q_I (q_sA (cW w r tr) 34 (upd (q_A (cW w r tr) 34) ((r : Int)).toNat nb)) 32 3 = nI r from rfl, nI_1, show q_sI (q_sA (cW w r tr) 34 (upd (q_A (cW w r tr) 34) ((r : Int)).toNat nb)) 32 3 (nI (r + 1)) = cW w (r + 1) (upd tr r nb) from cW_set w r (r + 1) tr (upd tr r nb)]
