theorem frm_at (n : Nat) (w : qW) (k d nb : Nat) (k2 : Nat) (x : Int32) (dep : Nat) (hd : dep < 30) (h : aFrm (n + 1) w (nI k) (nI d) x (nI dep) = if 40 ≤ nI dep then some (0, w) else q_cl (aRun n w (nI nb) (nI k2) x (nI dep + 1)) (fun r w => some (r, w))) : aFrm (n + 1) w (nI k) (nI d) x (nI dep) = aRun n w (nI nb) (nI k2) x (nI (dep + 1)) := by
  rw [h, if_neg (by rw [z_le, nI_toInt (by omega), show (40 : Int32).toInt = 40 by decide]; omega), q_cl_id, nI_1]
theorem frm_0_0 (n : Nat) (w : qW) (x : Int32) (dep : Nat) (hd : dep < 30) : aFrm (n + 1) w (nI 0) (nI 0) x (nI dep) = aRun n w 1 0 x (nI (dep + 1)) := frm_at n w 0 0 1 0 x dep hd rfl
theorem frm_1_0 (n : Nat) (w : qW) (x : Int32) (dep : Nat) (hd : dep < 30) : aFrm (n + 1) w (nI 1) (nI 0) x (nI dep) = aRun n w 20 1 x (nI (dep + 1)) := frm_at n w 1 0 20 1 x dep hd rfl
theorem frm_2_0 (n : Nat) (w : qW) (x : Int32) (dep : Nat) (hd : dep < 30) : aFrm (n + 1) w (nI 2) (nI 0) x (nI dep) = aRun n w 1 0 x (nI (dep + 1)) := frm_at n w 2 0 1 0 x dep hd rfl
theorem frm_3_0 (n : Nat) (w : qW) (x : Int32) (dep : Nat) (hd : dep < 30) : aFrm (n + 1) w (nI 3) (nI 0) x (nI dep) = aRun n w 1 0 x (nI (dep + 1)) := frm_at n w 3 0 1 0 x dep hd rfl
theorem frm_4_0 (n : Nat) (w : qW) (x : Int32) (dep : Nat) (hd : dep < 30) : aFrm (n + 1) w (nI 4) (nI 0) x (nI dep) = aRun n w 20 1 x (nI (dep + 1)) := frm_at n w 4 0 20 1 x dep hd rfl
theorem frm_5_0 (n : Nat) (w : qW) (x : Int32) (dep : Nat) (hd : dep < 30) : aFrm (n + 1) w (nI 5) (nI 0) x (nI dep) = aRun n w 1 0 x (nI (dep + 1)) := frm_at n w 5 0 1 0 x dep hd rfl
theorem frm_6_0 (n : Nat) (w : qW) (x : Int32) (dep : Nat) (hd : dep < 30) : aFrm (n + 1) w (nI 6) (nI 0) x (nI dep) = aRun n w 70 6 x (nI (dep + 1)) := frm_at n w 6 0 70 6 x dep hd rfl
theorem frm_7_0 (n : Nat) (w : qW) (x : Int32) (dep : Nat) (hd : dep < 30) : aFrm (n + 1) w (nI 7) (nI 0) x (nI dep) = aRun n w 20 1 x (nI (dep + 1)) := frm_at n w 7 0 20 1 x dep hd rfl
theorem frm_0_1 (n : Nat) (w : qW) (x : Int32) (dep : Nat) (hd : dep < 30) : aFrm (n + 1) w (nI 0) (nI 1) x (nI dep) = aRun n w 10 0 x (nI (dep + 1)) := frm_at n w 0 1 10 0 x dep hd rfl
theorem frm_1_1 (n : Nat) (w : qW) (x : Int32) (dep : Nat) (hd : dep < 30) : aFrm (n + 1) w (nI 1) (nI 1) x (nI dep) = aRun n w 10 0 x (nI (dep + 1)) := frm_at n w 1 1 10 0 x dep hd rfl
theorem frm_2_1 (n : Nat) (w : qW) (x : Int32) (dep : Nat) (hd : dep < 30) : aFrm (n + 1) w (nI 2) (nI 1) x (nI dep) = aRun n w 30 2 x (nI (dep + 1)) := frm_at n w 2 1 30 2 x dep hd rfl
theorem frm_3_1 (n : Nat) (w : qW) (x : Int32) (dep : Nat) (hd : dep < 30) : aFrm (n + 1) w (nI 3) (nI 1) x (nI dep) = aRun n w 41 3 x (nI (dep + 1)) := frm_at n w 3 1 41 3 x dep hd rfl
theorem frm_4_1 (n : Nat) (w : qW) (x : Int32) (dep : Nat) (hd : dep < 30) : aFrm (n + 1) w (nI 4) (nI 1) x (nI dep) = aRun n w 10 0 x (nI (dep + 1)) := frm_at n w 4 1 10 0 x dep hd rfl
theorem frm_5_1 (n : Nat) (w : qW) (x : Int32) (dep : Nat) (hd : dep < 30) : aFrm (n + 1) w (nI 5) (nI 1) x (nI dep) = aRun n w 41 3 x (nI (dep + 1)) := frm_at n w 5 1 41 3 x dep hd rfl
theorem frm_6_1 (n : Nat) (w : qW) (x : Int32) (dep : Nat) (hd : dep < 30) : aFrm (n + 1) w (nI 6) (nI 1) x (nI dep) = aRun n w 10 0 x (nI (dep + 1)) := frm_at n w 6 1 10 0 x dep hd rfl
theorem frm_7_1 (n : Nat) (w : qW) (x : Int32) (dep : Nat) (hd : dep < 30) : aFrm (n + 1) w (nI 7) (nI 1) x (nI dep) = aRun n w 80 7 x (nI (dep + 1)) := frm_at n w 7 1 80 7 x dep hd rfl
theorem frm_0_2 (n : Nat) (w : qW) (x : Int32) (dep : Nat) (hd : dep < 30) : aFrm (n + 1) w (nI 0) (nI 2) x (nI dep) = aRun n w 11 0 x (nI (dep + 1)) := frm_at n w 0 2 11 0 x dep hd rfl
theorem frm_1_2 (n : Nat) (w : qW) (x : Int32) (dep : Nat) (hd : dep < 30) : aFrm (n + 1) w (nI 1) (nI 2) x (nI dep) = aRun n w 11 0 x (nI (dep + 1)) := frm_at n w 1 2 11 0 x dep hd rfl
theorem frm_2_2 (n : Nat) (w : qW) (x : Int32) (dep : Nat) (hd : dep < 30) : aFrm (n + 1) w (nI 2) (nI 2) x (nI dep) = aRun n w 11 0 x (nI (dep + 1)) := frm_at n w 2 2 11 0 x dep hd rfl
theorem frm_3_2 (n : Nat) (w : qW) (x : Int32) (dep : Nat) (hd : dep < 30) : aFrm (n + 1) w (nI 3) (nI 2) x (nI dep) = aRun n w 40 3 x (nI (dep + 1)) := frm_at n w 3 2 40 3 x dep hd rfl
theorem frm_4_2 (n : Nat) (w : qW) (x : Int32) (dep : Nat) (hd : dep < 30) : aFrm (n + 1) w (nI 4) (nI 2) x (nI dep) = aRun n w 50 4 x (nI (dep + 1)) := frm_at n w 4 2 50 4 x dep hd rfl
theorem frm_5_2 (n : Nat) (w : qW) (x : Int32) (dep : Nat) (hd : dep < 30) : aFrm (n + 1) w (nI 5) (nI 2) x (nI dep) = aRun n w 40 3 x (nI (dep + 1)) := frm_at n w 5 2 40 3 x dep hd rfl
theorem frm_6_2 (n : Nat) (w : qW) (x : Int32) (dep : Nat) (hd : dep < 30) : aFrm (n + 1) w (nI 6) (nI 2) x (nI dep) = aRun n w 11 0 x (nI (dep + 1)) := frm_at n w 6 2 11 0 x dep hd rfl
theorem frm_7_2 (n : Nat) (w : qW) (x : Int32) (dep : Nat) (hd : dep < 30) : aFrm (n + 1) w (nI 7) (nI 2) x (nI dep) = aRun n w 50 4 x (nI (dep + 1)) := frm_at n w 7 2 50 4 x dep hd rfl
theorem frm_0_3 (n : Nat) (w : qW) (x : Int32) (dep : Nat) (hd : dep < 30) : aFrm (n + 1) w (nI 0) (nI 3) x (nI dep) = aRun n w 2 0 x (nI (dep + 1)) := frm_at n w 0 3 2 0 x dep hd rfl
theorem frm_1_3 (n : Nat) (w : qW) (x : Int32) (dep : Nat) (hd : dep < 30) : aFrm (n + 1) w (nI 1) (nI 3) x (nI dep) = aRun n w 2 0 x (nI (dep + 1)) := frm_at n w 1 3 2 0 x dep hd rfl
theorem frm_2_3 (n : Nat) (w : qW) (x : Int32) (dep : Nat) (hd : dep < 30) : aFrm (n + 1) w (nI 2) (nI 3) x (nI dep) = aRun n w 2 0 x (nI (dep + 1)) := frm_at n w 2 3 2 0 x dep hd rfl
theorem frm_3_3 (n : Nat) (w : qW) (x : Int32) (dep : Nat) (hd : dep < 30) : aFrm (n + 1) w (nI 3) (nI 3) x (nI dep) = aRun n w 2 0 x (nI (dep + 1)) := frm_at n w 3 3 2 0 x dep hd rfl
theorem frm_4_3 (n : Nat) (w : qW) (x : Int32) (dep : Nat) (hd : dep < 30) : aFrm (n + 1) w (nI 4) (nI 3) x (nI dep) = aRun n w 2 0 x (nI (dep + 1)) := frm_at n w 4 3 2 0 x dep hd rfl
theorem frm_5_3 (n : Nat) (w : qW) (x : Int32) (dep : Nat) (hd : dep < 30) : aFrm (n + 1) w (nI 5) (nI 3) x (nI dep) = aRun n w 60 5 x (nI (dep + 1)) := frm_at n w 5 3 60 5 x dep hd rfl
theorem frm_6_3 (n : Nat) (w : qW) (x : Int32) (dep : Nat) (hd : dep < 30) : aFrm (n + 1) w (nI 6) (nI 3) x (nI dep) = aRun n w 2 0 x (nI (dep + 1)) := frm_at n w 6 3 2 0 x dep hd rfl
theorem frm_7_3 (n : Nat) (w : qW) (x : Int32) (dep : Nat) (hd : dep < 30) : aFrm (n + 1) w (nI 7) (nI 3) x (nI dep) = aRun n w 81 7 x (nI (dep + 1)) := frm_at n w 7 3 81 7 x dep hd rfl
theorem ovr_1 (n : Nat) (w : qW) (d x dep : Int32) : aOvr (n + 1) w 1 d x dep = aFrm n w (nI 0) d x dep := q_cl_id _
theorem ovr_2 (n : Nat) (w : qW) (d x dep : Int32) : aOvr (n + 1) w 2 d x dep = aFrm n w (nI 0) d x dep := q_cl_id _
theorem ovr_3 (n : Nat) (w : qW) (d x dep : Int32) : aOvr (n + 1) w 3 d x dep = aFrm n w (nI 2) d x dep := q_cl_id _
theorem ovr_4 (n : Nat) (w : qW) (d x dep : Int32) : aOvr (n + 1) w 4 d x dep = aFrm n w (nI 1) d x dep := q_cl_id _
theorem ovr_5 (n : Nat) (w : qW) (d x dep : Int32) : aOvr (n + 1) w 5 d x dep = aFrm n w (nI 3) d x dep := q_cl_id _
theorem ovr_6 (n : Nat) (w : qW) (d x dep : Int32) : aOvr (n + 1) w 6 d x dep = aFrm n w (nI 0) d x dep := q_cl_id _
theorem ovr_7 (n : Nat) (w : qW) (d x dep : Int32) : aOvr (n + 1) w 7 d x dep = aFrm n w (nI 4) d x dep := q_cl_id _
