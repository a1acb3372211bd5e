set_option maxRecDepth 100000 in
set_option maxHeartbeats 4000000 in
theorem t_X11_passes {E : qE} {Γ : qC} (G : q_Ok E Γ RX11 cX11_passes 2 (112)) (w : qW) : q_Ev E Γ 2 (q_Fi E Γ cX11_passes) 0 [some (.ref 48), none] [] w (f_X11_passes w ) := by
  unfold f_X11_passes
  refine e_aload_n G (pc := 0) dX11_passes_0 rfl rfl ?_
  refine e_aload_n G (pc := 1) dX11_passes_1 rfl rfl ?_
  refine e_getI G (pc := 2) sh_48 rfl lk_X11_263 dX11_passes_2 ?_
  refine e_iconst G (pc := 5) (v := 1) dX11_passes_5 (by decide) ?_
  refine e_cVi G (pc := 6) (As := [.int (q_I w 48 18), .int 1]) (st := []) cv_X11_266 (c_X11_at w (q_I w 48 18) 1 ) sh_48 (Nat.le_of_ble_eq_true rfl) rfl (Nat.le_of_ble_eq_true rfl) dX11_passes_6 (fun r1 w2 => ?_)
  refine e_cSi G (pc := 9) (ci := 0) (id := 0) (sl := []) (As := [.int r1]) (st := []) cs_X11_232 (c_X11_bitsOf w2 r1 ) (Nat.le_of_ble_eq_true rfl) rfl (Nat.le_of_ble_eq_true rfl) dX11_passes_9 (fun r3 w4 => ?_)
  refine e_istore_n G (pc := 12) (L' := [some (.ref 48), some (.int r3)]) dX11_passes_12 rfl (Nat.le_of_ble_eq_true rfl) rfl ?_
  refine e_aload_n G (pc := 13) dX11_passes_13 rfl rfl ?_
  refine e_aload_n G (pc := 14) dX11_passes_14 rfl rfl ?_
  refine e_getI G (pc := 15) sh_48 rfl lk_X11_263 dX11_passes_15 ?_
  refine e_iconst G (pc := 18) (v := 1) dX11_passes_18 (by decide) ?_
  refine e_iadd G (pc := 19) dX11_passes_19 ?_
  refine e_bipush G (pc := 20) (v := 12) dX11_passes_20 (by decide) ?_
  refine e_irem G (pc := 22) dX11_passes_22 (by decide) ?_
  refine e_putI G (pc := 23) sh_48 rfl lp_X11_263 rfl rfl dX11_passes_23 (fun w5 => ?_)
  refine e_aload_n G (pc := 26) dX11_passes_26 rfl rfl ?_
  refine e_getF G (pc := 27) sh_48 rfl lk_X11_31 dX11_passes_27 ?_
  refine e_iconst G (pc := 30) (v := 0) dX11_passes_30 (by decide) ?_
  refine e_dup2 G (pc := 31) dX11_passes_31 rfl rfl ?_
  refine e_iald G (pc := 32) sh_56 dX11_passes_32 (fun v6 => ?_)
  refine e_iconst G (pc := 33) (v := 1) dX11_passes_33 (by decide) ?_
  refine e_iadd G (pc := 34) dX11_passes_34 ?_
  refine e_iast G (pc := 35) sh_56 dX11_passes_35 (fun w7 => ?_)
  refine e_aload_n G (pc := 36) dX11_passes_36 rfl rfl ?_
  refine e_getF G (pc := 37) sh_48 rfl lk_X11_31 dX11_passes_37 ?_
  refine e_iconst G (pc := 40) (v := 3) dX11_passes_40 (by decide) ?_
  refine e_dup2 G (pc := 41) dX11_passes_41 rfl rfl ?_
  refine e_iald G (pc := 42) sh_56 dX11_passes_42 (fun v8 => ?_)
  refine e_aload_n G (pc := 43) dX11_passes_43 rfl rfl ?_
  refine e_aload_n G (pc := 44) dX11_passes_44 rfl rfl ?_
  refine e_cVi G (pc := 45) (As := []) (st := [.ref 48, .int v8, .int 3, .ref 56]) cv_X11_207 (c_X11_everybody w7  ) sh_48 (Nat.le_of_ble_eq_true rfl) rfl (Nat.le_of_ble_eq_true rfl) dX11_passes_45 (fun r9 w10 => ?_)
  refine e_cVi G (pc := 48) (As := [.int r9]) (st := [.int v8, .int 3, .ref 56]) cv_X11_229 (c_X11_payOf w10 r9 ) sh_48 (Nat.le_of_ble_eq_true rfl) rfl (Nat.le_of_ble_eq_true rfl) dX11_passes_48 (fun r11 w12 => ?_)
  refine e_iadd G (pc := 51) dX11_passes_51 ?_
  refine e_iast G (pc := 52) sh_56 dX11_passes_52 (fun w13 => ?_)
  refine e_aload_n G (pc := 53) dX11_passes_53 rfl rfl ?_
  refine e_getF G (pc := 54) sh_48 rfl lk_X11_31 dX11_passes_54 ?_
  refine e_iconst G (pc := 57) (v := 4) dX11_passes_57 (by decide) ?_
  refine e_dup2 G (pc := 58) dX11_passes_58 rfl rfl ?_
  refine e_iald G (pc := 59) sh_56 dX11_passes_59 (fun v14 => ?_)
  refine e_iload_n G (pc := 60) dX11_passes_60 rfl rfl ?_
  refine e_iadd G (pc := 61) dX11_passes_61 ?_
  refine e_iast G (pc := 62) sh_56 dX11_passes_62 (fun w15 => ?_)
  refine e_iload_n G (pc := 63) dX11_passes_63 rfl rfl ?_
  exact e_iret dX11_passes_64
set_option maxRecDepth 100000 in
set_option maxHeartbeats 4000000 in
theorem c_X11_passes (w : qW) : q_AC q_vi (some .int) (112) yX11_passes cX11_passes 2 [.ref 48] w (f_X11_passes w ) := q_met_i (k := 1) (by decide +kernel) rfl rfl rfl (fun _ _ G => t_X11_passes G w  )
set_option maxRecDepth 100000 in
set_option maxHeartbeats 4000000 in
theorem t_X11_steps {E : qE} {Γ : qC} (G : q_Ok E Γ RX11 cX11_steps 4 (4)) (w : qW) (a1 : Int32) (a2 : Int32) : q_Ev E Γ 4 (q_Fi E Γ cX11_steps) 0 [some (.ref 48), some (.int a1), some (.int a2), none] [] w (f_X11_steps w a1 a2) := by
  unfold f_X11_steps
  refine e_aload_n G (pc := 0) dX11_steps_0 rfl rfl ?_
  refine e_iload_n G (pc := 1) dX11_steps_1 rfl rfl ?_
  refine e_i2l G (pc := 2) dX11_steps_2 ?_
  refine e_cVi G (pc := 3) (As := [.long (Int32.toInt64 a1)]) (st := []) cv_X11_116 (c_X11_isMan w (Int32.toInt64 a1) ) sh_48 (Nat.le_of_ble_eq_true rfl) rfl (Nat.le_of_ble_eq_true rfl) dX11_steps_3 (fun r1 w2 => ?_)
  refine e_if_eq G (pc := 6) (tgt := 21) dX11_steps_6 (by decide) ?_ ?_
  · refine e_iconst G (pc := 21) (v := (-1)) dX11_steps_21 (by decide) ?_
    exact e_iret dX11_steps_22
  · refine e_iload_n G (pc := 9) dX11_steps_9 rfl rfl ?_
    refine e_i2l G (pc := 10) dX11_steps_10 ?_
    refine e_lconst G (pc := 11) (v := 0) dX11_steps_11 (by decide) ?_
    refine e_ldc2 G (pc := 12) kl_X11_114 dX11_steps_12 ?_
    refine e_cSi G (pc := 15) (ci := 0) (id := 0) (sl := []) (As := [.long (Int32.toInt64 a2), .long 0, .long 3]) (st := []) cs_X11_78 (c_X11_within w2 (Int32.toInt64 a2) 0 3 ) (Nat.le_of_ble_eq_true rfl) rfl (Nat.le_of_ble_eq_true rfl) dX11_steps_15 (fun r3 w4 => ?_)
    refine e_if_ne G (pc := 18) (tgt := 23) dX11_steps_18 (by decide) ?_ ?_
    · refine e_aload_n G (pc := 23) dX11_steps_23 rfl rfl ?_
      refine e_getF G (pc := 24) sh_48 rfl lk_X11_9 dX11_steps_24 ?_
      refine e_iload_n G (pc := 27) dX11_steps_27 rfl rfl ?_
      refine e_iald G (pc := 28) sh_49 dX11_steps_28 (fun v5 => ?_)
      refine e_iload_n G (pc := 29) dX11_steps_29 rfl rfl ?_
      refine e_cSi G (pc := 30) (ci := 0) (id := 0) (sl := []) (As := [.int v5, .int a2]) (st := []) cs_X11_242 (c_X11_stepFrom w4 v5 a2 ) (Nat.le_of_ble_eq_true rfl) rfl (Nat.le_of_ble_eq_true rfl) dX11_steps_30 (fun r6 w7 => ?_)
      refine e_istore_n G (pc := 33) (L' := [some (.ref 48), some (.int a1), some (.int a2), some (.int r6)]) dX11_steps_33 rfl (Nat.le_of_ble_eq_true rfl) rfl ?_
      refine e_iload_n G (pc := 34) dX11_steps_34 rfl rfl ?_
      refine e_if_ge G (pc := 35) (tgt := 41) dX11_steps_35 (by decide) ?_ ?_
      · refine e_aload_n G (pc := 41) dX11_steps_41 rfl rfl ?_
        refine e_getF G (pc := 42) sh_48 rfl lk_X11_9 dX11_steps_42 ?_
        refine e_iload_n G (pc := 45) dX11_steps_45 rfl rfl ?_
        refine e_iload_n G (pc := 46) dX11_steps_46 rfl rfl ?_
        refine e_iast G (pc := 47) sh_49 dX11_steps_47 (fun w8 => ?_)
        refine e_aload_n G (pc := 48) dX11_steps_48 rfl rfl ?_
        refine e_getF G (pc := 49) sh_48 rfl lk_X11_31 dX11_steps_49 ?_
        refine e_iconst G (pc := 52) (v := 1) dX11_steps_52 (by decide) ?_
        refine e_dup2 G (pc := 53) dX11_steps_53 rfl rfl ?_
        refine e_iald G (pc := 54) sh_56 dX11_steps_54 (fun v9 => ?_)
        refine e_iconst G (pc := 55) (v := 1) dX11_steps_55 (by decide) ?_
        refine e_iadd G (pc := 56) dX11_steps_56 ?_
        refine e_iast G (pc := 57) sh_56 dX11_steps_57 (fun w10 => ?_)
        refine e_iload_n G (pc := 58) dX11_steps_58 rfl rfl ?_
        exact e_iret dX11_steps_59
      · refine e_bipush G (pc := 38) (v := (-5)) dX11_steps_38 (by decide) ?_
        exact e_iret dX11_steps_40
    · refine e_iconst G (pc := 21) (v := (-1)) dX11_steps_21 (by decide) ?_
      exact e_iret dX11_steps_22
set_option maxRecDepth 100000 in
set_option maxHeartbeats 4000000 in
theorem c_X11_steps (w : qW) (a1 : Int32) (a2 : Int32) : q_AC q_vi (some .int) (4) yX11_steps cX11_steps 4 [.ref 48, .int a1, .int a2] w (f_X11_steps w a1 a2) := q_met_i (k := 1) (by decide +kernel) rfl rfl rfl (fun _ _ G => t_X11_steps G w a1 a2 )
set_option maxRecDepth 100000 in
set_option maxHeartbeats 4000000 in
theorem t_X11_bird_B39 {E : qE} {Γ : qC} (G : q_Ok E Γ RX11 cX11_bird 2 (4)) (w : qW) (l1 : Int32) (s0 : Int32) (s1 : Int32) (s2 : Int32) : q_Ev E Γ 2 (q_Fi E Γ cX11_bird) 39 [some (.ref 48), some (.int l1)] [.int s0, .int s1, .int s2, .ref 49] w (f_X11_bird_B39 w l1 s0 s1 s2) := by
  unfold f_X11_bird_B39
  refine e_iadd G (pc := 39) dX11_bird_39 ?_
  refine e_iast G (pc := 40) sh_49 dX11_bird_40 (fun w1 => ?_)
  refine e_aload_n G (pc := 41) dX11_bird_41 rfl rfl ?_
  refine e_getF G (pc := 42) sh_48 rfl lk_X11_31 dX11_bird_42 ?_
  refine e_iconst G (pc := 45) (v := 2) dX11_bird_45 (by decide) ?_
  refine e_dup2 G (pc := 46) dX11_bird_46 rfl rfl ?_
  refine e_iald G (pc := 47) sh_56 dX11_bird_47 (fun v2 => ?_)
  refine e_iconst G (pc := 48) (v := 1) dX11_bird_48 (by decide) ?_
  refine e_iadd G (pc := 49) dX11_bird_49 ?_
  refine e_iast G (pc := 50) sh_56 dX11_bird_50 (fun w3 => ?_)
  refine e_aload_n G (pc := 51) dX11_bird_51 rfl rfl ?_
  refine e_getF G (pc := 52) sh_48 rfl lk_X11_9 dX11_bird_52 ?_
  refine e_bipush G (pc := 55) (v := 16) dX11_bird_55 (by decide) ?_
  refine e_iload_n G (pc := 57) dX11_bird_57 rfl rfl ?_
  refine e_iadd G (pc := 58) dX11_bird_58 ?_
  refine e_iald G (pc := 59) sh_49 dX11_bird_59 (fun v4 => ?_)
  exact e_iret dX11_bird_60
set_option maxRecDepth 100000 in
set_option maxHeartbeats 4000000 in
theorem t_X11_bird {E : qE} {Γ : qC} (G : q_Ok E Γ RX11 cX11_bird 2 (4)) (w : qW) (a1 : Int32) : q_Ev E Γ 2 (q_Fi E Γ cX11_bird) 0 [some (.ref 48), some (.int a1)] [] w (f_X11_bird w a1) := by
  unfold f_X11_bird
  refine e_aload_n G (pc := 0) dX11_bird_0 rfl rfl ?_
  refine e_iload_n G (pc := 1) dX11_bird_1 rfl rfl ?_
  refine e_i2l G (pc := 2) dX11_bird_2 ?_
  refine e_cVi G (pc := 3) (As := [.long (Int32.toInt64 a1)]) (st := []) cv_X11_116 (c_X11_isMan w (Int32.toInt64 a1) ) sh_48 (Nat.le_of_ble_eq_true rfl) rfl (Nat.le_of_ble_eq_true rfl) dX11_bird_3 (fun r1 w2 => ?_)
  refine e_if_ne G (pc := 6) (tgt := 11) dX11_bird_6 (by decide) ?_ ?_
  · refine e_aload_n G (pc := 11) dX11_bird_11 rfl rfl ?_
    refine e_getF G (pc := 12) sh_48 rfl lk_X11_9 dX11_bird_12 ?_
    refine e_bipush G (pc := 15) (v := 16) dX11_bird_15 (by decide) ?_
    refine e_iload_n G (pc := 17) dX11_bird_17 rfl rfl ?_
    refine e_iadd G (pc := 18) dX11_bird_18 ?_
    refine e_ti (fun v3 => ?_)
    refine e_dup2 G (pc := 19) dX11_bird_19 rfl rfl ?_
    refine e_iald G (pc := 20) sh_49 dX11_bird_20 (fun v4 => ?_)
    refine e_aload_n G (pc := 21) dX11_bird_21 rfl rfl ?_
    refine e_getF G (pc := 22) sh_48 rfl lk_X11_9 dX11_bird_22 ?_
    refine e_bipush G (pc := 25) (v := 16) dX11_bird_25 (by decide) ?_
    refine e_iload_n G (pc := 27) dX11_bird_27 rfl rfl ?_
    refine e_iadd G (pc := 28) dX11_bird_28 ?_
    refine e_iald G (pc := 29) sh_49 dX11_bird_29 (fun v5 => ?_)
    refine e_iconst G (pc := 30) (v := 4) dX11_bird_30 (by decide) ?_
    refine e_icmp_ge G (pc := 31) (tgt := 38) dX11_bird_31 (by decide) ?_ ?_
    · refine e_iconst G (pc := 38) (v := 0) dX11_bird_38 (by decide) ?_
      exact t_X11_bird_B39 G w2 a1 0 v4 v3 
    · refine e_iconst G (pc := 34) (v := 1) dX11_bird_34 (by decide) ?_
      refine e_goto G (pc := 35) (tgt := 39) dX11_bird_35 (by decide) ?_
      exact t_X11_bird_B39 G w2 a1 1 v4 v3 
  · refine e_iconst G (pc := 9) (v := (-1)) dX11_bird_9 (by decide) ?_
    exact e_iret dX11_bird_10
set_option maxRecDepth 100000 in
set_option maxHeartbeats 4000000 in
theorem c_X11_bird (w : qW) (a1 : Int32) : q_AC q_vi (some .int) (4) yX11_bird cX11_bird 2 [.ref 48, .int a1] w (f_X11_bird w a1) := q_met_i (k := 0) (by decide +kernel) rfl rfl rfl (fun _ _ G => t_X11_bird G w a1 )
set_option maxRecDepth 100000 in
set_option maxHeartbeats 4000000 in
theorem t_X11_goes {E : qE} {Γ : qC} (G : q_Ok E Γ RX11 cX11_goes 4 (4)) (w : qW) (a1 : Int32) (a2 : Int32) : q_Ev E Γ 4 (q_Fi E Γ cX11_goes) 0 [some (.ref 48), some (.int a1), some (.int a2), none] [] w (f_X11_goes w a1 a2) := by
  unfold f_X11_goes
  refine e_aload_n G (pc := 0) dX11_goes_0 rfl rfl ?_
  refine e_iload_n G (pc := 1) dX11_goes_1 rfl rfl ?_
  refine e_i2l G (pc := 2) dX11_goes_2 ?_
  refine e_cVi G (pc := 3) (As := [.long (Int32.toInt64 a1)]) (st := []) cv_X11_121 (c_X11_isSitter w (Int32.toInt64 a1) ) sh_48 (Nat.le_of_ble_eq_true rfl) rfl (Nat.le_of_ble_eq_true rfl) dX11_goes_3 (fun r1 w2 => ?_)
  refine e_if_eq G (pc := 6) (tgt := 17) dX11_goes_6 (by decide) ?_ ?_
  · refine e_iconst G (pc := 17) (v := (-1)) dX11_goes_17 (by decide) ?_
    exact e_iret dX11_goes_18
  · refine e_iload_n G (pc := 9) dX11_goes_9 rfl rfl ?_
    refine e_i2l G (pc := 10) dX11_goes_10 ?_
    refine e_cSi G (pc := 11) (ci := 0) (id := 0) (sl := []) (As := [.long (Int32.toInt64 a2)]) (st := []) cs_X11_89 (c_X11_isCell w2 (Int32.toInt64 a2) ) (Nat.le_of_ble_eq_true rfl) rfl (Nat.le_of_ble_eq_true rfl) dX11_goes_11 (fun r3 w4 => ?_)
    refine e_if_ne G (pc := 14) (tgt := 19) dX11_goes_14 (by decide) ?_ ?_
    · refine e_aload_n G (pc := 19) dX11_goes_19 rfl rfl ?_
      refine e_getF G (pc := 20) sh_48 rfl lk_X11_9 dX11_goes_20 ?_
      refine e_bipush G (pc := 23) (v := 32) dX11_goes_23 (by decide) ?_
      refine e_iload_n G (pc := 25) dX11_goes_25 rfl rfl ?_
      refine e_iadd G (pc := 26) dX11_goes_26 ?_
      refine e_iald G (pc := 27) sh_49 dX11_goes_27 (fun v5 => ?_)
      refine e_istore_n G (pc := 28) (L' := [some (.ref 48), some (.int a1), some (.int a2), some (.int v5)]) dX11_goes_28 rfl (Nat.le_of_ble_eq_true rfl) rfl ?_
      refine e_aload_n G (pc := 29) dX11_goes_29 rfl rfl ?_
      refine e_getF G (pc := 30) sh_48 rfl lk_X11_9 dX11_goes_30 ?_
      refine e_bipush G (pc := 33) (v := 32) dX11_goes_33 (by decide) ?_
      refine e_iload_n G (pc := 35) dX11_goes_35 rfl rfl ?_
      refine e_iadd G (pc := 36) dX11_goes_36 ?_
      refine e_iload_n G (pc := 37) dX11_goes_37 rfl rfl ?_
      refine e_iast G (pc := 38) sh_49 dX11_goes_38 (fun w6 => ?_)
      refine e_iload_n G (pc := 39) dX11_goes_39 rfl rfl ?_
      exact e_iret dX11_goes_40
    · refine e_iconst G (pc := 17) (v := (-1)) dX11_goes_17 (by decide) ?_
      exact e_iret dX11_goes_18
set_option maxRecDepth 100000 in
set_option maxHeartbeats 4000000 in
theorem c_X11_goes (w : qW) (a1 : Int32) (a2 : Int32) : q_AC q_vi (some .int) (4) yX11_goes cX11_goes 4 [.ref 48, .int a1, .int a2] w (f_X11_goes w a1 a2) := q_met_i (k := 1) (by decide +kernel) rfl rfl rfl (fun _ _ G => t_X11_goes G w a1 a2 )
set_option maxRecDepth 100000 in
set_option maxHeartbeats 4000000 in
theorem t_X11_led {E : qE} {Γ : qC} (G : q_Ok E Γ RX11 cX11_led 2 (3)) (w : qW) (a1 : Int32) : q_Ev E Γ 2 (q_Fi E Γ cX11_led) 0 [some (.ref 48), some (.int a1)] [] w (f_X11_led w a1) := by
  unfold f_X11_led
  refine e_iload_n G (pc := 0) dX11_led_0 rfl rfl ?_
  refine e_i2l G (pc := 1) dX11_led_1 ?_
  refine e_lconst G (pc := 2) (v := 0) dX11_led_2 (by decide) ?_
  refine e_ldc2 G (pc := 3) kl_X11_119 dX11_led_3 ?_
  refine e_cSi G (pc := 6) (ci := 0) (id := 0) (sl := []) (As := [.long (Int32.toInt64 a1), .long 0, .long 4]) (st := []) cs_X11_78 (c_X11_within w (Int32.toInt64 a1) 0 4 ) (Nat.le_of_ble_eq_true rfl) rfl (Nat.le_of_ble_eq_true rfl) dX11_led_6 (fun r1 w2 => ?_)
  refine e_if_eq G (pc := 9) (tgt := 21) dX11_led_9 (by decide) ?_ ?_
  · refine e_iload_n G (pc := 21) dX11_led_21 rfl rfl ?_
    refine e_iconst G (pc := 22) (v := 5) dX11_led_22 (by decide) ?_
    refine e_icmp_ne G (pc := 23) (tgt := 33) dX11_led_23 (by decide) ?_ ?_
    · refine e_iconst G (pc := 33) (v := (-1)) dX11_led_33 (by decide) ?_
      exact e_iret dX11_led_34
    · refine e_aload_n G (pc := 26) dX11_led_26 rfl rfl ?_
      refine e_getI G (pc := 27) sh_48 rfl lk_X11_263 dX11_led_27 ?_
      refine e_goto G (pc := 30) (tgt := 34) dX11_led_30 (by decide) ?_
      exact e_iret dX11_led_34
  · refine e_aload_n G (pc := 12) dX11_led_12 rfl rfl ?_
    refine e_getF G (pc := 13) sh_48 rfl lk_X11_31 dX11_led_13 ?_
    refine e_iload_n G (pc := 16) dX11_led_16 rfl rfl ?_
    refine e_iald G (pc := 17) sh_56 dX11_led_17 (fun v3 => ?_)
    refine e_goto G (pc := 18) (tgt := 34) dX11_led_18 (by decide) ?_
    exact e_iret dX11_led_34
set_option maxRecDepth 100000 in
set_option maxHeartbeats 4000000 in
theorem c_X11_led (w : qW) (a1 : Int32) : q_AC q_vi (some .int) (3) yX11_led cX11_led 2 [.ref 48, .int a1] w (f_X11_led w a1) := q_met_i (k := 0) (by decide +kernel) rfl rfl rfl (fun _ _ G => t_X11_led G w a1 )
set_option maxRecDepth 100000 in
set_option maxHeartbeats 4000000 in
theorem t_X11_image_B105 {E : qE} {Γ : qC} (G : q_Ok E Γ RX11 cX11_image 2 (2)) (k105 : qW → Int32 → Option (Int32 × qW)) (hk105 : ∀ (w : qW) (l1 : Int32), q_Ev E Γ 2 (q_Fi E Γ cX11_image) 105 [some (.ref 48), some (.int l1)] [] w (k105 w l1)) (w : qW) (l1 : Int32) : q_Ev E Γ 2 (q_Fi E Γ cX11_image) 105 [some (.ref 48), some (.int l1)] [] w (f_X11_image_B105 k105 w l1) := by
  unfold f_X11_image_B105
  refine e_iload_n G (pc := 105) dX11_image_105 rfl rfl ?_
  refine e_iconst G (pc := 106) (v := 5) dX11_image_106 (by decide) ?_
  refine e_icmp_ge G (pc := 107) (tgt := 128) dX11_image_107 (by decide) ?_ ?_
  · refine e_aload_n G (pc := 128) dX11_image_128 rfl rfl ?_
    refine e_getF G (pc := 129) sh_48 rfl lk_X11_31 dX11_image_129 ?_
    refine e_iconst G (pc := 132) (v := 0) dX11_image_132 (by decide) ?_
    refine e_iald G (pc := 133) sh_56 dX11_image_133 (fun v1 => ?_)
    exact e_iret dX11_image_134
  · refine e_aload_n G (pc := 110) dX11_image_110 rfl rfl ?_
    refine e_getF G (pc := 111) sh_48 rfl lk_X11_43 dX11_image_111 ?_
    refine e_iload_n G (pc := 114) dX11_image_114 rfl rfl ?_
    refine e_aload_n G (pc := 115) dX11_image_115 rfl rfl ?_
    refine e_getF G (pc := 116) sh_48 rfl lk_X11_31 dX11_image_116 ?_
    refine e_iload_n G (pc := 119) dX11_image_119 rfl rfl ?_
    refine e_iald G (pc := 120) sh_56 dX11_image_120 (fun v2 => ?_)
    refine e_iast G (pc := 121) sh_60 dX11_image_121 (fun w3 => ?_)
    refine e_iinc G (pc := 122) (x := l1) (v := l1 + 1) (L' := fun v4 => [some (.ref 48), some (.int v4)]) dX11_image_122 (Nat.le_of_ble_eq_true rfl) rfl (by rfl) (fun _ => rfl) (fun v4 => ?_)
    refine e_goto G (pc := 125) (tgt := 105) dX11_image_125 (by decide) ?_
    exact hk105 w3 v4 
set_option maxRecDepth 100000 in
set_option maxHeartbeats 4000000 in
theorem t_X11_image_R105 {E : qE} {Γ : qC} (G : q_Ok E Γ RX11 cX11_image 2 (2)) : ∀ (fuel : Nat) (w : qW) (l1 : Int32) , q_Ev E Γ 2 (q_Fi E Γ cX11_image) 105 [some (.ref 48), some (.int l1)] [] w (f_X11_image_R105 fuel w l1) := by
  intro fuel
  induction fuel with
  | zero => intros; exact e_none
  | succ fuel ih =>
    intro w l1 
    exact t_X11_image_B105 G _ ih w l1 
set_option maxRecDepth 100000 in
set_option maxHeartbeats 4000000 in
theorem t_X11_image_B74 {E : qE} {Γ : qC} (G : q_Ok E Γ RX11 cX11_image 2 (2)) (k74 : qW → Int32 → Option (Int32 × qW)) (hk74 : ∀ (w : qW) (l1 : Int32), q_Ev E Γ 2 (q_Fi E Γ cX11_image) 74 [some (.ref 48), some (.int l1)] [] w (k74 w l1)) (w : qW) (l1 : Int32) : q_Ev E Γ 2 (q_Fi E Γ cX11_image) 74 [some (.ref 48), some (.int l1)] [] w (f_X11_image_B74 k74 w l1) := by
  unfold f_X11_image_B74
  refine e_iload_n G (pc := 74) dX11_image_74 rfl rfl ?_
  refine e_aload_n G (pc := 75) dX11_image_75 rfl rfl ?_
  refine e_getI G (pc := 76) sh_48 rfl lk_X11_82 dX11_image_76 ?_
  refine e_icmp_ge G (pc := 79) (tgt := 103) dX11_image_79 (by decide) ?_ ?_
  · refine e_iconst G (pc := 103) (v := 0) dX11_image_103 (by decide) ?_
    refine e_istore_n G (pc := 104) (L' := [some (.ref 48), some (.int 0)]) dX11_image_104 rfl (Nat.le_of_ble_eq_true rfl) rfl ?_
    exact t_X11_image_R105 G  q_fuel w 0 
  · refine e_aload_n G (pc := 82) dX11_image_82 rfl rfl ?_
    refine e_getF G (pc := 83) sh_48 rfl lk_X11_40 dX11_image_83 ?_
    refine e_iload_n G (pc := 86) dX11_image_86 rfl rfl ?_
    refine e_aload_n G (pc := 87) dX11_image_87 rfl rfl ?_
    refine e_getF G (pc := 88) sh_48 rfl lk_X11_9 dX11_image_88 ?_
    refine e_bipush G (pc := 91) (v := 32) dX11_image_91 (by decide) ?_
    refine e_iload_n G (pc := 93) dX11_image_93 rfl rfl ?_
    refine e_iadd G (pc := 94) dX11_image_94 ?_
    refine e_iald G (pc := 95) sh_49 dX11_image_95 (fun v1 => ?_)
    refine e_iast G (pc := 96) sh_59 dX11_image_96 (fun w2 => ?_)
    refine e_iinc G (pc := 97) (x := l1) (v := l1 + 1) (L' := fun v3 => [some (.ref 48), some (.int v3)]) dX11_image_97 (Nat.le_of_ble_eq_true rfl) rfl (by rfl) (fun _ => rfl) (fun v3 => ?_)
    refine e_goto G (pc := 100) (tgt := 74) dX11_image_100 (by decide) ?_
    exact hk74 w2 v3 
set_option maxRecDepth 100000 in
set_option maxHeartbeats 4000000 in
theorem t_X11_image_R74 {E : qE} {Γ : qC} (G : q_Ok E Γ RX11 cX11_image 2 (2)) : ∀ (fuel : Nat) (w : qW) (l1 : Int32) , q_Ev E Γ 2 (q_Fi E Γ cX11_image) 74 [some (.ref 48), some (.int l1)] [] w (f_X11_image_R74 fuel w l1) := by
  intro fuel
  induction fuel with
  | zero => intros; exact e_none
  | succ fuel ih =>
    intro w l1 
    exact t_X11_image_B74 G _ ih w l1 
set_option maxRecDepth 100000 in
set_option maxHeartbeats 4000000 in
theorem t_X11_image_B31 {E : qE} {Γ : qC} (G : q_Ok E Γ RX11 cX11_image 2 (2)) (k31 : qW → Int32 → Option (Int32 × qW)) (hk31 : ∀ (w : qW) (l1 : Int32), q_Ev E Γ 2 (q_Fi E Γ cX11_image) 31 [some (.ref 48), some (.int l1)] [] w (k31 w l1)) (w : qW) (l1 : Int32) : q_Ev E Γ 2 (q_Fi E Γ cX11_image) 31 [some (.ref 48), some (.int l1)] [] w (f_X11_image_B31 k31 w l1) := by
  unfold f_X11_image_B31
  refine e_iload_n G (pc := 31) dX11_image_31 rfl rfl ?_
  refine e_aload_n G (pc := 32) dX11_image_32 rfl rfl ?_
  refine e_getI G (pc := 33) sh_48 rfl lk_X11_75 dX11_image_33 ?_
  refine e_icmp_ge G (pc := 36) (tgt := 72) dX11_image_36 (by decide) ?_ ?_
  · refine e_iconst G (pc := 72) (v := 0) dX11_image_72 (by decide) ?_
    refine e_istore_n G (pc := 73) (L' := [some (.ref 48), some (.int 0)]) dX11_image_73 rfl (Nat.le_of_ble_eq_true rfl) rfl ?_
    exact t_X11_image_R74 G  q_fuel w 0 
  · refine e_aload_n G (pc := 39) dX11_image_39 rfl rfl ?_
    refine e_getF G (pc := 40) sh_48 rfl lk_X11_34 dX11_image_40 ?_
    refine e_iload_n G (pc := 43) dX11_image_43 rfl rfl ?_
    refine e_aload_n G (pc := 44) dX11_image_44 rfl rfl ?_
    refine e_getF G (pc := 45) sh_48 rfl lk_X11_9 dX11_image_45 ?_
    refine e_iload_n G (pc := 48) dX11_image_48 rfl rfl ?_
    refine e_iald G (pc := 49) sh_49 dX11_image_49 (fun v1 => ?_)
    refine e_iast G (pc := 50) sh_57 dX11_image_50 (fun w2 => ?_)
    refine e_aload_n G (pc := 51) dX11_image_51 rfl rfl ?_
    refine e_getF G (pc := 52) sh_48 rfl lk_X11_37 dX11_image_52 ?_
    refine e_iload_n G (pc := 55) dX11_image_55 rfl rfl ?_
    refine e_aload_n G (pc := 56) dX11_image_56 rfl rfl ?_
    refine e_getF G (pc := 57) sh_48 rfl lk_X11_9 dX11_image_57 ?_
    refine e_bipush G (pc := 60) (v := 16) dX11_image_60 (by decide) ?_
    refine e_iload_n G (pc := 62) dX11_image_62 rfl rfl ?_
    refine e_iadd G (pc := 63) dX11_image_63 ?_
    refine e_iald G (pc := 64) sh_49 dX11_image_64 (fun v3 => ?_)
    refine e_iast G (pc := 65) sh_58 dX11_image_65 (fun w4 => ?_)
    refine e_iinc G (pc := 66) (x := l1) (v := l1 + 1) (L' := fun v5 => [some (.ref 48), some (.int v5)]) dX11_image_66 (Nat.le_of_ble_eq_true rfl) rfl (by rfl) (fun _ => rfl) (fun v5 => ?_)
    refine e_goto G (pc := 69) (tgt := 31) dX11_image_69 (by decide) ?_
    exact hk31 w4 v5 
set_option maxRecDepth 100000 in
set_option maxHeartbeats 4000000 in
theorem t_X11_image_R31 {E : qE} {Γ : qC} (G : q_Ok E Γ RX11 cX11_image 2 (2)) : ∀ (fuel : Nat) (w : qW) (l1 : Int32) , q_Ev E Γ 2 (q_Fi E Γ cX11_image) 31 [some (.ref 48), some (.int l1)] [] w (f_X11_image_R31 fuel w l1) := by
  intro fuel
  induction fuel with
  | zero => intros; exact e_none
  | succ fuel ih =>
    intro w l1 
    exact t_X11_image_B31 G _ ih w l1 
set_option maxRecDepth 100000 in
set_option maxHeartbeats 4000000 in
theorem t_X11_image {E : qE} {Γ : qC} (G : q_Ok E Γ RX11 cX11_image 2 (2)) (w : qW) : q_Ev E Γ 2 (q_Fi E Γ cX11_image) 0 [some (.ref 48), none] [] w (f_X11_image w ) := by
  unfold f_X11_image
  refine e_aload_n G (pc := 0) dX11_image_0 rfl rfl ?_
  refine e_iconst G (pc := 1) (v := 1) dX11_image_1 (by decide) ?_
  refine e_putI G (pc := 2) sh_48 rfl lp_X11_268 (by decide) (by decide) dX11_image_2 (fun w1 => ?_)
  refine e_aload_n G (pc := 5) dX11_image_5 rfl rfl ?_
  refine e_aload_n G (pc := 6) dX11_image_6 rfl rfl ?_
  refine e_getI G (pc := 7) sh_48 rfl lk_X11_75 dX11_image_7 ?_
  refine e_putI G (pc := 10) sh_48 rfl lp_X11_272 rfl rfl dX11_image_10 (fun w2 => ?_)
  refine e_aload_n G (pc := 13) dX11_image_13 rfl rfl ?_
  refine e_aload_n G (pc := 14) dX11_image_14 rfl rfl ?_
  refine e_getI G (pc := 15) sh_48 rfl lk_X11_82 dX11_image_15 ?_
  refine e_putI G (pc := 18) sh_48 rfl lp_X11_275 rfl rfl dX11_image_18 (fun w3 => ?_)
  refine e_aload_n G (pc := 21) dX11_image_21 rfl rfl ?_
  refine e_aload_n G (pc := 22) dX11_image_22 rfl rfl ?_
  refine e_getI G (pc := 23) sh_48 rfl lk_X11_263 dX11_image_23 ?_
  refine e_putI G (pc := 26) sh_48 rfl lp_X11_278 rfl rfl dX11_image_26 (fun w4 => ?_)
  refine e_iconst G (pc := 29) (v := 0) dX11_image_29 (by decide) ?_
  refine e_istore_n G (pc := 30) (L' := [some (.ref 48), some (.int 0)]) dX11_image_30 rfl (Nat.le_of_ble_eq_true rfl) rfl ?_
  exact t_X11_image_R31 G  q_fuel w4 0 
set_option maxRecDepth 100000 in
set_option maxHeartbeats 4000000 in
theorem c_X11_image (w : qW) : q_AC q_vi (some .int) (2) yX11_image cX11_image 2 [.ref 48] w (f_X11_image w ) := q_met_i (k := 1) (by decide +kernel) rfl rfl rfl (fun _ _ G => t_X11_image G w  )
set_option maxRecDepth 100000 in
set_option maxHeartbeats 4000000 in
theorem t_X11_back_B94 {E : qE} {Γ : qC} (G : q_Ok E Γ RX11 cX11_back 2 (2)) (k94 : qW → Int32 → Option (Int32 × qW)) (hk94 : ∀ (w : qW) (l1 : Int32), q_Ev E Γ 2 (q_Fi E Γ cX11_back) 94 [some (.ref 48), some (.int l1)] [] w (k94 w l1)) (w : qW) (l1 : Int32) : q_Ev E Γ 2 (q_Fi E Γ cX11_back) 94 [some (.ref 48), some (.int l1)] [] w (f_X11_back_B94 k94 w l1) := by
  unfold f_X11_back_B94
  refine e_iload_n G (pc := 94) dX11_back_94 rfl rfl ?_
  refine e_iconst G (pc := 95) (v := 5) dX11_back_95 (by decide) ?_
  refine e_icmp_ge G (pc := 96) (tgt := 117) dX11_back_96 (by decide) ?_ ?_
  · refine e_aload_n G (pc := 117) dX11_back_117 rfl rfl ?_
    refine e_getF G (pc := 118) sh_48 rfl lk_X11_31 dX11_back_118 ?_
    refine e_iconst G (pc := 121) (v := 0) dX11_back_121 (by decide) ?_
    refine e_iald G (pc := 122) sh_56 dX11_back_122 (fun v1 => ?_)
    exact e_iret dX11_back_123
  · refine e_aload_n G (pc := 99) dX11_back_99 rfl rfl ?_
    refine e_getF G (pc := 100) sh_48 rfl lk_X11_31 dX11_back_100 ?_
    refine e_iload_n G (pc := 103) dX11_back_103 rfl rfl ?_
    refine e_aload_n G (pc := 104) dX11_back_104 rfl rfl ?_
    refine e_getF G (pc := 105) sh_48 rfl lk_X11_43 dX11_back_105 ?_
    refine e_iload_n G (pc := 108) dX11_back_108 rfl rfl ?_
    refine e_iald G (pc := 109) sh_60 dX11_back_109 (fun v2 => ?_)
    refine e_iast G (pc := 110) sh_56 dX11_back_110 (fun w3 => ?_)
    refine e_iinc G (pc := 111) (x := l1) (v := l1 + 1) (L' := fun v4 => [some (.ref 48), some (.int v4)]) dX11_back_111 (Nat.le_of_ble_eq_true rfl) rfl (by rfl) (fun _ => rfl) (fun v4 => ?_)
    refine e_goto G (pc := 114) (tgt := 94) dX11_back_114 (by decide) ?_
    exact hk94 w3 v4 
set_option maxRecDepth 100000 in
set_option maxHeartbeats 4000000 in
theorem t_X11_back_R94 {E : qE} {Γ : qC} (G : q_Ok E Γ RX11 cX11_back 2 (2)) : ∀ (fuel : Nat) (w : qW) (l1 : Int32) , q_Ev E Γ 2 (q_Fi E Γ cX11_back) 94 [some (.ref 48), some (.int l1)] [] w (f_X11_back_R94 fuel w l1) := by
  intro fuel
  induction fuel with
  | zero => intros; exact e_none
  | succ fuel ih =>
    intro w l1 
    exact t_X11_back_B94 G _ ih w l1 
set_option maxRecDepth 100000 in
set_option maxHeartbeats 4000000 in
theorem t_X11_back_B55 {E : qE} {Γ : qC} (G : q_Ok E Γ RX11 cX11_back 2 (2)) (k55 : qW → Int32 → Option (Int32 × qW)) (hk55 : ∀ (w : qW) (l1 : Int32), q_Ev E Γ 2 (q_Fi E Γ cX11_back) 55 [some (.ref 48), some (.int l1)] [] w (k55 w l1)) (w : qW) (l1 : Int32) : q_Ev E Γ 2 (q_Fi E Γ cX11_back) 55 [some (.ref 48), some (.int l1)] [] w (f_X11_back_B55 k55 w l1) := by
  unfold f_X11_back_B55
  refine e_iload_n G (pc := 55) dX11_back_55 rfl rfl ?_
  refine e_aload_n G (pc := 56) dX11_back_56 rfl rfl ?_
  refine e_getI G (pc := 57) sh_48 rfl lk_X11_275 dX11_back_57 ?_
  refine e_icmp_ge G (pc := 60) (tgt := 84) dX11_back_60 (by decide) ?_ ?_
  · refine e_aload_n G (pc := 84) dX11_back_84 rfl rfl ?_
    refine e_aload_n G (pc := 85) dX11_back_85 rfl rfl ?_
    refine e_getI G (pc := 86) sh_48 rfl lk_X11_278 dX11_back_86 ?_
    refine e_putI G (pc := 89) sh_48 rfl lp_X11_263 rfl rfl dX11_back_89 (fun w1 => ?_)
    refine e_iconst G (pc := 92) (v := 0) dX11_back_92 (by decide) ?_
    refine e_istore_n G (pc := 93) (L' := [some (.ref 48), some (.int 0)]) dX11_back_93 rfl (Nat.le_of_ble_eq_true rfl) rfl ?_
    exact t_X11_back_R94 G  q_fuel w1 0 
  · refine e_aload_n G (pc := 63) dX11_back_63 rfl rfl ?_
    refine e_getF G (pc := 64) sh_48 rfl lk_X11_9 dX11_back_64 ?_
    refine e_bipush G (pc := 67) (v := 32) dX11_back_67 (by decide) ?_
    refine e_iload_n G (pc := 69) dX11_back_69 rfl rfl ?_
    refine e_iadd G (pc := 70) dX11_back_70 ?_
    refine e_aload_n G (pc := 71) dX11_back_71 rfl rfl ?_
    refine e_getF G (pc := 72) sh_48 rfl lk_X11_40 dX11_back_72 ?_
    refine e_iload_n G (pc := 75) dX11_back_75 rfl rfl ?_
    refine e_iald G (pc := 76) sh_59 dX11_back_76 (fun v2 => ?_)
    refine e_iast G (pc := 77) sh_49 dX11_back_77 (fun w3 => ?_)
    refine e_iinc G (pc := 78) (x := l1) (v := l1 + 1) (L' := fun v4 => [some (.ref 48), some (.int v4)]) dX11_back_78 (Nat.le_of_ble_eq_true rfl) rfl (by rfl) (fun _ => rfl) (fun v4 => ?_)
    refine e_goto G (pc := 81) (tgt := 55) dX11_back_81 (by decide) ?_
    exact hk55 w3 v4 
set_option maxRecDepth 100000 in
set_option maxHeartbeats 4000000 in
theorem t_X11_back_R55 {E : qE} {Γ : qC} (G : q_Ok E Γ RX11 cX11_back 2 (2)) : ∀ (fuel : Nat) (w : qW) (l1 : Int32) , q_Ev E Γ 2 (q_Fi E Γ cX11_back) 55 [some (.ref 48), some (.int l1)] [] w (f_X11_back_R55 fuel w l1) := by
  intro fuel
  induction fuel with
  | zero => intros; exact e_none
  | succ fuel ih =>
    intro w l1 
    exact t_X11_back_B55 G _ ih w l1 
set_option maxRecDepth 100000 in
set_option maxHeartbeats 4000000 in
theorem t_X11_back_B12 {E : qE} {Γ : qC} (G : q_Ok E Γ RX11 cX11_back 2 (2)) (k12 : qW → Int32 → Option (Int32 × qW)) (hk12 : ∀ (w : qW) (l1 : Int32), q_Ev E Γ 2 (q_Fi E Γ cX11_back) 12 [some (.ref 48), some (.int l1)] [] w (k12 w l1)) (w : qW) (l1 : Int32) : q_Ev E Γ 2 (q_Fi E Γ cX11_back) 12 [some (.ref 48), some (.int l1)] [] w (f_X11_back_B12 k12 w l1) := by
  unfold f_X11_back_B12
  refine e_iload_n G (pc := 12) dX11_back_12 rfl rfl ?_
  refine e_aload_n G (pc := 13) dX11_back_13 rfl rfl ?_
  refine e_getI G (pc := 14) sh_48 rfl lk_X11_272 dX11_back_14 ?_
  refine e_icmp_ge G (pc := 17) (tgt := 53) dX11_back_17 (by decide) ?_ ?_
  · refine e_iconst G (pc := 53) (v := 0) dX11_back_53 (by decide) ?_
    refine e_istore_n G (pc := 54) (L' := [some (.ref 48), some (.int 0)]) dX11_back_54 rfl (Nat.le_of_ble_eq_true rfl) rfl ?_
    exact t_X11_back_R55 G  q_fuel w 0 
  · refine e_aload_n G (pc := 20) dX11_back_20 rfl rfl ?_
    refine e_getF G (pc := 21) sh_48 rfl lk_X11_9 dX11_back_21 ?_
    refine e_iload_n G (pc := 24) dX11_back_24 rfl rfl ?_
    refine e_aload_n G (pc := 25) dX11_back_25 rfl rfl ?_
    refine e_getF G (pc := 26) sh_48 rfl lk_X11_34 dX11_back_26 ?_
    refine e_iload_n G (pc := 29) dX11_back_29 rfl rfl ?_
    refine e_iald G (pc := 30) sh_57 dX11_back_30 (fun v1 => ?_)
    refine e_iast G (pc := 31) sh_49 dX11_back_31 (fun w2 => ?_)
    refine e_aload_n G (pc := 32) dX11_back_32 rfl rfl ?_
    refine e_getF G (pc := 33) sh_48 rfl lk_X11_9 dX11_back_33 ?_
    refine e_bipush G (pc := 36) (v := 16) dX11_back_36 (by decide) ?_
    refine e_iload_n G (pc := 38) dX11_back_38 rfl rfl ?_
    refine e_iadd G (pc := 39) dX11_back_39 ?_
    refine e_aload_n G (pc := 40) dX11_back_40 rfl rfl ?_
    refine e_getF G (pc := 41) sh_48 rfl lk_X11_37 dX11_back_41 ?_
    refine e_iload_n G (pc := 44) dX11_back_44 rfl rfl ?_
    refine e_iald G (pc := 45) sh_58 dX11_back_45 (fun v3 => ?_)
    refine e_iast G (pc := 46) sh_49 dX11_back_46 (fun w4 => ?_)
    refine e_iinc G (pc := 47) (x := l1) (v := l1 + 1) (L' := fun v5 => [some (.ref 48), some (.int v5)]) dX11_back_47 (Nat.le_of_ble_eq_true rfl) rfl (by rfl) (fun _ => rfl) (fun v5 => ?_)
    refine e_goto G (pc := 50) (tgt := 12) dX11_back_50 (by decide) ?_
    exact hk12 w4 v5 
set_option maxRecDepth 100000 in
set_option maxHeartbeats 4000000 in
theorem t_X11_back_R12 {E : qE} {Γ : qC} (G : q_Ok E Γ RX11 cX11_back 2 (2)) : ∀ (fuel : Nat) (w : qW) (l1 : Int32) , q_Ev E Γ 2 (q_Fi E Γ cX11_back) 12 [some (.ref 48), some (.int l1)] [] w (f_X11_back_R12 fuel w l1) := by
  intro fuel
  induction fuel with
  | zero => intros; exact e_none
  | succ fuel ih =>
    intro w l1 
    exact t_X11_back_B12 G _ ih w l1 
set_option maxRecDepth 100000 in
set_option maxHeartbeats 4000000 in
theorem t_X11_back {E : qE} {Γ : qC} (G : q_Ok E Γ RX11 cX11_back 2 (2)) (w : qW) : q_Ev E Γ 2 (q_Fi E Γ cX11_back) 0 [some (.ref 48), none] [] w (f_X11_back w ) := by
  unfold f_X11_back
  refine e_aload_n G (pc := 0) dX11_back_0 rfl rfl ?_
  refine e_getI G (pc := 1) sh_48 rfl lk_X11_268 dX11_back_1 ?_
  refine e_if_ne G (pc := 4) (tgt := 10) dX11_back_4 (by decide) ?_ ?_
  · refine e_iconst G (pc := 10) (v := 0) dX11_back_10 (by decide) ?_
    refine e_istore_n G (pc := 11) (L' := [some (.ref 48), some (.int 0)]) dX11_back_11 rfl (Nat.le_of_ble_eq_true rfl) rfl ?_
    exact t_X11_back_R12 G  q_fuel w 0 
  · refine e_bipush G (pc := 7) (v := (-5)) dX11_back_7 (by decide) ?_
    exact e_iret dX11_back_9
set_option maxRecDepth 100000 in
set_option maxHeartbeats 4000000 in
theorem c_X11_back (w : qW) : q_AC q_vi (some .int) (2) yX11_back cX11_back 2 [.ref 48] w (f_X11_back w ) := q_met_i (k := 1) (by decide +kernel) rfl rfl rfl (fun _ _ G => t_X11_back G w  )
set_option maxRecDepth 100000 in
set_option maxHeartbeats 4000000 in
theorem t_X11_isBody {E : qE} {Γ : qC} (G : q_Ok E Γ RX11 cX11_isBody 2 (3)) (w : qW) (a1 : Int32) : q_Ev E Γ 2 (q_Fz E Γ cX11_isBody) 0 [some (.ref 48), some (.int a1)] [] w (f_X11_isBody w a1) := by
  unfold f_X11_isBody
  refine e_iload_n G (pc := 0) dX11_isBody_0 rfl rfl ?_
  refine e_i2l G (pc := 1) dX11_isBody_1 ?_
  refine e_lconst G (pc := 2) (v := 0) dX11_isBody_2 (by decide) ?_
  refine e_aload_n G (pc := 3) dX11_isBody_3 rfl rfl ?_
  refine e_getI G (pc := 4) sh_48 rfl lk_X11_281 dX11_isBody_4 ?_
  refine e_iconst G (pc := 7) (v := 1) dX11_isBody_7 (by decide) ?_
  refine e_isub G (pc := 8) dX11_isBody_8 ?_
  refine e_i2l G (pc := 9) dX11_isBody_9 ?_
  refine e_cSi G (pc := 10) (ci := 0) (id := 0) (sl := []) (As := [.long (Int32.toInt64 a1), .long 0, .long (Int32.toInt64 ((q_I w 48 28) - 1))]) (st := []) cs_X11_78 (c_X11_within w (Int32.toInt64 a1) 0 (Int32.toInt64 ((q_I w 48 28) - 1)) ) (Nat.le_of_ble_eq_true rfl) rfl (Nat.le_of_ble_eq_true rfl) dX11_isBody_10 (fun r1 w2 => ?_)
  exact e_zret dX11_isBody_13
set_option maxRecDepth 100000 in
set_option maxHeartbeats 4000000 in
theorem c_X11_isBody (w : qW) (a1 : Int32) : q_AC q_vi (some .boolean) (3) yX11_isBody cX11_isBody 2 [.ref 48, .int a1] w (f_X11_isBody w a1) := q_met_z (k := 0) (by decide +kernel) rfl rfl rfl (fun _ _ G => t_X11_isBody G w a1 )
set_option maxRecDepth 100000 in
set_option maxHeartbeats 4000000 in
theorem t_X11_kindOf {E : qE} {Γ : qC} (G : q_Ok E Γ RX11 cX11_kindOf 2 (2)) (w : qW) (a1 : Int32) : q_Ev E Γ 2 (q_Fi E Γ cX11_kindOf) 0 [some (.ref 48), some (.int a1)] [] w (f_X11_kindOf w a1) := by
  unfold f_X11_kindOf
  refine e_aload_n G (pc := 0) dX11_kindOf_0 rfl rfl ?_
  refine e_getF G (pc := 1) sh_48 rfl lk_X11_46 dX11_kindOf_1 ?_
  refine e_iload_n G (pc := 4) dX11_kindOf_4 rfl rfl ?_
  refine e_iald G (pc := 5) sh_61 dX11_kindOf_5 (fun v1 => ?_)
  exact e_iret dX11_kindOf_6
set_option maxRecDepth 100000 in
set_option maxHeartbeats 4000000 in
theorem c_X11_kindOf (w : qW) (a1 : Int32) : q_AC q_vi (some .int) (2) yX11_kindOf cX11_kindOf 2 [.ref 48, .int a1] w (f_X11_kindOf w a1) := q_met_i (k := 0) (by decide +kernel) rfl rfl rfl (fun _ _ G => t_X11_kindOf G w a1 )
set_option maxRecDepth 100000 in
set_option maxHeartbeats 4000000 in
theorem t_X11_body {E : qE} {Γ : qC} (G : q_Ok E Γ RX11 cX11_body 2 (3)) (w : qW) (a1 : Int32) : q_Ev E Γ 2 (q_Fi E Γ cX11_body) 0 [some (.ref 48), some (.int a1)] [] w (f_X11_body w a1) := by
  unfold f_X11_body
  refine e_iload_n G (pc := 0) dX11_body_0 rfl rfl ?_
  refine e_i2l G (pc := 1) dX11_body_1 ?_
  refine e_lconst G (pc := 2) (v := 0) dX11_body_2 (by decide) ?_
  refine e_ldc2 G (pc := 3) kl_X11_284 dX11_body_3 ?_
  refine e_cSi G (pc := 6) (ci := 0) (id := 0) (sl := []) (As := [.long (Int32.toInt64 a1), .long 0, .long 7]) (st := []) cs_X11_78 (c_X11_within w (Int32.toInt64 a1) 0 7 ) (Nat.le_of_ble_eq_true rfl) rfl (Nat.le_of_ble_eq_true rfl) dX11_body_6 (fun r1 w2 => ?_)
  refine e_if_ne G (pc := 9) (tgt := 14) dX11_body_9 (by decide) ?_ ?_
  · refine e_aload_n G (pc := 14) dX11_body_14 rfl rfl ?_
    refine e_getI G (pc := 15) sh_48 rfl lk_X11_281 dX11_body_15 ?_
    refine e_bipush G (pc := 18) (v := 50) dX11_body_18 (by decide) ?_
    refine e_icmp_ne G (pc := 20) (tgt := 26) dX11_body_20 (by decide) ?_ ?_
    · refine e_aload_n G (pc := 26) dX11_body_26 rfl rfl ?_
      refine e_getF G (pc := 27) sh_48 rfl lk_X11_46 dX11_body_27 ?_
      refine e_aload_n G (pc := 30) dX11_body_30 rfl rfl ?_
      refine e_getI G (pc := 31) sh_48 rfl lk_X11_281 dX11_body_31 ?_
      refine e_iload_n G (pc := 34) dX11_body_34 rfl rfl ?_
      refine e_iast G (pc := 35) sh_61 dX11_body_35 (fun w3 => ?_)
      refine e_aload_n G (pc := 36) dX11_body_36 rfl rfl ?_
      refine e_dup G (pc := 37) dX11_body_37 rfl ?_
      refine e_getI G (pc := 38) sh_48 rfl lk_X11_281 dX11_body_38 ?_
      refine e_iconst G (pc := 41) (v := 1) dX11_body_41 (by decide) ?_
      refine e_iadd G (pc := 42) dX11_body_42 ?_
      refine e_putI G (pc := 43) sh_48 rfl lp_X11_281 rfl rfl dX11_body_43 (fun w4 => ?_)
      refine e_aload_n G (pc := 46) dX11_body_46 rfl rfl ?_
      refine e_getI G (pc := 47) sh_48 rfl lk_X11_281 dX11_body_47 ?_
      refine e_iconst G (pc := 50) (v := 1) dX11_body_50 (by decide) ?_
      refine e_isub G (pc := 51) dX11_body_51 ?_
      exact e_iret dX11_body_52
    · refine e_bipush G (pc := 23) (v := (-3)) dX11_body_23 (by decide) ?_
      exact e_iret dX11_body_25
  · refine e_iconst G (pc := 12) (v := (-1)) dX11_body_12 (by decide) ?_
    exact e_iret dX11_body_13
set_option maxRecDepth 100000 in
set_option maxHeartbeats 4000000 in
theorem c_X11_body (w : qW) (a1 : Int32) : q_AC q_vi (some .int) (3) yX11_body cX11_body 2 [.ref 48, .int a1] w (f_X11_body w a1) := q_met_i (k := 0) (by decide +kernel) rfl rfl rfl (fun _ _ G => t_X11_body G w a1 )
set_option maxRecDepth 100000 in
set_option maxHeartbeats 4000000 in
theorem t_X11_above {E : qE} {Γ : qC} (G : q_Ok E Γ RX11 cX11_above 1 (2)) (w : qW) (a1 : Int32) : q_Ev E Γ 1 (q_Fi E Γ cX11_above) 0 [some (.int a1)] [] w (f_X11_above w a1) := by
  unfold f_X11_above
  refine e_iload_n G (pc := 0) dX11_above_0 rfl rfl ?_
  refine e_iconst G (pc := 1) (v := 3) dX11_above_1 (by decide) ?_
  refine e_icmp_ne G (pc := 2) (tgt := 9) dX11_above_2 (by decide) ?_ ?_
  · refine e_iload_n G (pc := 9) dX11_above_9 rfl rfl ?_
    refine e_iconst G (pc := 10) (v := 4) dX11_above_10 (by decide) ?_
    refine e_icmp_ne G (pc := 11) (tgt := 18) dX11_above_11 (by decide) ?_ ?_
    · refine e_iload_n G (pc := 18) dX11_above_18 rfl rfl ?_
      refine e_iconst G (pc := 19) (v := 5) dX11_above_19 (by decide) ?_
      refine e_icmp_ne G (pc := 20) (tgt := 27) dX11_above_20 (by decide) ?_ ?_
      · refine e_iload_n G (pc := 27) dX11_above_27 rfl rfl ?_
        refine e_bipush G (pc := 28) (v := 7) dX11_above_28 (by decide) ?_
        refine e_icmp_ne G (pc := 30) (tgt := 37) dX11_above_30 (by decide) ?_ ?_
        · refine e_iconst G (pc := 37) (v := 0) dX11_above_37 (by decide) ?_
          exact e_iret dX11_above_38
        · refine e_iconst G (pc := 33) (v := 4) dX11_above_33 (by decide) ?_
          refine e_goto G (pc := 34) (tgt := 38) dX11_above_34 (by decide) ?_
          exact e_iret dX11_above_38
      · refine e_iconst G (pc := 23) (v := 3) dX11_above_23 (by decide) ?_
        refine e_goto G (pc := 24) (tgt := 38) dX11_above_24 (by decide) ?_
        exact e_iret dX11_above_38
    · refine e_iconst G (pc := 14) (v := 1) dX11_above_14 (by decide) ?_
      refine e_goto G (pc := 15) (tgt := 38) dX11_above_15 (by decide) ?_
      exact e_iret dX11_above_38
  · refine e_iconst G (pc := 5) (v := 2) dX11_above_5 (by decide) ?_
    refine e_goto G (pc := 6) (tgt := 38) dX11_above_6 (by decide) ?_
    exact e_iret dX11_above_38
set_option maxRecDepth 100000 in
set_option maxHeartbeats 4000000 in
theorem c_X11_above (w : qW) (a1 : Int32) : q_AC q_vi (some .int) (2) yX11_above cX11_above 1 [.int a1] w (f_X11_above w a1) := q_met_i (k := 0) (by decide +kernel) rfl rfl rfl (fun _ _ G => t_X11_above G w a1 )
set_option maxRecDepth 100000 in
set_option maxHeartbeats 4000000 in
theorem t_X11_runs_B19 {E : qE} {Γ : qC} (G : q_Ok E Γ RX11 cX11_runs 2 (2)) (w : qW) : q_Ev E Γ 2 (q_Fv E Γ cX11_runs) 19 [some (.ref 48), none] [] w (f_X11_runs_B19 w ) := by
  unfold f_X11_runs_B19
  refine e_aload_n G (pc := 19) dX11_runs_19 rfl rfl ?_
  refine e_dup G (pc := 20) dX11_runs_20 rfl ?_
  refine e_getI G (pc := 21) sh_48 rfl lk_X11_286 dX11_runs_21 ?_
  refine e_iconst G (pc := 24) (v := 1) dX11_runs_24 (by decide) ?_
  refine e_iadd G (pc := 25) dX11_runs_25 ?_
  refine e_putI G (pc := 26) sh_48 rfl lp_X11_286 rfl rfl dX11_runs_26 (fun w1 => ?_)
  exact e_vret dX11_runs_29
set_option maxRecDepth 100000 in
set_option maxHeartbeats 4000000 in
theorem t_X11_runs {E : qE} {Γ : qC} (G : q_Ok E Γ RX11 cX11_runs 2 (2)) (w : qW) (a1 : Int32) : q_Ev E Γ 2 (q_Fv E Γ cX11_runs) 0 [some (.ref 48), some (.int a1)] [] w (f_X11_runs w a1) := by
  unfold f_X11_runs
  refine e_aload_n G (pc := 0) dX11_runs_0 rfl rfl ?_
  refine e_getI G (pc := 1) sh_48 rfl lk_X11_286 dX11_runs_1 ?_
  refine e_bipush G (pc := 4) (v := 24) dX11_runs_4 (by decide) ?_
  refine e_icmp_ge G (pc := 6) (tgt := 19) dX11_runs_6 (by decide) ?_ ?_
  · refine e_wk (L' := [some (.ref 48), none]) (And.intro rfl (trivial)) ?_
    exact t_X11_runs_B19 G w  
  · refine e_aload_n G (pc := 9) dX11_runs_9 rfl rfl ?_
    refine e_getF G (pc := 10) sh_48 rfl lk_X11_49 dX11_runs_10 ?_
    refine e_aload_n G (pc := 13) dX11_runs_13 rfl rfl ?_
    refine e_getI G (pc := 14) sh_48 rfl lk_X11_286 dX11_runs_14 ?_
    refine e_iload_n G (pc := 17) dX11_runs_17 rfl rfl ?_
    refine e_iast G (pc := 18) sh_62 dX11_runs_18 (fun w1 => ?_)
    refine e_wk (L' := [some (.ref 48), none]) (And.intro rfl (trivial)) ?_
    exact t_X11_runs_B19 G w1  
set_option maxRecDepth 100000 in
set_option maxHeartbeats 4000000 in
theorem c_X11_runs (w : qW) (a1 : Int32) : q_AC q_vv none (2) yX11_runs cX11_runs 2 [.ref 48, .int a1] w (f_X11_runs w a1) := q_met_v (k := 0) (by decide +kernel) rfl rfl rfl (fun _ _ G => t_X11_runs G w a1 )
set_option maxRecDepth 100000 in
set_option maxHeartbeats 4000000 in
theorem t_X11_standsAs_B16 {n : Nat} {E : qE} {Γ : qC} {r_X11_standsAs : qW → Int32 → Int32 → Option (Int32 × qW)} (G : q_Ok E Γ RX11 cX11_standsAs 3 (3 + n + 1)) (hr_X11_standsAs : ∀ (w : qW) (a1 : Int32) (a2 : Int32), q_AC q_vi (some .int) (3 + n) yX11_standsAs cX11_standsAs 3 [.ref 48, .int a1, .int a2] w (r_X11_standsAs w a1 a2)) (w : qW) (l2 : Int32) : q_Ev E Γ 3 (q_Fi E Γ cX11_standsAs) 16 [some (.ref 48), none, some (.int l2)] [] w (f_X11_standsAs_B16 r_X11_standsAs w l2) := by
  unfold f_X11_standsAs_B16
  refine e_aload_n G (pc := 16) dX11_standsAs_16 rfl rfl ?_
  refine e_bipush G (pc := 17) (v := 20) dX11_standsAs_17 (by decide) ?_
  refine e_cVv G (pc := 19) (As := [.int 20]) (st := []) cv_X11_289 (c_X11_runs w 20 ) sh_48 (by omega) rfl (Nat.le_of_ble_eq_true rfl) dX11_standsAs_19 (fun r1 w2 => ?_)
  refine e_aload_n G (pc := 22) dX11_standsAs_22 rfl rfl ?_
  refine e_iconst G (pc := 23) (v := 0) dX11_standsAs_23 (by decide) ?_
  refine e_iload_n G (pc := 24) dX11_standsAs_24 rfl rfl ?_
  refine e_cVi G (pc := 25) (As := [.int 0, .int l2]) (st := []) cv_X11_293 (hr_X11_standsAs w2 0 l2 ) sh_48 (by omega) rfl (Nat.le_of_ble_eq_true rfl) dX11_standsAs_25 (fun r3 w4 => ?_)
  refine e_iconst G (pc := 28) (v := 3) dX11_standsAs_28 (by decide) ?_
  refine e_iadd G (pc := 29) dX11_standsAs_29 ?_
  exact e_iret dX11_standsAs_30
set_option maxRecDepth 100000 in
set_option maxHeartbeats 4000000 in
theorem t_X11_standsAs {n : Nat} {E : qE} {Γ : qC} {r_X11_standsAs : qW → Int32 → Int32 → Option (Int32 × qW)} (G : q_Ok E Γ RX11 cX11_standsAs 3 (3 + n + 1)) (hr_X11_standsAs : ∀ (w : qW) (a1 : Int32) (a2 : Int32), q_AC q_vi (some .int) (3 + n) yX11_standsAs cX11_standsAs 3 [.ref 48, .int a1, .int a2] w (r_X11_standsAs w a1 a2)) (w : qW) (a1 : Int32) (a2 : Int32) : q_Ev E Γ 3 (q_Fi E Γ cX11_standsAs) 0 [some (.ref 48), some (.int a1), some (.int a2)] [] w (b_X11_standsAs r_X11_standsAs w a1 a2) := by
  unfold b_X11_standsAs
  refine e_iload_n G (pc := 0) dX11_standsAs_0 rfl rfl ?_
  refine e_iconst G (pc := 1) (v := 1) dX11_standsAs_1 (by decide) ?_
  refine e_icmp_eq G (pc := 2) (tgt := 16) dX11_standsAs_2 (by decide) ?_ ?_
  · refine e_wk (L' := [some (.ref 48), none, some (.int a2)]) (And.intro rfl (And.intro rfl (trivial))) ?_
    exact t_X11_standsAs_B16 G hr_X11_standsAs w a2 
  · refine e_iload_n G (pc := 5) dX11_standsAs_5 rfl rfl ?_
    refine e_iconst G (pc := 6) (v := 4) dX11_standsAs_6 (by decide) ?_
    refine e_icmp_eq G (pc := 7) (tgt := 16) dX11_standsAs_7 (by decide) ?_ ?_
    · refine e_wk (L' := [some (.ref 48), none, some (.int a2)]) (And.intro rfl (And.intro rfl (trivial))) ?_
      exact t_X11_standsAs_B16 G hr_X11_standsAs w a2 
    · refine e_iload_n G (pc := 10) dX11_standsAs_10 rfl rfl ?_
      refine e_bipush G (pc := 11) (v := 7) dX11_standsAs_11 (by decide) ?_
      refine e_icmp_ne G (pc := 13) (tgt := 31) dX11_standsAs_13 (by decide) ?_ ?_
      · refine e_iload_n G (pc := 31) dX11_standsAs_31 rfl rfl ?_
        refine e_bipush G (pc := 32) (v := 6) dX11_standsAs_32 (by decide) ?_
        refine e_icmp_ne G (pc := 34) (tgt := 52) dX11_standsAs_34 (by decide) ?_ ?_
        · refine e_aload_n G (pc := 52) dX11_standsAs_52 rfl rfl ?_
          refine e_iconst G (pc := 53) (v := 1) dX11_standsAs_53 (by decide) ?_
          refine e_cVv G (pc := 54) (As := [.int 1]) (st := []) cv_X11_289 (c_X11_runs w 1 ) sh_48 (by omega) rfl (Nat.le_of_ble_eq_true rfl) dX11_standsAs_54 (fun r1 w2 => ?_)
          refine e_iload_n G (pc := 57) dX11_standsAs_57 rfl rfl ?_
          refine e_aload_n G (pc := 58) dX11_standsAs_58 rfl rfl ?_
          refine e_getI G (pc := 59) sh_48 rfl lk_X11_296 dX11_standsAs_59 ?_
          refine e_iadd G (pc := 62) dX11_standsAs_62 ?_
          exact e_iret dX11_standsAs_63
        · refine e_aload_n G (pc := 37) dX11_standsAs_37 rfl rfl ?_
          refine e_bipush G (pc := 38) (v := 70) dX11_standsAs_38 (by decide) ?_
          refine e_cVv G (pc := 40) (As := [.int 70]) (st := []) cv_X11_289 (c_X11_runs w 70 ) sh_48 (by omega) rfl (Nat.le_of_ble_eq_true rfl) dX11_standsAs_40 (fun r3 w4 => ?_)
          refine e_aload_n G (pc := 43) dX11_standsAs_43 rfl rfl ?_
          refine e_iconst G (pc := 44) (v := 0) dX11_standsAs_44 (by decide) ?_
          refine e_iload_n G (pc := 45) dX11_standsAs_45 rfl rfl ?_
          refine e_cVi G (pc := 46) (As := [.int 0, .int a2]) (st := []) cv_X11_293 (hr_X11_standsAs w4 0 a2 ) sh_48 (by omega) rfl (Nat.le_of_ble_eq_true rfl) dX11_standsAs_46 (fun r5 w6 => ?_)
          refine e_iconst G (pc := 49) (v := 2) dX11_standsAs_49 (by decide) ?_
          refine e_imul G (pc := 50) dX11_standsAs_50 ?_
          exact e_iret dX11_standsAs_51
      · refine e_wk (L' := [some (.ref 48), none, some (.int a2)]) (And.intro rfl (And.intro rfl (trivial))) ?_
        exact t_X11_standsAs_B16 G hr_X11_standsAs w a2 
set_option maxRecDepth 100000 in
set_option maxHeartbeats 4000000 in
theorem g_X11_standsAs : ∀ n : Nat, (∀ (w : qW) (a1 : Int32) (a2 : Int32), q_AC q_vi (some .int) (3 + n) yX11_standsAs cX11_standsAs 3 [.ref 48, .int a1, .int a2] w (((G_X11_standsAs n)) w a1 a2)) := by
  intro n
  induction n with
  | zero => exact (fun _ _ _ _ _ _ _ h => (by cases h))
  | succ n ih =>
    refine ?_
    · exact fun w a1 a2  => q_met_i (k := 0) (by decide +kernel) rfl rfl rfl (fun _ _ G => t_X11_standsAs G (ih) w a1 a2 )

set_option maxRecDepth 100000 in
set_option maxHeartbeats 4000000 in
theorem c_X11_standsAs (w : qW) (a1 : Int32) (a2 : Int32) : q_AC q_vi (some .int) (103) yX11_standsAs cX11_standsAs 3 [.ref 48, .int a1, .int a2] w (f_X11_standsAs w a1 a2) := (g_X11_standsAs q_rfuel) w a1 a2 
set_option maxRecDepth 100000 in
set_option maxHeartbeats 4000000 in
theorem t_X11_letsAs_B10 {n : Nat} {E : qE} {Γ : qC} {r_X11_letsAs : qW → Int32 → Int32 → Option (Int32 × qW)} (G : q_Ok E Γ RX11 cX11_letsAs 4 (104 + n + 1)) (hr_X11_letsAs : ∀ (w : qW) (a1 : Int32) (a2 : Int32), q_AC q_vi (some .int) (104 + n) yX11_letsAs cX11_letsAs 4 [.ref 48, .int a1, .int a2] w (r_X11_letsAs w a1 a2)) (w : qW) (l2 : Int32) : q_Ev E Γ 4 (q_Fi E Γ cX11_letsAs) 10 [some (.ref 48), none, some (.int l2), none] [] w (f_X11_letsAs_B10 r_X11_letsAs w l2) := by
  unfold f_X11_letsAs_B10
  refine e_aload_n G (pc := 10) dX11_letsAs_10 rfl rfl ?_
  refine e_bipush G (pc := 11) (v := 40) dX11_letsAs_11 (by decide) ?_
  refine e_cVv G (pc := 13) (As := [.int 40]) (st := []) cv_X11_289 (c_X11_runs w 40 ) sh_48 (by omega) rfl (Nat.le_of_ble_eq_true rfl) dX11_letsAs_13 (fun r1 w2 => ?_)
  refine e_aload_n G (pc := 16) dX11_letsAs_16 rfl rfl ?_
  refine e_iconst G (pc := 17) (v := 2) dX11_letsAs_17 (by decide) ?_
  refine e_iload_n G (pc := 18) dX11_letsAs_18 rfl rfl ?_
  refine e_cVi G (pc := 19) (As := [.int 2, .int l2]) (st := []) cv_X11_305 (hr_X11_letsAs w2 2 l2 ) sh_48 (by omega) rfl (Nat.le_of_ble_eq_true rfl) dX11_letsAs_19 (fun r3 w4 => ?_)
  refine e_iconst G (pc := 22) (v := 3) dX11_letsAs_22 (by decide) ?_
  refine e_imul G (pc := 23) dX11_letsAs_23 ?_
  exact e_iret dX11_letsAs_24
set_option maxRecDepth 100000 in
set_option maxHeartbeats 4000000 in
theorem t_X11_letsAs_B36 {n : Nat} {E : qE} {Γ : qC} {r_X11_letsAs : qW → Int32 → Int32 → Option (Int32 × qW)} (G : q_Ok E Γ RX11 cX11_letsAs 4 (104 + n + 1)) (hr_X11_letsAs : ∀ (w : qW) (a1 : Int32) (a2 : Int32), q_AC q_vi (some .int) (104 + n) yX11_letsAs cX11_letsAs 4 [.ref 48, .int a1, .int a2] w (r_X11_letsAs w a1 a2)) (w : qW) (l2 : Int32) : q_Ev E Γ 4 (q_Fi E Γ cX11_letsAs) 36 [some (.ref 48), none, some (.int l2), none] [] w (f_X11_letsAs_B36 r_X11_letsAs w l2) := by
  unfold f_X11_letsAs_B36
  refine e_aload_n G (pc := 36) dX11_letsAs_36 rfl rfl ?_
  refine e_bipush G (pc := 37) (v := 50) dX11_letsAs_37 (by decide) ?_
  refine e_cVv G (pc := 39) (As := [.int 50]) (st := []) cv_X11_289 (c_X11_runs w 50 ) sh_48 (by omega) rfl (Nat.le_of_ble_eq_true rfl) dX11_letsAs_39 (fun r1 w2 => ?_)
  refine e_aload_n G (pc := 42) dX11_letsAs_42 rfl rfl ?_
  refine e_iconst G (pc := 43) (v := 1) dX11_letsAs_43 (by decide) ?_
  refine e_iload_n G (pc := 44) dX11_letsAs_44 rfl rfl ?_
  refine e_cVi G (pc := 45) (As := [.int 1, .int l2]) (st := []) cv_X11_305 (hr_X11_letsAs w2 1 l2 ) sh_48 (by omega) rfl (Nat.le_of_ble_eq_true rfl) dX11_letsAs_45 (fun r3 w4 => ?_)
  refine e_istore_n G (pc := 48) (L' := [some (.ref 48), none, some (.int l2), some (.int r3)]) dX11_letsAs_48 rfl (Nat.le_of_ble_eq_true rfl) rfl ?_
  refine e_iload_n G (pc := 49) dX11_letsAs_49 rfl rfl ?_
  refine e_aload_n G (pc := 50) dX11_letsAs_50 rfl rfl ?_
  refine e_aload_n G (pc := 51) dX11_letsAs_51 rfl rfl ?_
  refine e_getI G (pc := 52) sh_48 rfl lk_X11_302 dX11_letsAs_52 ?_
  refine e_iconst G (pc := 55) (v := 2) dX11_letsAs_55 (by decide) ?_
  refine e_cVi G (pc := 56) (As := [.int (q_I w4 48 32), .int 2]) (st := [.int r3]) cv_X11_293 (c_X11_standsAs w4 (q_I w4 48 32) 2 ) sh_48 (by omega) rfl (Nat.le_of_ble_eq_true rfl) dX11_letsAs_56 (fun r5 w6 => ?_)
  refine e_isub G (pc := 59) dX11_letsAs_59 ?_
  exact e_iret dX11_letsAs_60
set_option maxRecDepth 100000 in
set_option maxHeartbeats 4000000 in
theorem t_X11_letsAs {n : Nat} {E : qE} {Γ : qC} {r_X11_letsAs : qW → Int32 → Int32 → Option (Int32 × qW)} (G : q_Ok E Γ RX11 cX11_letsAs 4 (104 + n + 1)) (hr_X11_letsAs : ∀ (w : qW) (a1 : Int32) (a2 : Int32), q_AC q_vi (some .int) (104 + n) yX11_letsAs cX11_letsAs 4 [.ref 48, .int a1, .int a2] w (r_X11_letsAs w a1 a2)) (w : qW) (a1 : Int32) (a2 : Int32) : q_Ev E Γ 4 (q_Fi E Γ cX11_letsAs) 0 [some (.ref 48), some (.int a1), some (.int a2), none] [] w (b_X11_letsAs r_X11_letsAs w a1 a2) := by
  unfold b_X11_letsAs
  refine e_iload_n G (pc := 0) dX11_letsAs_0 rfl rfl ?_
  refine e_iconst G (pc := 1) (v := 3) dX11_letsAs_1 (by decide) ?_
  refine e_icmp_eq G (pc := 2) (tgt := 10) dX11_letsAs_2 (by decide) ?_ ?_
  · refine e_wk (L' := [some (.ref 48), none, some (.int a2), none]) (And.intro rfl (And.intro rfl (trivial))) ?_
    exact t_X11_letsAs_B10 G hr_X11_letsAs w a2 
  · refine e_iload_n G (pc := 5) dX11_letsAs_5 rfl rfl ?_
    refine e_iconst G (pc := 6) (v := 5) dX11_letsAs_6 (by decide) ?_
    refine e_icmp_ne G (pc := 7) (tgt := 25) dX11_letsAs_7 (by decide) ?_ ?_
    · refine e_iload_n G (pc := 25) dX11_letsAs_25 rfl rfl ?_
      refine e_iconst G (pc := 26) (v := 4) dX11_letsAs_26 (by decide) ?_
      refine e_icmp_eq G (pc := 27) (tgt := 36) dX11_letsAs_27 (by decide) ?_ ?_
      · refine e_wk (L' := [some (.ref 48), none, some (.int a2), none]) (And.intro rfl (And.intro rfl (trivial))) ?_
        exact t_X11_letsAs_B36 G hr_X11_letsAs w a2 
      · refine e_iload_n G (pc := 30) dX11_letsAs_30 rfl rfl ?_
        refine e_bipush G (pc := 31) (v := 7) dX11_letsAs_31 (by decide) ?_
        refine e_icmp_ne G (pc := 33) (tgt := 61) dX11_letsAs_33 (by decide) ?_ ?_
        · refine e_aload_n G (pc := 61) dX11_letsAs_61 rfl rfl ?_
          refine e_bipush G (pc := 62) (v := 11) dX11_letsAs_62 (by decide) ?_
          refine e_cVv G (pc := 64) (As := [.int 11]) (st := []) cv_X11_289 (c_X11_runs w 11 ) sh_48 (by omega) rfl (Nat.le_of_ble_eq_true rfl) dX11_letsAs_64 (fun r1 w2 => ?_)
          refine e_iload_n G (pc := 67) dX11_letsAs_67 rfl rfl ?_
          refine e_aload_n G (pc := 68) dX11_letsAs_68 rfl rfl ?_
          refine e_getI G (pc := 69) sh_48 rfl lk_X11_296 dX11_letsAs_69 ?_
          refine e_ixor G (pc := 72) dX11_letsAs_72 ?_
          exact e_iret dX11_letsAs_73
        · refine e_wk (L' := [some (.ref 48), none, some (.int a2), none]) (And.intro rfl (And.intro rfl (trivial))) ?_
          exact t_X11_letsAs_B36 G hr_X11_letsAs w a2 
    · refine e_wk (L' := [some (.ref 48), none, some (.int a2), none]) (And.intro rfl (And.intro rfl (trivial))) ?_
      exact t_X11_letsAs_B10 G hr_X11_letsAs w a2 
set_option maxRecDepth 100000 in
set_option maxHeartbeats 4000000 in
theorem g_X11_letsAs : ∀ n : Nat, (∀ (w : qW) (a1 : Int32) (a2 : Int32), q_AC q_vi (some .int) (104 + n) yX11_letsAs cX11_letsAs 4 [.ref 48, .int a1, .int a2] w (((G_X11_letsAs n)) w a1 a2)) := by
  intro n
  induction n with
  | zero => exact (fun _ _ _ _ _ _ _ h => (by cases h))
  | succ n ih =>
    refine ?_
    · exact fun w a1 a2  => q_met_i (k := 1) (by decide +kernel) rfl rfl rfl (fun _ _ G => t_X11_letsAs G (ih) w a1 a2 )

set_option maxRecDepth 100000 in
set_option maxHeartbeats 4000000 in
theorem c_X11_letsAs (w : qW) (a1 : Int32) (a2 : Int32) : q_AC q_vi (some .int) (204) yX11_letsAs cX11_letsAs 4 [.ref 48, .int a1, .int a2] w (f_X11_letsAs w a1 a2) := (g_X11_letsAs q_rfuel) w a1 a2 
set_option maxRecDepth 100000 in
set_option maxHeartbeats 4000000 in
theorem t_X11_swaysAs_B10 {n : Nat} {E : qE} {Γ : qC} {r_X11_swaysAs : qW → Int32 → Int32 → Option (Int32 × qW)} (G : q_Ok E Γ RX11 cX11_swaysAs 4 (205 + n + 1)) (hr_X11_swaysAs : ∀ (w : qW) (a1 : Int32) (a2 : Int32), q_AC q_vi (some .int) (205 + n) yX11_swaysAs cX11_swaysAs 4 [.ref 48, .int a1, .int a2] w (r_X11_swaysAs w a1 a2)) (w : qW) (l2 : Int32) : q_Ev E Γ 4 (q_Fi E Γ cX11_swaysAs) 10 [some (.ref 48), none, some (.int l2), none] [] w (f_X11_swaysAs_B10 r_X11_swaysAs w l2) := by
  unfold f_X11_swaysAs_B10
  refine e_aload_n G (pc := 10) dX11_swaysAs_10 rfl rfl ?_
  refine e_bipush G (pc := 11) (v := 41) dX11_swaysAs_11 (by decide) ?_
  refine e_cVv G (pc := 13) (As := [.int 41]) (st := []) cv_X11_289 (c_X11_runs w 41 ) sh_48 (by omega) rfl (Nat.le_of_ble_eq_true rfl) dX11_swaysAs_13 (fun r1 w2 => ?_)
  refine e_aload_n G (pc := 16) dX11_swaysAs_16 rfl rfl ?_
  refine e_iconst G (pc := 17) (v := 2) dX11_swaysAs_17 (by decide) ?_
  refine e_iload_n G (pc := 18) dX11_swaysAs_18 rfl rfl ?_
  refine e_iconst G (pc := 19) (v := 1) dX11_swaysAs_19 (by decide) ?_
  refine e_iadd G (pc := 20) dX11_swaysAs_20 ?_
  refine e_cVi G (pc := 21) (As := [.int 2, .int (l2 + 1)]) (st := []) cv_X11_299 (hr_X11_swaysAs w2 2 (l2 + 1) ) sh_48 (by omega) rfl (Nat.le_of_ble_eq_true rfl) dX11_swaysAs_21 (fun r3 w4 => ?_)
  exact e_iret dX11_swaysAs_24
set_option maxRecDepth 100000 in
set_option maxHeartbeats 4000000 in
theorem t_X11_swaysAs {n : Nat} {E : qE} {Γ : qC} {r_X11_swaysAs : qW → Int32 → Int32 → Option (Int32 × qW)} (G : q_Ok E Γ RX11 cX11_swaysAs 4 (205 + n + 1)) (hr_X11_swaysAs : ∀ (w : qW) (a1 : Int32) (a2 : Int32), q_AC q_vi (some .int) (205 + n) yX11_swaysAs cX11_swaysAs 4 [.ref 48, .int a1, .int a2] w (r_X11_swaysAs w a1 a2)) (w : qW) (a1 : Int32) (a2 : Int32) : q_Ev E Γ 4 (q_Fi E Γ cX11_swaysAs) 0 [some (.ref 48), some (.int a1), some (.int a2), none] [] w (b_X11_swaysAs r_X11_swaysAs w a1 a2) := by
  unfold b_X11_swaysAs
  refine e_iload_n G (pc := 0) dX11_swaysAs_0 rfl rfl ?_
  refine e_iconst G (pc := 1) (v := 3) dX11_swaysAs_1 (by decide) ?_
  refine e_icmp_eq G (pc := 2) (tgt := 10) dX11_swaysAs_2 (by decide) ?_ ?_
  · refine e_wk (L' := [some (.ref 48), none, some (.int a2), none]) (And.intro rfl (And.intro rfl (trivial))) ?_
    exact t_X11_swaysAs_B10 G hr_X11_swaysAs w a2 
  · refine e_iload_n G (pc := 5) dX11_swaysAs_5 rfl rfl ?_
    refine e_iconst G (pc := 6) (v := 5) dX11_swaysAs_6 (by decide) ?_
    refine e_icmp_ne G (pc := 7) (tgt := 25) dX11_swaysAs_7 (by decide) ?_ ?_
    · refine e_iload_n G (pc := 25) dX11_swaysAs_25 rfl rfl ?_
      refine e_iconst G (pc := 26) (v := 2) dX11_swaysAs_26 (by decide) ?_
      refine e_icmp_ne G (pc := 27) (tgt := 44) dX11_swaysAs_27 (by decide) ?_ ?_
      · refine e_iload_n G (pc := 44) dX11_swaysAs_44 rfl rfl ?_
        refine e_bipush G (pc := 45) (v := 7) dX11_swaysAs_45 (by decide) ?_
        refine e_icmp_ne G (pc := 47) (tgt := 75) dX11_swaysAs_47 (by decide) ?_ ?_
        · refine e_aload_n G (pc := 75) dX11_swaysAs_75 rfl rfl ?_
          refine e_bipush G (pc := 76) (v := 10) dX11_swaysAs_76 (by decide) ?_
          refine e_cVv G (pc := 78) (As := [.int 10]) (st := []) cv_X11_289 (c_X11_runs w 10 ) sh_48 (by omega) rfl (Nat.le_of_ble_eq_true rfl) dX11_swaysAs_78 (fun r1 w2 => ?_)
          refine e_aload_n G (pc := 81) dX11_swaysAs_81 rfl rfl ?_
          refine e_aload_n G (pc := 82) dX11_swaysAs_82 rfl rfl ?_
          refine e_getI G (pc := 83) sh_48 rfl lk_X11_302 dX11_swaysAs_83 ?_
          refine e_iload_n G (pc := 86) dX11_swaysAs_86 rfl rfl ?_
          refine e_cVi G (pc := 87) (As := [.int (q_I w2 48 32), .int a2]) (st := []) cv_X11_293 (c_X11_standsAs w2 (q_I w2 48 32) a2 ) sh_48 (by omega) rfl (Nat.le_of_ble_eq_true rfl) dX11_swaysAs_87 (fun r3 w4 => ?_)
          refine e_iconst G (pc := 90) (v := 2) dX11_swaysAs_90 (by decide) ?_
          refine e_imul G (pc := 91) dX11_swaysAs_91 ?_
          exact e_iret dX11_swaysAs_92
        · refine e_aload_n G (pc := 50) dX11_swaysAs_50 rfl rfl ?_
          refine e_bipush G (pc := 51) (v := 80) dX11_swaysAs_51 (by decide) ?_
          refine e_cVv G (pc := 53) (As := [.int 80]) (st := []) cv_X11_289 (c_X11_runs w 80 ) sh_48 (by omega) rfl (Nat.le_of_ble_eq_true rfl) dX11_swaysAs_53 (fun r5 w6 => ?_)
          refine e_aload_n G (pc := 56) dX11_swaysAs_56 rfl rfl ?_
          refine e_iconst G (pc := 57) (v := 4) dX11_swaysAs_57 (by decide) ?_
          refine e_iload_n G (pc := 58) dX11_swaysAs_58 rfl rfl ?_
          refine e_cVi G (pc := 59) (As := [.int 4, .int a2]) (st := []) cv_X11_299 (hr_X11_swaysAs w6 4 a2 ) sh_48 (by omega) rfl (Nat.le_of_ble_eq_true rfl) dX11_swaysAs_59 (fun r7 w8 => ?_)
          refine e_istore_n G (pc := 62) (L' := [some (.ref 48), some (.int a1), some (.int a2), some (.int r7)]) dX11_swaysAs_62 rfl (Nat.le_of_ble_eq_true rfl) rfl ?_
          refine e_iload_n G (pc := 63) dX11_swaysAs_63 rfl rfl ?_
          refine e_aload_n G (pc := 64) dX11_swaysAs_64 rfl rfl ?_
          refine e_aload_n G (pc := 65) dX11_swaysAs_65 rfl rfl ?_
          refine e_getI G (pc := 66) sh_48 rfl lk_X11_302 dX11_swaysAs_66 ?_
          refine e_iconst G (pc := 69) (v := 2) dX11_swaysAs_69 (by decide) ?_
          refine e_cVi G (pc := 70) (As := [.int (q_I w8 48 32), .int 2]) (st := [.int r7]) cv_X11_305 (c_X11_letsAs w8 (q_I w8 48 32) 2 ) sh_48 (by omega) rfl (Nat.le_of_ble_eq_true rfl) dX11_swaysAs_70 (fun r9 w10 => ?_)
          refine e_iadd G (pc := 73) dX11_swaysAs_73 ?_
          exact e_iret dX11_swaysAs_74
      · refine e_aload_n G (pc := 30) dX11_swaysAs_30 rfl rfl ?_
        refine e_bipush G (pc := 31) (v := 30) dX11_swaysAs_31 (by decide) ?_
        refine e_cVv G (pc := 33) (As := [.int 30]) (st := []) cv_X11_289 (c_X11_runs w 30 ) sh_48 (by omega) rfl (Nat.le_of_ble_eq_true rfl) dX11_swaysAs_33 (fun r11 w12 => ?_)
        refine e_aload_n G (pc := 36) dX11_swaysAs_36 rfl rfl ?_
        refine e_iconst G (pc := 37) (v := 0) dX11_swaysAs_37 (by decide) ?_
        refine e_iload_n G (pc := 38) dX11_swaysAs_38 rfl rfl ?_
        refine e_cVi G (pc := 39) (As := [.int 0, .int a2]) (st := []) cv_X11_299 (hr_X11_swaysAs w12 0 a2 ) sh_48 (by omega) rfl (Nat.le_of_ble_eq_true rfl) dX11_swaysAs_39 (fun r13 w14 => ?_)
        refine e_ineg G (pc := 42) dX11_swaysAs_42 ?_
        exact e_iret dX11_swaysAs_43
    · refine e_wk (L' := [some (.ref 48), none, some (.int a2), none]) (And.intro rfl (And.intro rfl (trivial))) ?_
      exact t_X11_swaysAs_B10 G hr_X11_swaysAs w a2 
set_option maxRecDepth 100000 in
set_option maxHeartbeats 4000000 in
theorem g_X11_swaysAs : ∀ n : Nat, (∀ (w : qW) (a1 : Int32) (a2 : Int32), q_AC q_vi (some .int) (205 + n) yX11_swaysAs cX11_swaysAs 4 [.ref 48, .int a1, .int a2] w (((G_X11_swaysAs n)) w a1 a2)) := by
  intro n
  induction n with
  | zero => exact (fun _ _ _ _ _ _ _ h => (by cases h))
  | succ n ih =>
    refine ?_
    · exact fun w a1 a2  => q_met_i (k := 1) (by decide +kernel) rfl rfl rfl (fun _ _ G => t_X11_swaysAs G (ih) w a1 a2 )

set_option maxRecDepth 100000 in
set_option maxHeartbeats 4000000 in
theorem c_X11_swaysAs (w : qW) (a1 : Int32) (a2 : Int32) : q_AC q_vi (some .int) (305) yX11_swaysAs cX11_swaysAs 4 [.ref 48, .int a1, .int a2] w (f_X11_swaysAs w a1 a2) := (g_X11_swaysAs q_rfuel) w a1 a2 
set_option maxRecDepth 100000 in
set_option maxHeartbeats 4000000 in
theorem t_X11_tellsAs {n : Nat} {E : qE} {Γ : qC} {r_X11_tellsAs : qW → Int32 → Int32 → Option (Int32 × qW)} (G : q_Ok E Γ RX11 cX11_tellsAs 4 (306 + n + 1)) (hr_X11_tellsAs : ∀ (w : qW) (a1 : Int32) (a2 : Int32), q_AC q_vi (some .int) (306 + n) yX11_tellsAs cX11_tellsAs 4 [.ref 48, .int a1, .int a2] w (r_X11_tellsAs w a1 a2)) (w : qW) (a1 : Int32) (a2 : Int32) : q_Ev E Γ 4 (q_Fi E Γ cX11_tellsAs) 0 [some (.ref 48), some (.int a1), some (.int a2), none] [] w (b_X11_tellsAs r_X11_tellsAs w a1 a2) := by
  unfold b_X11_tellsAs
  refine e_iload_n G (pc := 0) dX11_tellsAs_0 rfl rfl ?_
  refine e_iconst G (pc := 1) (v := 5) dX11_tellsAs_1 (by decide) ?_
  refine e_icmp_ne G (pc := 2) (tgt := 20) dX11_tellsAs_2 (by decide) ?_ ?_
  · refine e_iload_n G (pc := 20) dX11_tellsAs_20 rfl rfl ?_
    refine e_bipush G (pc := 21) (v := 7) dX11_tellsAs_21 (by decide) ?_
    refine e_icmp_ne G (pc := 23) (tgt := 41) dX11_tellsAs_23 (by decide) ?_ ?_
    · refine e_aload_n G (pc := 41) dX11_tellsAs_41 rfl rfl ?_
      refine e_iconst G (pc := 42) (v := 2) dX11_tellsAs_42 (by decide) ?_
      refine e_cVv G (pc := 43) (As := [.int 2]) (st := []) cv_X11_289 (c_X11_runs w 2 ) sh_48 (by omega) rfl (Nat.le_of_ble_eq_true rfl) dX11_tellsAs_43 (fun r1 w2 => ?_)
      refine e_aload_n G (pc := 46) dX11_tellsAs_46 rfl rfl ?_
      refine e_aload_n G (pc := 47) dX11_tellsAs_47 rfl rfl ?_
      refine e_getI G (pc := 48) sh_48 rfl lk_X11_302 dX11_tellsAs_48 ?_
      refine e_iload_n G (pc := 51) dX11_tellsAs_51 rfl rfl ?_
      refine e_cVi G (pc := 52) (As := [.int (q_I w2 48 32), .int a2]) (st := []) cv_X11_299 (c_X11_swaysAs w2 (q_I w2 48 32) a2 ) sh_48 (by omega) rfl (Nat.le_of_ble_eq_true rfl) dX11_tellsAs_52 (fun r3 w4 => ?_)
      refine e_istore_n G (pc := 55) (L' := [some (.ref 48), some (.int a1), some (.int a2), some (.int r3)]) dX11_tellsAs_55 rfl (Nat.le_of_ble_eq_true rfl) rfl ?_
      refine e_iload_n G (pc := 56) dX11_tellsAs_56 rfl rfl ?_
      refine e_aload_n G (pc := 57) dX11_tellsAs_57 rfl rfl ?_
      refine e_aload_n G (pc := 58) dX11_tellsAs_58 rfl rfl ?_
      refine e_getI G (pc := 59) sh_48 rfl lk_X11_302 dX11_tellsAs_59 ?_
      refine e_iconst G (pc := 62) (v := 1) dX11_tellsAs_62 (by decide) ?_
      refine e_cVi G (pc := 63) (As := [.int (q_I w4 48 32), .int 1]) (st := [.int r3]) cv_X11_305 (c_X11_letsAs w4 (q_I w4 48 32) 1 ) sh_48 (by omega) rfl (Nat.le_of_ble_eq_true rfl) dX11_tellsAs_63 (fun r5 w6 => ?_)
      refine e_isub G (pc := 66) dX11_tellsAs_66 ?_
      exact e_iret dX11_tellsAs_67
    · refine e_aload_n G (pc := 26) dX11_tellsAs_26 rfl rfl ?_
      refine e_bipush G (pc := 27) (v := 81) dX11_tellsAs_27 (by decide) ?_
      refine e_cVv G (pc := 29) (As := [.int 81]) (st := []) cv_X11_289 (c_X11_runs w 81 ) sh_48 (by omega) rfl (Nat.le_of_ble_eq_true rfl) dX11_tellsAs_29 (fun r7 w8 => ?_)
      refine e_aload_n G (pc := 32) dX11_tellsAs_32 rfl rfl ?_
      refine e_iconst G (pc := 33) (v := 4) dX11_tellsAs_33 (by decide) ?_
      refine e_iload_n G (pc := 34) dX11_tellsAs_34 rfl rfl ?_
      refine e_cVi G (pc := 35) (As := [.int 4, .int a2]) (st := []) cv_X11_308 (hr_X11_tellsAs w8 4 a2 ) sh_48 (by omega) rfl (Nat.le_of_ble_eq_true rfl) dX11_tellsAs_35 (fun r9 w10 => ?_)
      refine e_iconst G (pc := 38) (v := 1) dX11_tellsAs_38 (by decide) ?_
      refine e_isub G (pc := 39) dX11_tellsAs_39 ?_
      exact e_iret dX11_tellsAs_40
  · refine e_aload_n G (pc := 5) dX11_tellsAs_5 rfl rfl ?_
    refine e_bipush G (pc := 6) (v := 60) dX11_tellsAs_6 (by decide) ?_
    refine e_cVv G (pc := 8) (As := [.int 60]) (st := []) cv_X11_289 (c_X11_runs w 60 ) sh_48 (by omega) rfl (Nat.le_of_ble_eq_true rfl) dX11_tellsAs_8 (fun r11 w12 => ?_)
    refine e_aload_n G (pc := 11) dX11_tellsAs_11 rfl rfl ?_
    refine e_iconst G (pc := 12) (v := 3) dX11_tellsAs_12 (by decide) ?_
    refine e_iload_n G (pc := 13) dX11_tellsAs_13 rfl rfl ?_
    refine e_cVi G (pc := 14) (As := [.int 3, .int a2]) (st := []) cv_X11_308 (hr_X11_tellsAs w12 3 a2 ) sh_48 (by omega) rfl (Nat.le_of_ble_eq_true rfl) dX11_tellsAs_14 (fun r13 w14 => ?_)
    refine e_iconst G (pc := 17) (v := 5) dX11_tellsAs_17 (by decide) ?_
    refine e_ixor G (pc := 18) dX11_tellsAs_18 ?_
    exact e_iret dX11_tellsAs_19
set_option maxRecDepth 100000 in
set_option maxHeartbeats 4000000 in
theorem g_X11_tellsAs : ∀ n : Nat, (∀ (w : qW) (a1 : Int32) (a2 : Int32), q_AC q_vi (some .int) (306 + n) yX11_tellsAs cX11_tellsAs 4 [.ref 48, .int a1, .int a2] w (((G_X11_tellsAs n)) w a1 a2)) := by
  intro n
  induction n with
  | zero => exact (fun _ _ _ _ _ _ _ h => (by cases h))
  | succ n ih =>
    refine ?_
    · exact fun w a1 a2  => q_met_i (k := 1) (by decide +kernel) rfl rfl rfl (fun _ _ G => t_X11_tellsAs G (ih) w a1 a2 )

set_option maxRecDepth 100000 in
set_option maxHeartbeats 4000000 in
theorem c_X11_tellsAs (w : qW) (a1 : Int32) (a2 : Int32) : q_AC q_vi (some .int) (406) yX11_tellsAs cX11_tellsAs 4 [.ref 48, .int a1, .int a2] w (f_X11_tellsAs w a1 a2) := (g_X11_tellsAs q_rfuel) w a1 a2 
set_option maxRecDepth 100000 in
set_option maxHeartbeats 4000000 in
theorem t_X11_act {E : qE} {Γ : qC} (G : q_Ok E Γ RX11 cX11_act 4 (407)) (w : qW) (a1 : Int32) (a2 : Int32) (a3 : Int32) : q_Ev E Γ 4 (q_Fi E Γ cX11_act) 0 [some (.ref 48), some (.int a1), some (.int a2), some (.int a3)] [] w (f_X11_act w a1 a2 a3) := by
  unfold f_X11_act
  refine e_aload_n G (pc := 0) dX11_act_0 rfl rfl ?_
  refine e_iconst G (pc := 1) (v := 0) dX11_act_1 (by decide) ?_
  refine e_putI G (pc := 2) sh_48 rfl lp_X11_286 rfl rfl dX11_act_2 (fun w1 => ?_)
  refine e_aload_n G (pc := 5) dX11_act_5 rfl rfl ?_
  refine e_iload_n G (pc := 6) dX11_act_6 rfl rfl ?_
  refine e_cVi G (pc := 7) (As := [.int a1]) (st := []) cv_X11_311 (c_X11_isBody w1 a1 ) sh_48 (Nat.le_of_ble_eq_true rfl) rfl (Nat.le_of_ble_eq_true rfl) dX11_act_7 (fun r2 w3 => ?_)
  refine e_if_ne G (pc := 10) (tgt := 15) dX11_act_10 (by decide) ?_ ?_
  · refine e_aload_n G (pc := 15) dX11_act_15 rfl rfl ?_
    refine e_aload_n G (pc := 16) dX11_act_16 rfl rfl ?_
    refine e_getF G (pc := 17) sh_48 rfl lk_X11_46 dX11_act_17 ?_
    refine e_iload_n G (pc := 20) dX11_act_20 rfl rfl ?_
    refine e_iald G (pc := 21) sh_61 dX11_act_21 (fun v4 => ?_)
    refine e_putI G (pc := 22) sh_48 rfl lp_X11_302 rfl rfl dX11_act_22 (fun w5 => ?_)
    refine e_aload_n G (pc := 25) dX11_act_25 rfl rfl ?_
    refine e_iload_n G (pc := 26) dX11_act_26 rfl rfl ?_
    refine e_putI G (pc := 27) sh_48 rfl lp_X11_296 rfl rfl dX11_act_27 (fun w6 => ?_)
    refine e_iload_n G (pc := 30) dX11_act_30 rfl rfl ?_
    refine e_ite (fun h9 => ?_) (fun h9 => ?_)
    · refine e_tsIn G (pc := 31) (off := 29) (tgt := 60) dX11_act_31 (by rw [h9]; decide) (by rw [h9]; decide) (by rw [h9]; rfl) (by decide) ?_
      refine e_aload_n G (pc := 60) dX11_act_60 rfl rfl ?_
      refine e_aload_n G (pc := 61) dX11_act_61 rfl rfl ?_
      refine e_getI G (pc := 62) sh_48 rfl lk_X11_302 dX11_act_62 ?_
      refine e_iload_n G (pc := 65) dX11_act_65 rfl rfl ?_
      refine e_cVi G (pc := 66) (As := [.int (q_I w6 48 32), .int a3]) (st := []) cv_X11_293 (c_X11_standsAs w6 (q_I w6 48 32) a3 ) sh_48 (Nat.le_of_ble_eq_true rfl) rfl (Nat.le_of_ble_eq_true rfl) dX11_act_66 (fun r7 w8 => ?_)
      exact e_iret dX11_act_69
    refine e_ite (fun h12 => ?_) (fun h12 => ?_)
    · refine e_tsIn G (pc := 31) (off := 39) (tgt := 70) dX11_act_31 (by rw [h12]; decide) (by rw [h12]; decide) (by rw [h12]; rfl) (by decide) ?_
      refine e_aload_n G (pc := 70) dX11_act_70 rfl rfl ?_
      refine e_aload_n G (pc := 71) dX11_act_71 rfl rfl ?_
      refine e_getI G (pc := 72) sh_48 rfl lk_X11_302 dX11_act_72 ?_
      refine e_iload_n G (pc := 75) dX11_act_75 rfl rfl ?_
      refine e_cVi G (pc := 76) (As := [.int (q_I w6 48 32), .int a3]) (st := []) cv_X11_299 (c_X11_swaysAs w6 (q_I w6 48 32) a3 ) sh_48 (Nat.le_of_ble_eq_true rfl) rfl (Nat.le_of_ble_eq_true rfl) dX11_act_76 (fun r10 w11 => ?_)
      exact e_iret dX11_act_79
    refine e_ite (fun h15 => ?_) (fun h15 => ?_)
    · refine e_tsIn G (pc := 31) (off := 49) (tgt := 80) dX11_act_31 (by rw [h15]; decide) (by rw [h15]; decide) (by rw [h15]; rfl) (by decide) ?_
      refine e_aload_n G (pc := 80) dX11_act_80 rfl rfl ?_
      refine e_aload_n G (pc := 81) dX11_act_81 rfl rfl ?_
      refine e_getI G (pc := 82) sh_48 rfl lk_X11_302 dX11_act_82 ?_
      refine e_iload_n G (pc := 85) dX11_act_85 rfl rfl ?_
      refine e_cVi G (pc := 86) (As := [.int (q_I w6 48 32), .int a3]) (st := []) cv_X11_305 (c_X11_letsAs w6 (q_I w6 48 32) a3 ) sh_48 (Nat.le_of_ble_eq_true rfl) rfl (Nat.le_of_ble_eq_true rfl) dX11_act_86 (fun r13 w14 => ?_)
      exact e_iret dX11_act_89
    refine e_ite (fun h18 => ?_) (fun h18 => ?_)
    · refine e_tsIn G (pc := 31) (off := 59) (tgt := 90) dX11_act_31 (by rw [h18]; decide) (by rw [h18]; decide) (by rw [h18]; rfl) (by decide) ?_
      refine e_aload_n G (pc := 90) dX11_act_90 rfl rfl ?_
      refine e_aload_n G (pc := 91) dX11_act_91 rfl rfl ?_
      refine e_getI G (pc := 92) sh_48 rfl lk_X11_302 dX11_act_92 ?_
      refine e_iload_n G (pc := 95) dX11_act_95 rfl rfl ?_
      refine e_cVi G (pc := 96) (As := [.int (q_I w6 48 32), .int a3]) (st := []) cv_X11_308 (c_X11_tellsAs w6 (q_I w6 48 32) a3 ) sh_48 (Nat.le_of_ble_eq_true rfl) rfl (Nat.le_of_ble_eq_true rfl) dX11_act_96 (fun r16 w17 => ?_)
      exact e_iret dX11_act_99
    have h9 := lv_neT h9 (show (0 : Int32).toInt = 0 by decide)
    have h12 := lv_neT h12 (show (1 : Int32).toInt = 1 by decide)
    have h15 := lv_neT h15 (show (2 : Int32).toInt = 2 by decide)
    have h18 := lv_neT h18 (show (3 : Int32).toInt = 3 by decide)
    refine e_tsOut G (pc := 31) (tgt := 100) dX11_act_31 (by omega) (by decide) ?_
    refine e_iconst G (pc := 100) (v := 0) dX11_act_100 (by decide) ?_
    exact e_iret dX11_act_101
  · refine e_iconst G (pc := 13) (v := 0) dX11_act_13 (by decide) ?_
    exact e_iret dX11_act_14
set_option maxRecDepth 100000 in
set_option maxHeartbeats 4000000 in
theorem c_X11_act (w : qW) (a1 : Int32) (a2 : Int32) (a3 : Int32) : q_AC q_vi (some .int) (407) yX11_act cX11_act 4 [.ref 48, .int a1, .int a2, .int a3] w (f_X11_act w a1 a2 a3) := q_met_i (k := 0) (by decide +kernel) rfl rfl rfl (fun _ _ G => t_X11_act G w a1 a2 a3 )
set_option maxRecDepth 100000 in
set_option maxHeartbeats 4000000 in
theorem t_X11_trace {E : qE} {Γ : qC} (G : q_Ok E Γ RX11 cX11_trace 2 (2)) (w : qW) (a1 : Int32) : q_Ev E Γ 2 (q_Fi E Γ cX11_trace) 0 [some (.ref 48), some (.int a1)] [] w (f_X11_trace w a1) := by
  unfold f_X11_trace
  refine e_iload_n G (pc := 0) dX11_trace_0 rfl rfl ?_
  refine e_if_lt G (pc := 1) (tgt := 27) dX11_trace_1 (by decide) ?_ ?_
  · refine e_iconst G (pc := 27) (v := (-1)) dX11_trace_27 (by decide) ?_
    exact e_iret dX11_trace_28
  · refine e_iload_n G (pc := 4) dX11_trace_4 rfl rfl ?_
    refine e_aload_n G (pc := 5) dX11_trace_5 rfl rfl ?_
    refine e_getI G (pc := 6) sh_48 rfl lk_X11_286 dX11_trace_6 ?_
    refine e_icmp_ge G (pc := 9) (tgt := 27) dX11_trace_9 (by decide) ?_ ?_
    · refine e_iconst G (pc := 27) (v := (-1)) dX11_trace_27 (by decide) ?_
      exact e_iret dX11_trace_28
    · refine e_iload_n G (pc := 12) dX11_trace_12 rfl rfl ?_
      refine e_bipush G (pc := 13) (v := 24) dX11_trace_13 (by decide) ?_
      refine e_icmp_ge G (pc := 15) (tgt := 27) dX11_trace_15 (by decide) ?_ ?_
      · refine e_iconst G (pc := 27) (v := (-1)) dX11_trace_27 (by decide) ?_
        exact e_iret dX11_trace_28
      · refine e_aload_n G (pc := 18) dX11_trace_18 rfl rfl ?_
        refine e_getF G (pc := 19) sh_48 rfl lk_X11_49 dX11_trace_19 ?_
        refine e_iload_n G (pc := 22) dX11_trace_22 rfl rfl ?_
        refine e_iald G (pc := 23) sh_62 dX11_trace_23 (fun v1 => ?_)
        refine e_goto G (pc := 24) (tgt := 28) dX11_trace_24 (by decide) ?_
        exact e_iret dX11_trace_28
set_option maxRecDepth 100000 in
set_option maxHeartbeats 4000000 in
theorem c_X11_trace (w : qW) (a1 : Int32) : q_AC q_vi (some .int) (2) yX11_trace cX11_trace 2 [.ref 48, .int a1] w (f_X11_trace w a1) := q_met_i (k := 0) (by decide +kernel) rfl rfl rfl (fun _ _ G => t_X11_trace G w a1 )
set_option maxRecDepth 100000 in
set_option maxHeartbeats 4000000 in
theorem t_X11_keep_B22 {E : qE} {Γ : qC} (G : q_Ok E Γ RX11 cX11_keep 3 (4)) (w : qW) (l1 : Int32) (l2 : Int32) : q_Ev E Γ 3 (q_Fi E Γ cX11_keep) 22 [some (.ref 48), some (.int l1), some (.int l2)] [] w (f_X11_keep_B22 w l1 l2) := by
  unfold f_X11_keep_B22
  refine e_aload_n G (pc := 22) dX11_keep_22 rfl rfl ?_
  refine e_getF G (pc := 23) sh_48 rfl lk_X11_52 dX11_keep_23 ?_
  refine e_iload_n G (pc := 26) dX11_keep_26 rfl rfl ?_
  refine e_iload_n G (pc := 27) dX11_keep_27 rfl rfl ?_
  refine e_iast G (pc := 28) sh_63 dX11_keep_28 (fun w1 => ?_)
  refine e_aload_n G (pc := 29) dX11_keep_29 rfl rfl ?_
  refine e_getF G (pc := 30) sh_48 rfl lk_X11_55 dX11_keep_30 ?_
  refine e_iload_n G (pc := 33) dX11_keep_33 rfl rfl ?_
  refine e_iconst G (pc := 34) (v := 0) dX11_keep_34 (by decide) ?_
  refine e_iast G (pc := 35) sh_64 dX11_keep_35 (fun w2 => ?_)
  refine e_iconst G (pc := 36) (v := 1) dX11_keep_36 (by decide) ?_
  exact e_iret dX11_keep_37
set_option maxRecDepth 100000 in
set_option maxHeartbeats 4000000 in
theorem t_X11_keep {E : qE} {Γ : qC} (G : q_Ok E Γ RX11 cX11_keep 3 (4)) (w : qW) (a1 : Int32) (a2 : Int32) : q_Ev E Γ 3 (q_Fi E Γ cX11_keep) 0 [some (.ref 48), some (.int a1), some (.int a2)] [] w (f_X11_keep w a1 a2) := by
  unfold f_X11_keep
  refine e_iload_n G (pc := 0) dX11_keep_0 rfl rfl ?_
  refine e_cSi G (pc := 1) (ci := 0) (id := 0) (sl := []) (As := [.int a1]) (st := []) cs_X11_108 (c_X11_isShelf w a1 ) (Nat.le_of_ble_eq_true rfl) rfl (Nat.le_of_ble_eq_true rfl) dX11_keep_1 (fun r1 w2 => ?_)
  refine e_if_eq G (pc := 4) (tgt := 20) dX11_keep_4 (by decide) ?_ ?_
  · refine e_iconst G (pc := 20) (v := (-1)) dX11_keep_20 (by decide) ?_
    exact e_iret dX11_keep_21
  · refine e_iload_n G (pc := 7) dX11_keep_7 rfl rfl ?_
    refine e_iconst G (pc := 8) (v := (-1)) dX11_keep_8 (by decide) ?_
    refine e_icmp_eq G (pc := 9) (tgt := 22) dX11_keep_9 (by decide) ?_ ?_
    · exact t_X11_keep_B22 G w2 a1 a2 
    · refine e_aload_n G (pc := 12) dX11_keep_12 rfl rfl ?_
      refine e_iload_n G (pc := 13) dX11_keep_13 rfl rfl ?_
      refine e_cVi G (pc := 14) (As := [.int a2]) (st := []) cv_X11_311 (c_X11_isBody w2 a2 ) sh_48 (Nat.le_of_ble_eq_true rfl) rfl (Nat.le_of_ble_eq_true rfl) dX11_keep_14 (fun r3 w4 => ?_)
      refine e_if_ne G (pc := 17) (tgt := 22) dX11_keep_17 (by decide) ?_ ?_
      · exact t_X11_keep_B22 G w4 a1 a2 
      · refine e_iconst G (pc := 20) (v := (-1)) dX11_keep_20 (by decide) ?_
        exact e_iret dX11_keep_21
set_option maxRecDepth 100000 in
set_option maxHeartbeats 4000000 in
theorem c_X11_keep (w : qW) (a1 : Int32) (a2 : Int32) : q_AC q_vi (some .int) (4) yX11_keep cX11_keep 3 [.ref 48, .int a1, .int a2] w (f_X11_keep w a1 a2) := q_met_i (k := 0) (by decide +kernel) rfl rfl rfl (fun _ _ G => t_X11_keep G w a1 a2 )
set_option maxRecDepth 100000 in
set_option maxHeartbeats 4000000 in
theorem t_X11_row_B57 {E : qE} {Γ : qC} (G : q_Ok E Γ RX11 cX11_row 5 (4)) (k57 : qW → Int32 → Int32 → Option (Int32 × qW)) (hk57 : ∀ (w : qW) (l1 : Int32) (l4 : Int32), q_Ev E Γ 5 (q_Fi E Γ cX11_row) 57 [some (.ref 48), some (.int l1), none, none, some (.int l4)] [] w (k57 w l1 l4)) (w : qW) (l1 : Int32) (l4 : Int32) : q_Ev E Γ 5 (q_Fi E Γ cX11_row) 57 [some (.ref 48), some (.int l1), none, none, some (.int l4)] [] w (f_X11_row_B57 k57 w l1 l4) := by
  unfold f_X11_row_B57
  refine e_iload G (pc := 57) dX11_row_57 rfl ?_
  refine e_bipush G (pc := 59) (v := 60) dX11_row_59 (by decide) ?_
  refine e_iload_n G (pc := 61) dX11_row_61 rfl rfl ?_
  refine e_imul G (pc := 62) dX11_row_62 ?_
  refine e_bipush G (pc := 63) (v := 60) dX11_row_63 (by decide) ?_
  refine e_iadd G (pc := 65) dX11_row_65 ?_
  refine e_icmp_ge G (pc := 66) (tgt := 83) dX11_row_66 (by decide) ?_ ?_
  · refine e_iconst G (pc := 83) (v := 1) dX11_row_83 (by decide) ?_
    exact e_iret dX11_row_84
  · refine e_aload_n G (pc := 69) dX11_row_69 rfl rfl ?_
    refine e_getF G (pc := 70) sh_48 rfl lk_X11_58 dX11_row_70 ?_
    refine e_iload G (pc := 73) dX11_row_73 rfl ?_
    refine e_lconst G (pc := 75) (v := 0) dX11_row_75 (by decide) ?_
    refine e_last G (pc := 76) sh_65 dX11_row_76 (fun w1 => ?_)
    refine e_iinc G (pc := 77) (x := l4) (v := l4 + 1) (L' := fun v2 => [some (.ref 48), some (.int l1), none, none, some (.int v2)]) dX11_row_77 (Nat.le_of_ble_eq_true rfl) rfl (by rfl) (fun _ => rfl) (fun v2 => ?_)
    refine e_goto G (pc := 80) (tgt := 57) dX11_row_80 (by decide) ?_
    exact hk57 w1 l1 v2 
set_option maxRecDepth 100000 in
set_option maxHeartbeats 4000000 in
theorem t_X11_row_R57 {E : qE} {Γ : qC} (G : q_Ok E Γ RX11 cX11_row 5 (4)) : ∀ (fuel : Nat) (w : qW) (l1 : Int32) (l4 : Int32) , q_Ev E Γ 5 (q_Fi E Γ cX11_row) 57 [some (.ref 48), some (.int l1), none, none, some (.int l4)] [] w (f_X11_row_R57 fuel w l1 l4) := by
  intro fuel
  induction fuel with
  | zero => intros; exact e_none
  | succ fuel ih =>
    intro w l1 l4 
    exact t_X11_row_B57 G _ ih w l1 l4 
set_option maxRecDepth 100000 in
set_option maxHeartbeats 4000000 in
theorem t_X11_row {E : qE} {Γ : qC} (G : q_Ok E Γ RX11 cX11_row 5 (4)) (w : qW) (a1 : Int32) (a2 : Int32) (a3 : Int32) : q_Ev E Γ 5 (q_Fi E Γ cX11_row) 0 [some (.ref 48), some (.int a1), some (.int a2), some (.int a3), none] [] w (f_X11_row w a1 a2 a3) := by
  unfold f_X11_row
  refine e_iload_n G (pc := 0) dX11_row_0 rfl rfl ?_
  refine e_cSi G (pc := 1) (ci := 0) (id := 0) (sl := []) (As := [.int a1]) (st := []) cs_X11_108 (c_X11_isShelf w a1 ) (Nat.le_of_ble_eq_true rfl) rfl (Nat.le_of_ble_eq_true rfl) dX11_row_1 (fun r1 w2 => ?_)
  refine e_if_eq G (pc := 4) (tgt := 25) dX11_row_4 (by decide) ?_ ?_
  · refine e_iconst G (pc := 25) (v := (-1)) dX11_row_25 (by decide) ?_
    exact e_iret dX11_row_26
  · refine e_iload_n G (pc := 7) dX11_row_7 rfl rfl ?_
    refine e_i2l G (pc := 8) dX11_row_8 ?_
    refine e_lconst G (pc := 9) (v := 0) dX11_row_9 (by decide) ?_
    refine e_ldc2 G (pc := 10) kl_X11_119 dX11_row_10 ?_
    refine e_cSi G (pc := 13) (ci := 0) (id := 0) (sl := []) (As := [.long (Int32.toInt64 a2), .long 0, .long 4]) (st := []) cs_X11_78 (c_X11_within w2 (Int32.toInt64 a2) 0 4 ) (Nat.le_of_ble_eq_true rfl) rfl (Nat.le_of_ble_eq_true rfl) dX11_row_13 (fun r3 w4 => ?_)
    refine e_if_eq G (pc := 16) (tgt := 25) dX11_row_16 (by decide) ?_ ?_
    · refine e_iconst G (pc := 25) (v := (-1)) dX11_row_25 (by decide) ?_
      exact e_iret dX11_row_26
    · refine e_iload_n G (pc := 19) dX11_row_19 rfl rfl ?_
      refine e_bipush G (pc := 20) (v := 60) dX11_row_20 (by decide) ?_
      refine e_icmp_le G (pc := 22) (tgt := 27) dX11_row_22 (by decide) ?_ ?_
      · refine e_iload_n G (pc := 27) dX11_row_27 rfl rfl ?_
        refine e_if_ge G (pc := 28) (tgt := 34) dX11_row_28 (by decide) ?_ ?_
        · refine e_aload_n G (pc := 34) dX11_row_34 rfl rfl ?_
          refine e_getF G (pc := 35) sh_48 rfl lk_X11_52 dX11_row_35 ?_
          refine e_iload_n G (pc := 38) dX11_row_38 rfl rfl ?_
          refine e_bipush G (pc := 39) (v := 50) dX11_row_39 (by decide) ?_
          refine e_iload_n G (pc := 41) dX11_row_41 rfl rfl ?_
          refine e_iadd G (pc := 42) dX11_row_42 ?_
          refine e_iast G (pc := 43) sh_63 dX11_row_43 (fun w5 => ?_)
          refine e_aload_n G (pc := 44) dX11_row_44 rfl rfl ?_
          refine e_getF G (pc := 45) sh_48 rfl lk_X11_55 dX11_row_45 ?_
          refine e_iload_n G (pc := 48) dX11_row_48 rfl rfl ?_
          refine e_iload_n G (pc := 49) dX11_row_49 rfl rfl ?_
          refine e_iast G (pc := 50) sh_64 dX11_row_50 (fun w6 => ?_)
          refine e_bipush G (pc := 51) (v := 60) dX11_row_51 (by decide) ?_
          refine e_iload_n G (pc := 53) dX11_row_53 rfl rfl ?_
          refine e_imul G (pc := 54) dX11_row_54 ?_
          refine e_ti (fun v7 => ?_)
          refine e_istore G (pc := 55) (L' := [some (.ref 48), some (.int a1), some (.int a2), some (.int a3), some (.int v7)]) dX11_row_55 (Nat.le_of_ble_eq_true rfl) rfl ?_
          refine e_wk (L' := [some (.ref 48), some (.int a1), none, none, some (.int v7)]) (And.intro rfl (And.intro rfl (And.intro rfl (trivial)))) ?_
          exact t_X11_row_R57 G  q_fuel w6 a1 v7 
        · refine e_bipush G (pc := 31) (v := (-14)) dX11_row_31 (by decide) ?_
          exact e_iret dX11_row_33
      · refine e_iconst G (pc := 25) (v := (-1)) dX11_row_25 (by decide) ?_
        exact e_iret dX11_row_26
set_option maxRecDepth 100000 in
set_option maxHeartbeats 4000000 in
theorem c_X11_row (w : qW) (a1 : Int32) (a2 : Int32) (a3 : Int32) : q_AC q_vi (some .int) (4) yX11_row cX11_row 5 [.ref 48, .int a1, .int a2, .int a3] w (f_X11_row w a1 a2 a3) := q_met_i (k := 1) (by decide +kernel) rfl rfl rfl (fun _ _ G => t_X11_row G w a1 a2 a3 )
set_option maxRecDepth 100000 in
set_option maxHeartbeats 4000000 in
theorem t_X11_refusal {E : qE} {Γ : qC} (G : q_Ok E Γ RX11 cX11_refusal 3 (4)) (w : qW) (a1 : Int32) (a2 : Int32) : q_Ev E Γ 3 (q_Fi E Γ cX11_refusal) 0 [some (.ref 48), some (.int a1), some (.int a2)] [] w (f_X11_refusal w a1 a2) := by
  unfold f_X11_refusal
  refine e_iload_n G (pc := 0) dX11_refusal_0 rfl rfl ?_
  refine e_cSi G (pc := 1) (ci := 0) (id := 0) (sl := []) (As := [.int a1]) (st := []) cs_X11_108 (c_X11_isShelf w a1 ) (Nat.le_of_ble_eq_true rfl) rfl (Nat.le_of_ble_eq_true rfl) dX11_refusal_1 (fun r1 w2 => ?_)
  refine e_if_ne G (pc := 4) (tgt := 9) dX11_refusal_4 (by decide) ?_ ?_
  · refine e_aload_n G (pc := 9) dX11_refusal_9 rfl rfl ?_
    refine e_getF G (pc := 10) sh_48 rfl lk_X11_52 dX11_refusal_10 ?_
    refine e_iload_n G (pc := 13) dX11_refusal_13 rfl rfl ?_
    refine e_iald G (pc := 14) sh_63 dX11_refusal_14 (fun v3 => ?_)
    refine e_if_ge G (pc := 15) (tgt := 21) dX11_refusal_15 (by decide) ?_ ?_
    · refine e_aload_n G (pc := 21) dX11_refusal_21 rfl rfl ?_
      refine e_getF G (pc := 22) sh_48 rfl lk_X11_52 dX11_refusal_22 ?_
      refine e_iload_n G (pc := 25) dX11_refusal_25 rfl rfl ?_
      refine e_iald G (pc := 26) sh_63 dX11_refusal_26 (fun v4 => ?_)
      refine e_bipush G (pc := 27) (v := 50) dX11_refusal_27 (by decide) ?_
      refine e_icmp_ge G (pc := 29) (tgt := 35) dX11_refusal_29 (by decide) ?_ ?_
      · refine e_iload_n G (pc := 35) dX11_refusal_35 rfl rfl ?_
        refine e_if_lt G (pc := 36) (tgt := 53) dX11_refusal_36 (by decide) ?_ ?_
        · refine e_bipush G (pc := 53) (v := (-13)) dX11_refusal_53 (by decide) ?_
          exact e_iret dX11_refusal_55
        · refine e_iload_n G (pc := 39) dX11_refusal_39 rfl rfl ?_
          refine e_aload_n G (pc := 40) dX11_refusal_40 rfl rfl ?_
          refine e_getF G (pc := 41) sh_48 rfl lk_X11_55 dX11_refusal_41 ?_
          refine e_iload_n G (pc := 44) dX11_refusal_44 rfl rfl ?_
          refine e_iald G (pc := 45) sh_64 dX11_refusal_45 (fun v5 => ?_)
          refine e_icmp_ge G (pc := 46) (tgt := 53) dX11_refusal_46 (by decide) ?_ ?_
          · refine e_bipush G (pc := 53) (v := (-13)) dX11_refusal_53 (by decide) ?_
            exact e_iret dX11_refusal_55
          · refine e_iconst G (pc := 49) (v := 0) dX11_refusal_49 (by decide) ?_
            refine e_goto G (pc := 50) (tgt := 55) dX11_refusal_50 (by decide) ?_
            exact e_iret dX11_refusal_55
      · refine e_bipush G (pc := 32) (v := (-12)) dX11_refusal_32 (by decide) ?_
        exact e_iret dX11_refusal_34
    · refine e_bipush G (pc := 18) (v := (-11)) dX11_refusal_18 (by decide) ?_
      exact e_iret dX11_refusal_20
  · refine e_iconst G (pc := 7) (v := (-1)) dX11_refusal_7 (by decide) ?_
    exact e_iret dX11_refusal_8
set_option maxRecDepth 100000 in
set_option maxHeartbeats 4000000 in
theorem c_X11_refusal (w : qW) (a1 : Int32) (a2 : Int32) : q_AC q_vi (some .int) (4) yX11_refusal cX11_refusal 3 [.ref 48, .int a1, .int a2] w (f_X11_refusal w a1 a2) := q_met_i (k := 0) (by decide +kernel) rfl rfl rfl (fun _ _ G => t_X11_refusal G w a1 a2 )
set_option maxRecDepth 100000 in
set_option maxHeartbeats 4000000 in
theorem t_X11_asSort {E : qE} {Γ : qC} (G : q_Ok E Γ RX11 cX11_asSort 3 (2)) (w : qW) (a1 : Int32) (a2 : Int64) : q_Ev E Γ 3 (q_Fl E Γ cX11_asSort) 0 [some (.int a1), some (.long a2), none] [] w (f_X11_asSort w a1 a2) := by
  unfold f_X11_asSort
  refine e_iload_n G (pc := 0) dX11_asSort_0 rfl rfl ?_
  refine e_if_ne G (pc := 1) (tgt := 11) dX11_asSort_1 (by decide) ?_ ?_
  · refine e_iload_n G (pc := 11) dX11_asSort_11 rfl rfl ?_
    refine e_iconst G (pc := 12) (v := 1) dX11_asSort_12 (by decide) ?_
    refine e_icmp_ne G (pc := 13) (tgt := 23) dX11_asSort_13 (by decide) ?_ ?_
    · refine e_iload_n G (pc := 23) dX11_asSort_23 rfl rfl ?_
      refine e_iconst G (pc := 24) (v := 2) dX11_asSort_24 (by decide) ?_
      refine e_icmp_ne G (pc := 25) (tgt := 34) dX11_asSort_25 (by decide) ?_ ?_
      · refine e_iload_n G (pc := 34) dX11_asSort_34 rfl rfl ?_
        refine e_iconst G (pc := 35) (v := 4) dX11_asSort_35 (by decide) ?_
        refine e_icmp_ne G (pc := 36) (tgt := 53) dX11_asSort_36 (by decide) ?_ ?_
        · refine e_lload_n G (pc := 53) dX11_asSort_53 rfl rfl ?_
          exact e_lret dX11_asSort_54
        · refine e_lload_n G (pc := 39) dX11_asSort_39 rfl rfl ?_
          refine e_lconst G (pc := 40) (v := 0) dX11_asSort_40 (by decide) ?_
          refine e_lcmp G (pc := 41) dX11_asSort_41 ?_
          refine e_if_eq G (pc := 42) (tgt := 49) dX11_asSort_42 (by decide) ?_ ?_
          · refine e_lconst G (pc := 49) (v := 0) dX11_asSort_49 (by decide) ?_
            refine e_goto G (pc := 50) (tgt := 54) dX11_asSort_50 (by decide) ?_
            exact e_lret dX11_asSort_54
          · refine e_lconst G (pc := 45) (v := 1) dX11_asSort_45 (by decide) ?_
            refine e_goto G (pc := 46) (tgt := 54) dX11_asSort_46 (by decide) ?_
            exact e_lret dX11_asSort_54
      · refine e_lload_n G (pc := 28) dX11_asSort_28 rfl rfl ?_
        refine e_l2i G (pc := 29) dX11_asSort_29 ?_
        refine e_i2l G (pc := 30) dX11_asSort_30 ?_
        refine e_goto G (pc := 31) (tgt := 54) dX11_asSort_31 (by decide) ?_
        exact e_lret dX11_asSort_54
    · refine e_lload_n G (pc := 16) dX11_asSort_16 rfl rfl ?_
      refine e_l2i G (pc := 17) dX11_asSort_17 ?_
      refine e_i2s G (pc := 18) dX11_asSort_18 ?_
      refine e_i2l G (pc := 19) dX11_asSort_19 ?_
      refine e_goto G (pc := 20) (tgt := 54) dX11_asSort_20 (by decide) ?_
      exact e_lret dX11_asSort_54
  · refine e_lload_n G (pc := 4) dX11_asSort_4 rfl rfl ?_
    refine e_l2i G (pc := 5) dX11_asSort_5 ?_
    refine e_i2b G (pc := 6) dX11_asSort_6 ?_
    refine e_i2l G (pc := 7) dX11_asSort_7 ?_
    refine e_goto G (pc := 8) (tgt := 54) dX11_asSort_8 (by decide) ?_
    exact e_lret dX11_asSort_54
set_option maxRecDepth 100000 in
set_option maxHeartbeats 4000000 in
theorem c_X11_asSort (w : qW) (a1 : Int32) (a2 : Int64) : q_AC q_vl (some .long) (2) yX11_asSort cX11_asSort 3 [.int a1, .long a2] w (f_X11_asSort w a1 a2) := q_met_l (k := 0) (by decide +kernel) rfl rfl rfl (fun _ _ G => t_X11_asSort G w a1 a2 )
set_option maxRecDepth 100000 in
set_option maxHeartbeats 4000000 in
theorem t_X11_put_B37 {E : qE} {Γ : qC} (G : q_Ok E Γ RX11 cX11_put 6 (5)) (w : qW) (l5 : Int32) : q_Ev E Γ 6 (q_Fi E Γ cX11_put) 37 [none, none, none, none, none, some (.int l5)] [] w (f_X11_put_B37 w l5) := by
  unfold f_X11_put_B37
  refine e_iload G (pc := 37) dX11_put_37 rfl ?_
  refine e_if_ne G (pc := 39) (tgt := 46) dX11_put_39 (by decide) ?_ ?_
  · refine e_iload G (pc := 46) dX11_put_46 rfl ?_
    exact e_iret dX11_put_48
  · refine e_iconst G (pc := 42) (v := 1) dX11_put_42 (by decide) ?_
    refine e_goto G (pc := 43) (tgt := 48) dX11_put_43 (by decide) ?_
    exact e_iret dX11_put_48
set_option maxRecDepth 100000 in
set_option maxHeartbeats 4000000 in
theorem t_X11_put {E : qE} {Γ : qC} (G : q_Ok E Γ RX11 cX11_put 6 (5)) (w : qW) (a1 : Int32) (a2 : Int32) (a3 : Int64) : q_Ev E Γ 6 (q_Fi E Γ cX11_put) 0 [some (.ref 48), some (.int a1), some (.int a2), some (.long a3), none, none] [] w (f_X11_put w a1 a2 a3) := by
  unfold f_X11_put
  refine e_aload_n G (pc := 0) dX11_put_0 rfl rfl ?_
  refine e_iload_n G (pc := 1) dX11_put_1 rfl rfl ?_
  refine e_iload_n G (pc := 2) dX11_put_2 rfl rfl ?_
  refine e_cVi G (pc := 3) (As := [.int a1, .int a2]) (st := []) cv_X11_316 (c_X11_refusal w a1 a2 ) sh_48 (Nat.le_of_ble_eq_true rfl) rfl (Nat.le_of_ble_eq_true rfl) dX11_put_3 (fun r1 w2 => ?_)
  refine e_istore G (pc := 6) (L' := [some (.ref 48), some (.int a1), some (.int a2), some (.long a3), none, some (.int r1)]) dX11_put_6 (Nat.le_of_ble_eq_true rfl) rfl ?_
  refine e_iload G (pc := 8) dX11_put_8 rfl ?_
  refine e_if_ne G (pc := 10) (tgt := 37) dX11_put_10 (by decide) ?_ ?_
  · refine e_wk (L' := [none, none, none, none, none, some (.int r1)]) (And.intro rfl (trivial)) ?_
    exact t_X11_put_B37 G w2 r1 
  · refine e_aload_n G (pc := 13) dX11_put_13 rfl rfl ?_
    refine e_getF G (pc := 14) sh_48 rfl lk_X11_58 dX11_put_14 ?_
    refine e_bipush G (pc := 17) (v := 60) dX11_put_17 (by decide) ?_
    refine e_iload_n G (pc := 19) dX11_put_19 rfl rfl ?_
    refine e_imul G (pc := 20) dX11_put_20 ?_
    refine e_iload_n G (pc := 21) dX11_put_21 rfl rfl ?_
    refine e_iadd G (pc := 22) dX11_put_22 ?_
    refine e_aload_n G (pc := 23) dX11_put_23 rfl rfl ?_
    refine e_getF G (pc := 24) sh_48 rfl lk_X11_52 dX11_put_24 ?_
    refine e_iload_n G (pc := 27) dX11_put_27 rfl rfl ?_
    refine e_iald G (pc := 28) sh_63 dX11_put_28 (fun v3 => ?_)
    refine e_bipush G (pc := 29) (v := 50) dX11_put_29 (by decide) ?_
    refine e_isub G (pc := 31) dX11_put_31 ?_
    refine e_lload_n G (pc := 32) dX11_put_32 rfl rfl ?_
    refine e_cSl G (pc := 33) (ci := 0) (id := 0) (sl := []) (As := [.int (v3 - 50), .long a3]) (st := [.int (((60 : Int32) * a1) + a2), .ref 65]) cs_X11_319 (c_X11_asSort w2 (v3 - 50) a3 ) (Nat.le_of_ble_eq_true rfl) rfl (Nat.le_of_ble_eq_true rfl) dX11_put_33 (fun r4 w5 => ?_)
    refine e_last G (pc := 36) sh_65 dX11_put_36 (fun w6 => ?_)
    refine e_wk (L' := [none, none, none, none, none, some (.int r1)]) (And.intro rfl (trivial)) ?_
    exact t_X11_put_B37 G w6 r1 
set_option maxRecDepth 100000 in
set_option maxHeartbeats 4000000 in
theorem c_X11_put (w : qW) (a1 : Int32) (a2 : Int32) (a3 : Int64) : q_AC q_vi (some .int) (5) yX11_put cX11_put 6 [.ref 48, .int a1, .int a2, .long a3] w (f_X11_put w a1 a2 a3) := q_met_i (k := 1) (by decide +kernel) rfl rfl rfl (fun _ _ G => t_X11_put G w a1 a2 a3 )
set_option maxRecDepth 100000 in
set_option maxHeartbeats 4000000 in
theorem t_X11_element {E : qE} {Γ : qC} (G : q_Ok E Γ RX11 cX11_element 3 (5)) (w : qW) (a1 : Int32) (a2 : Int32) : q_Ev E Γ 3 (q_Fl E Γ cX11_element) 0 [some (.ref 48), some (.int a1), some (.int a2)] [] w (f_X11_element w a1 a2) := by
  unfold f_X11_element
  refine e_aload_n G (pc := 0) dX11_element_0 rfl rfl ?_
  refine e_iload_n G (pc := 1) dX11_element_1 rfl rfl ?_
  refine e_iload_n G (pc := 2) dX11_element_2 rfl rfl ?_
  refine e_cVi G (pc := 3) (As := [.int a1, .int a2]) (st := []) cv_X11_316 (c_X11_refusal w a1 a2 ) sh_48 (Nat.le_of_ble_eq_true rfl) rfl (Nat.le_of_ble_eq_true rfl) dX11_element_3 (fun r1 w2 => ?_)
  refine e_if_eq G (pc := 6) (tgt := 15) dX11_element_6 (by decide) ?_ ?_
  · refine e_aload_n G (pc := 15) dX11_element_15 rfl rfl ?_
    refine e_getF G (pc := 16) sh_48 rfl lk_X11_58 dX11_element_16 ?_
    refine e_bipush G (pc := 19) (v := 60) dX11_element_19 (by decide) ?_
    refine e_iload_n G (pc := 21) dX11_element_21 rfl rfl ?_
    refine e_imul G (pc := 22) dX11_element_22 ?_
    refine e_iload_n G (pc := 23) dX11_element_23 rfl rfl ?_
    refine e_iadd G (pc := 24) dX11_element_24 ?_
    refine e_lald G (pc := 25) sh_65 dX11_element_25 (fun v3 => ?_)
    exact e_lret dX11_element_26
  · refine e_ldc2 G (pc := 9) kl_X11_325 dX11_element_9 ?_
    refine e_goto G (pc := 12) (tgt := 26) dX11_element_12 (by decide) ?_
    exact e_lret dX11_element_26
set_option maxRecDepth 100000 in
set_option maxHeartbeats 4000000 in
theorem c_X11_element (w : qW) (a1 : Int32) (a2 : Int32) : q_AC q_vl (some .long) (5) yX11_element cX11_element 3 [.ref 48, .int a1, .int a2] w (f_X11_element w a1 a2) := q_met_l (k := 0) (by decide +kernel) rfl rfl rfl (fun _ _ G => t_X11_element G w a1 a2 )
set_option maxRecDepth 100000 in
set_option maxHeartbeats 4000000 in
theorem t_X11_shift_B150 {E : qE} {Γ : qC} (G : q_Ok E Γ RX11 cX11_shift 7 (4)) (k150 : qW → Int32 → Int32 → Int32 → Int32 → Option (Int32 × qW)) (hk150 : ∀ (w : qW) (l3 : Int32) (l4 : Int32) (l5 : Int32) (l6 : Int32), q_Ev E Γ 7 (q_Fi E Γ cX11_shift) 150 [some (.ref 48), none, none, some (.int l3), some (.int l4), some (.int l5), some (.int l6)] [] w (k150 w l3 l4 l5 l6)) (w : qW) (l3 : Int32) (l4 : Int32) (l5 : Int32) (l6 : Int32) : q_Ev E Γ 7 (q_Fi E Γ cX11_shift) 150 [some (.ref 48), none, none, some (.int l3), some (.int l4), some (.int l5), some (.int l6)] [] w (f_X11_shift_B150 k150 w l3 l4 l5 l6) := by
  unfold f_X11_shift_B150
  refine e_iload G (pc := 150) dX11_shift_150 rfl ?_
  refine e_iload G (pc := 152) dX11_shift_152 rfl ?_
  refine e_icmp_ge G (pc := 154) (tgt := 185) dX11_shift_154 (by decide) ?_ ?_
  · refine e_iload G (pc := 185) dX11_shift_185 rfl ?_
    exact e_iret dX11_shift_187
  · refine e_aload_n G (pc := 157) dX11_shift_157 rfl rfl ?_
    refine e_getF G (pc := 158) sh_48 rfl lk_X11_58 dX11_shift_158 ?_
    refine e_bipush G (pc := 161) (v := 60) dX11_shift_161 (by decide) ?_
    refine e_iload_n G (pc := 163) dX11_shift_163 rfl rfl ?_
    refine e_imul G (pc := 164) dX11_shift_164 ?_
    refine e_iload G (pc := 165) dX11_shift_165 rfl ?_
    refine e_iadd G (pc := 167) dX11_shift_167 ?_
    refine e_iload G (pc := 168) dX11_shift_168 rfl ?_
    refine e_iadd G (pc := 170) dX11_shift_170 ?_
    refine e_aload_n G (pc := 171) dX11_shift_171 rfl rfl ?_
    refine e_getF G (pc := 172) sh_48 rfl lk_X11_62 dX11_shift_172 ?_
    refine e_iload G (pc := 175) dX11_shift_175 rfl ?_
    refine e_lald G (pc := 177) sh_66 dX11_shift_177 (fun v1 => ?_)
    refine e_last G (pc := 178) sh_65 dX11_shift_178 (fun w2 => ?_)
    refine e_iinc G (pc := 179) (x := l6) (v := l6 + 1) (L' := fun v3 => [some (.ref 48), none, none, some (.int l3), some (.int l4), some (.int l5), some (.int v3)]) dX11_shift_179 (Nat.le_of_ble_eq_true rfl) rfl (by rfl) (fun _ => rfl) (fun v3 => ?_)
    refine e_goto G (pc := 182) (tgt := 150) dX11_shift_182 (by decide) ?_
    exact hk150 w2 l3 l4 l5 v3 
set_option maxRecDepth 100000 in
set_option maxHeartbeats 4000000 in
theorem t_X11_shift_R150 {E : qE} {Γ : qC} (G : q_Ok E Γ RX11 cX11_shift 7 (4)) : ∀ (fuel : Nat) (w : qW) (l3 : Int32) (l4 : Int32) (l5 : Int32) (l6 : Int32) , q_Ev E Γ 7 (q_Fi E Γ cX11_shift) 150 [some (.ref 48), none, none, some (.int l3), some (.int l4), some (.int l5), some (.int l6)] [] w (f_X11_shift_R150 fuel w l3 l4 l5 l6) := by
  intro fuel
  induction fuel with
  | zero => intros; exact e_none
  | succ fuel ih =>
    intro w l3 l4 l5 l6 
    exact t_X11_shift_B150 G _ ih w l3 l4 l5 l6 
set_option maxRecDepth 100000 in
set_option maxHeartbeats 4000000 in
theorem t_X11_shift_B113 {E : qE} {Γ : qC} (G : q_Ok E Γ RX11 cX11_shift 7 (4)) (k113 : qW → Int32 → Int32 → Int32 → Int32 → Int32 → Int32 → Option (Int32 × qW)) (hk113 : ∀ (w : qW) (l1 : Int32) (l2 : Int32) (l3 : Int32) (l4 : Int32) (l5 : Int32) (l6 : Int32), q_Ev E Γ 7 (q_Fi E Γ cX11_shift) 113 [some (.ref 48), some (.int l1), some (.int l2), some (.int l3), some (.int l4), some (.int l5), some (.int l6)] [] w (k113 w l1 l2 l3 l4 l5 l6)) (w : qW) (l1 : Int32) (l2 : Int32) (l3 : Int32) (l4 : Int32) (l5 : Int32) (l6 : Int32) : q_Ev E Γ 7 (q_Fi E Γ cX11_shift) 113 [some (.ref 48), some (.int l1), some (.int l2), some (.int l3), some (.int l4), some (.int l5), some (.int l6)] [] w (f_X11_shift_B113 k113 w l1 l2 l3 l4 l5 l6) := by
  unfold f_X11_shift_B113
  refine e_iload G (pc := 113) dX11_shift_113 rfl ?_
  refine e_iload G (pc := 115) dX11_shift_115 rfl ?_
  refine e_icmp_ge G (pc := 117) (tgt := 147) dX11_shift_117 (by decide) ?_ ?_
  · refine e_iconst G (pc := 147) (v := 0) dX11_shift_147 (by decide) ?_
    refine e_istore G (pc := 148) (L' := [some (.ref 48), some (.int l1), some (.int l2), some (.int l3), some (.int l4), some (.int l5), some (.int 0)]) dX11_shift_148 (Nat.le_of_ble_eq_true rfl) rfl ?_
    refine e_wk (L' := [some (.ref 48), none, none, some (.int l3), some (.int l4), some (.int l5), some (.int 0)]) (And.intro rfl (And.intro rfl (And.intro rfl (And.intro rfl (And.intro rfl (trivial)))))) ?_
    exact t_X11_shift_R150 G  q_fuel w l3 l4 l5 0 
  · refine e_aload_n G (pc := 120) dX11_shift_120 rfl rfl ?_
    refine e_getF G (pc := 121) sh_48 rfl lk_X11_62 dX11_shift_121 ?_
    refine e_iload G (pc := 124) dX11_shift_124 rfl ?_
    refine e_aload_n G (pc := 126) dX11_shift_126 rfl rfl ?_
    refine e_getF G (pc := 127) sh_48 rfl lk_X11_58 dX11_shift_127 ?_
    refine e_bipush G (pc := 130) (v := 60) dX11_shift_130 (by decide) ?_
    refine e_iload_n G (pc := 132) dX11_shift_132 rfl rfl ?_
    refine e_imul G (pc := 133) dX11_shift_133 ?_
    refine e_iload_n G (pc := 134) dX11_shift_134 rfl rfl ?_
    refine e_iadd G (pc := 135) dX11_shift_135 ?_
    refine e_iload G (pc := 136) dX11_shift_136 rfl ?_
    refine e_iadd G (pc := 138) dX11_shift_138 ?_
    refine e_lald G (pc := 139) sh_65 dX11_shift_139 (fun v1 => ?_)
    refine e_last G (pc := 140) sh_66 dX11_shift_140 (fun w2 => ?_)
    refine e_iinc G (pc := 141) (x := l6) (v := l6 + 1) (L' := fun v3 => [some (.ref 48), some (.int l1), some (.int l2), some (.int l3), some (.int l4), some (.int l5), some (.int v3)]) dX11_shift_141 (Nat.le_of_ble_eq_true rfl) rfl (by rfl) (fun _ => rfl) (fun v3 => ?_)
    refine e_goto G (pc := 144) (tgt := 113) dX11_shift_144 (by decide) ?_
    exact hk113 w2 l1 l2 l3 l4 l5 v3 
set_option maxRecDepth 100000 in
set_option maxHeartbeats 4000000 in
theorem t_X11_shift_R113 {E : qE} {Γ : qC} (G : q_Ok E Γ RX11 cX11_shift 7 (4)) : ∀ (fuel : Nat) (w : qW) (l1 : Int32) (l2 : Int32) (l3 : Int32) (l4 : Int32) (l5 : Int32) (l6 : Int32) , q_Ev E Γ 7 (q_Fi E Γ cX11_shift) 113 [some (.ref 48), some (.int l1), some (.int l2), some (.int l3), some (.int l4), some (.int l5), some (.int l6)] [] w (f_X11_shift_R113 fuel w l1 l2 l3 l4 l5 l6) := by
  intro fuel
  induction fuel with
  | zero => intros; exact e_none
  | succ fuel ih =>
    intro w l1 l2 l3 l4 l5 l6 
    exact t_X11_shift_B113 G _ ih w l1 l2 l3 l4 l5 l6 
set_option maxRecDepth 100000 in
set_option maxHeartbeats 4000000 in
theorem t_X11_shift {E : qE} {Γ : qC} (G : q_Ok E Γ RX11 cX11_shift 7 (4)) (w : qW) (a1 : Int32) (a2 : Int32) (a3 : Int32) (a4 : Int32) (a5 : Int32) : q_Ev E Γ 7 (q_Fi E Γ cX11_shift) 0 [some (.ref 48), some (.int a1), some (.int a2), some (.int a3), some (.int a4), some (.int a5), none] [] w (f_X11_shift w a1 a2 a3 a4 a5) := by
  unfold f_X11_shift
  refine e_iload_n G (pc := 0) dX11_shift_0 rfl rfl ?_
  refine e_cSi G (pc := 1) (ci := 0) (id := 0) (sl := []) (As := [.int a1]) (st := []) cs_X11_108 (c_X11_isShelf w a1 ) (Nat.le_of_ble_eq_true rfl) rfl (Nat.le_of_ble_eq_true rfl) dX11_shift_1 (fun r1 w2 => ?_)
  refine e_if_eq G (pc := 4) (tgt := 14) dX11_shift_4 (by decide) ?_ ?_
  · refine e_iconst G (pc := 14) (v := (-1)) dX11_shift_14 (by decide) ?_
    exact e_iret dX11_shift_15
  · refine e_iload_n G (pc := 7) dX11_shift_7 rfl rfl ?_
    refine e_cSi G (pc := 8) (ci := 0) (id := 0) (sl := []) (As := [.int a3]) (st := []) cs_X11_108 (c_X11_isShelf w2 a3 ) (Nat.le_of_ble_eq_true rfl) rfl (Nat.le_of_ble_eq_true rfl) dX11_shift_8 (fun r3 w4 => ?_)
    refine e_if_ne G (pc := 11) (tgt := 16) dX11_shift_11 (by decide) ?_ ?_
    · refine e_aload_n G (pc := 16) dX11_shift_16 rfl rfl ?_
      refine e_getF G (pc := 17) sh_48 rfl lk_X11_52 dX11_shift_17 ?_
      refine e_iload_n G (pc := 20) dX11_shift_20 rfl rfl ?_
      refine e_iald G (pc := 21) sh_63 dX11_shift_21 (fun v5 => ?_)
      refine e_if_lt G (pc := 22) (tgt := 34) dX11_shift_22 (by decide) ?_ ?_
      · refine e_bipush G (pc := 34) (v := (-11)) dX11_shift_34 (by decide) ?_
        exact e_iret dX11_shift_36
      · refine e_aload_n G (pc := 25) dX11_shift_25 rfl rfl ?_
        refine e_getF G (pc := 26) sh_48 rfl lk_X11_52 dX11_shift_26 ?_
        refine e_iload_n G (pc := 29) dX11_shift_29 rfl rfl ?_
        refine e_iald G (pc := 30) sh_63 dX11_shift_30 (fun v6 => ?_)
        refine e_if_ge G (pc := 31) (tgt := 37) dX11_shift_31 (by decide) ?_ ?_
        · refine e_aload_n G (pc := 37) dX11_shift_37 rfl rfl ?_
          refine e_getF G (pc := 38) sh_48 rfl lk_X11_52 dX11_shift_38 ?_
          refine e_iload_n G (pc := 41) dX11_shift_41 rfl rfl ?_
          refine e_iald G (pc := 42) sh_63 dX11_shift_42 (fun v7 => ?_)
          refine e_bipush G (pc := 43) (v := 50) dX11_shift_43 (by decide) ?_
          refine e_icmp_lt G (pc := 45) (tgt := 63) dX11_shift_45 (by decide) ?_ ?_
          · refine e_bipush G (pc := 63) (v := (-12)) dX11_shift_63 (by decide) ?_
            exact e_iret dX11_shift_65
          · refine e_aload_n G (pc := 48) dX11_shift_48 rfl rfl ?_
            refine e_getF G (pc := 49) sh_48 rfl lk_X11_52 dX11_shift_49 ?_
            refine e_iload_n G (pc := 52) dX11_shift_52 rfl rfl ?_
            refine e_iald G (pc := 53) sh_63 dX11_shift_53 (fun v8 => ?_)
            refine e_aload_n G (pc := 54) dX11_shift_54 rfl rfl ?_
            refine e_getF G (pc := 55) sh_48 rfl lk_X11_52 dX11_shift_55 ?_
            refine e_iload_n G (pc := 58) dX11_shift_58 rfl rfl ?_
            refine e_iald G (pc := 59) sh_63 dX11_shift_59 (fun v9 => ?_)
            refine e_icmp_eq G (pc := 60) (tgt := 66) dX11_shift_60 (by decide) ?_ ?_
            · refine e_iload G (pc := 66) dX11_shift_66 rfl ?_
              refine e_if_lt G (pc := 68) (tgt := 107) dX11_shift_68 (by decide) ?_ ?_
              · refine e_bipush G (pc := 107) (v := (-13)) dX11_shift_107 (by decide) ?_
                exact e_iret dX11_shift_109
              · refine e_iload_n G (pc := 71) dX11_shift_71 rfl rfl ?_
                refine e_if_lt G (pc := 72) (tgt := 107) dX11_shift_72 (by decide) ?_ ?_
                · refine e_bipush G (pc := 107) (v := (-13)) dX11_shift_107 (by decide) ?_
                  exact e_iret dX11_shift_109
                · refine e_iload G (pc := 75) dX11_shift_75 rfl ?_
                  refine e_if_lt G (pc := 77) (tgt := 107) dX11_shift_77 (by decide) ?_ ?_
                  · refine e_bipush G (pc := 107) (v := (-13)) dX11_shift_107 (by decide) ?_
                    exact e_iret dX11_shift_109
                  · refine e_iload_n G (pc := 80) dX11_shift_80 rfl rfl ?_
                    refine e_aload_n G (pc := 81) dX11_shift_81 rfl rfl ?_
                    refine e_getF G (pc := 82) sh_48 rfl lk_X11_55 dX11_shift_82 ?_
                    refine e_iload_n G (pc := 85) dX11_shift_85 rfl rfl ?_
                    refine e_iald G (pc := 86) sh_64 dX11_shift_86 (fun v10 => ?_)
                    refine e_iload G (pc := 87) dX11_shift_87 rfl ?_
                    refine e_isub G (pc := 89) dX11_shift_89 ?_
                    refine e_icmp_gt G (pc := 90) (tgt := 107) dX11_shift_90 (by decide) ?_ ?_
                    · refine e_bipush G (pc := 107) (v := (-13)) dX11_shift_107 (by decide) ?_
                      exact e_iret dX11_shift_109
                    · refine e_iload G (pc := 93) dX11_shift_93 rfl ?_
                      refine e_aload_n G (pc := 95) dX11_shift_95 rfl rfl ?_
                      refine e_getF G (pc := 96) sh_48 rfl lk_X11_55 dX11_shift_96 ?_
                      refine e_iload_n G (pc := 99) dX11_shift_99 rfl rfl ?_
                      refine e_iald G (pc := 100) sh_64 dX11_shift_100 (fun v11 => ?_)
                      refine e_iload G (pc := 101) dX11_shift_101 rfl ?_
                      refine e_isub G (pc := 103) dX11_shift_103 ?_
                      refine e_icmp_le G (pc := 104) (tgt := 110) dX11_shift_104 (by decide) ?_ ?_
                      · refine e_iconst G (pc := 110) (v := 0) dX11_shift_110 (by decide) ?_
                        refine e_istore G (pc := 111) (L' := [some (.ref 48), some (.int a1), some (.int a2), some (.int a3), some (.int a4), some (.int a5), some (.int 0)]) dX11_shift_111 (Nat.le_of_ble_eq_true rfl) rfl ?_
                        exact t_X11_shift_R113 G  q_fuel w4 a1 a2 a3 a4 a5 0 
                      · refine e_bipush G (pc := 107) (v := (-13)) dX11_shift_107 (by decide) ?_
                        exact e_iret dX11_shift_109
            · refine e_bipush G (pc := 63) (v := (-12)) dX11_shift_63 (by decide) ?_
              exact e_iret dX11_shift_65
        · refine e_bipush G (pc := 34) (v := (-11)) dX11_shift_34 (by decide) ?_
          exact e_iret dX11_shift_36
    · refine e_iconst G (pc := 14) (v := (-1)) dX11_shift_14 (by decide) ?_
      exact e_iret dX11_shift_15
set_option maxRecDepth 100000 in
set_option maxHeartbeats 4000000 in
theorem c_X11_shift (w : qW) (a1 : Int32) (a2 : Int32) (a3 : Int32) (a4 : Int32) (a5 : Int32) : q_AC q_vi (some .int) (4) yX11_shift cX11_shift 7 [.ref 48, .int a1, .int a2, .int a3, .int a4, .int a5] w (f_X11_shift w a1 a2 a3 a4 a5) := q_met_i (k := 1) (by decide +kernel) rfl rfl rfl (fun _ _ G => t_X11_shift G w a1 a2 a3 a4 a5 )
set_option maxRecDepth 100000 in
set_option maxHeartbeats 4000000 in
theorem t_X11_taken_B75 {E : qE} {Γ : qC} (G : q_Ok E Γ RX11 cX11_taken 4 (4)) (w : qW) (l1 : Int32) (l2 : Int32) (l3 : Int32) : q_Ev E Γ 4 (q_Fi E Γ cX11_taken) 75 [some (.ref 48), some (.int l1), some (.int l2), some (.int l3)] [] w (f_X11_taken_B75 w l1 l2 l3) := by
  unfold f_X11_taken_B75
  refine e_iload_n G (pc := 75) dX11_taken_75 rfl rfl ?_
  refine e_iload_n G (pc := 76) dX11_taken_76 rfl rfl ?_
  refine e_icmp_ne G (pc := 77) (tgt := 93) dX11_taken_77 (by decide) ?_ ?_
  · refine e_bipush G (pc := 93) (v := (-12)) dX11_taken_93 (by decide) ?_
    exact e_iret dX11_taken_95
  · refine e_aload_n G (pc := 80) dX11_taken_80 rfl rfl ?_
    refine e_aload_n G (pc := 81) dX11_taken_81 rfl rfl ?_
    refine e_getF G (pc := 82) sh_48 rfl lk_X11_52 dX11_taken_82 ?_
    refine e_iload_n G (pc := 85) dX11_taken_85 rfl rfl ?_
    refine e_iald G (pc := 86) sh_63 dX11_taken_86 (fun v1 => ?_)
    refine e_cVi G (pc := 87) (As := [.int v1]) (st := []) cv_X11_327 (c_X11_kindOf w v1 ) sh_48 (Nat.le_of_ble_eq_true rfl) rfl (Nat.le_of_ble_eq_true rfl) dX11_taken_87 (fun r2 w3 => ?_)
    refine e_goto G (pc := 90) (tgt := 95) dX11_taken_90 (by decide) ?_
    exact e_iret dX11_taken_95
set_option maxRecDepth 100000 in
set_option maxHeartbeats 4000000 in
theorem t_X11_taken_B58 {E : qE} {Γ : qC} (G : q_Ok E Γ RX11 cX11_taken 4 (4)) (k58 : qW → Int32 → Int32 → Int32 → Option (Int32 × qW)) (hk58 : ∀ (w : qW) (l1 : Int32) (l2 : Int32) (l3 : Int32), q_Ev E Γ 4 (q_Fi E Γ cX11_taken) 58 [some (.ref 48), some (.int l1), some (.int l2), some (.int l3)] [] w (k58 w l1 l2 l3)) (w : qW) (l1 : Int32) (l2 : Int32) (l3 : Int32) : q_Ev E Γ 4 (q_Fi E Γ cX11_taken) 58 [some (.ref 48), some (.int l1), some (.int l2), some (.int l3)] [] w (f_X11_taken_B58 k58 w l1 l2 l3) := by
  unfold f_X11_taken_B58
  refine e_iload_n G (pc := 58) dX11_taken_58 rfl rfl ?_
  refine e_iload_n G (pc := 59) dX11_taken_59 rfl rfl ?_
  refine e_icmp_eq G (pc := 60) (tgt := 75) dX11_taken_60 (by decide) ?_ ?_
  · exact t_X11_taken_B75 G w l1 l2 l3 
  · refine e_iload_n G (pc := 63) dX11_taken_63 rfl rfl ?_
    refine e_if_le G (pc := 64) (tgt := 75) dX11_taken_64 (by decide) ?_ ?_
    · exact t_X11_taken_B75 G w l1 l2 l3 
    · refine e_iload_n G (pc := 67) dX11_taken_67 rfl rfl ?_
      refine e_cSi G (pc := 68) (ci := 0) (id := 0) (sl := []) (As := [.int l3]) (st := []) cs_X11_330 (c_X11_above w l3 ) (Nat.le_of_ble_eq_true rfl) rfl (Nat.le_of_ble_eq_true rfl) dX11_taken_68 (fun r1 w2 => ?_)
      refine e_istore_n G (pc := 71) (L' := [some (.ref 48), some (.int l1), some (.int l2), some (.int r1)]) dX11_taken_71 rfl (Nat.le_of_ble_eq_true rfl) rfl ?_
      refine e_goto G (pc := 72) (tgt := 58) dX11_taken_72 (by decide) ?_
      exact hk58 w2 l1 l2 r1 
set_option maxRecDepth 100000 in
set_option maxHeartbeats 4000000 in
theorem t_X11_taken_R58 {E : qE} {Γ : qC} (G : q_Ok E Γ RX11 cX11_taken 4 (4)) : ∀ (fuel : Nat) (w : qW) (l1 : Int32) (l2 : Int32) (l3 : Int32) , q_Ev E Γ 4 (q_Fi E Γ cX11_taken) 58 [some (.ref 48), some (.int l1), some (.int l2), some (.int l3)] [] w (f_X11_taken_R58 fuel w l1 l2 l3) := by
  intro fuel
  induction fuel with
  | zero => intros; exact e_none
  | succ fuel ih =>
    intro w l1 l2 l3 
    exact t_X11_taken_B58 G _ ih w l1 l2 l3 
set_option maxRecDepth 100000 in
set_option maxHeartbeats 4000000 in
theorem t_X11_taken {E : qE} {Γ : qC} (G : q_Ok E Γ RX11 cX11_taken 4 (4)) (w : qW) (a1 : Int32) (a2 : Int32) : q_Ev E Γ 4 (q_Fi E Γ cX11_taken) 0 [some (.ref 48), some (.int a1), some (.int a2), none] [] w (f_X11_taken w a1 a2) := by
  unfold f_X11_taken
  refine e_iload_n G (pc := 0) dX11_taken_0 rfl rfl ?_
  refine e_cSi G (pc := 1) (ci := 0) (id := 0) (sl := []) (As := [.int a1]) (st := []) cs_X11_108 (c_X11_isShelf w a1 ) (Nat.le_of_ble_eq_true rfl) rfl (Nat.le_of_ble_eq_true rfl) dX11_taken_1 (fun r1 w2 => ?_)
  refine e_if_eq G (pc := 4) (tgt := 19) dX11_taken_4 (by decide) ?_ ?_
  · refine e_iconst G (pc := 19) (v := (-1)) dX11_taken_19 (by decide) ?_
    exact e_iret dX11_taken_20
  · refine e_iload_n G (pc := 7) dX11_taken_7 rfl rfl ?_
    refine e_i2l G (pc := 8) dX11_taken_8 ?_
    refine e_lconst G (pc := 9) (v := 0) dX11_taken_9 (by decide) ?_
    refine e_ldc2 G (pc := 10) kl_X11_284 dX11_taken_10 ?_
    refine e_cSi G (pc := 13) (ci := 0) (id := 0) (sl := []) (As := [.long (Int32.toInt64 a2), .long 0, .long 7]) (st := []) cs_X11_78 (c_X11_within w2 (Int32.toInt64 a2) 0 7 ) (Nat.le_of_ble_eq_true rfl) rfl (Nat.le_of_ble_eq_true rfl) dX11_taken_13 (fun r3 w4 => ?_)
    refine e_if_ne G (pc := 16) (tgt := 21) dX11_taken_16 (by decide) ?_ ?_
    · refine e_aload_n G (pc := 21) dX11_taken_21 rfl rfl ?_
      refine e_getF G (pc := 22) sh_48 rfl lk_X11_52 dX11_taken_22 ?_
      refine e_iload_n G (pc := 25) dX11_taken_25 rfl rfl ?_
      refine e_iald G (pc := 26) sh_63 dX11_taken_26 (fun v5 => ?_)
      refine e_if_ge G (pc := 27) (tgt := 33) dX11_taken_27 (by decide) ?_ ?_
      · refine e_aload_n G (pc := 33) dX11_taken_33 rfl rfl ?_
        refine e_getF G (pc := 34) sh_48 rfl lk_X11_52 dX11_taken_34 ?_
        refine e_iload_n G (pc := 37) dX11_taken_37 rfl rfl ?_
        refine e_iald G (pc := 38) sh_63 dX11_taken_38 (fun v6 => ?_)
        refine e_bipush G (pc := 39) (v := 50) dX11_taken_39 (by decide) ?_
        refine e_icmp_lt G (pc := 41) (tgt := 47) dX11_taken_41 (by decide) ?_ ?_
        · refine e_aload_n G (pc := 47) dX11_taken_47 rfl rfl ?_
          refine e_aload_n G (pc := 48) dX11_taken_48 rfl rfl ?_
          refine e_getF G (pc := 49) sh_48 rfl lk_X11_52 dX11_taken_49 ?_
          refine e_iload_n G (pc := 52) dX11_taken_52 rfl rfl ?_
          refine e_iald G (pc := 53) sh_63 dX11_taken_53 (fun v7 => ?_)
          refine e_cVi G (pc := 54) (As := [.int v7]) (st := []) cv_X11_327 (c_X11_kindOf w4 v7 ) sh_48 (Nat.le_of_ble_eq_true rfl) rfl (Nat.le_of_ble_eq_true rfl) dX11_taken_54 (fun r8 w9 => ?_)
          refine e_istore_n G (pc := 57) (L' := [some (.ref 48), some (.int a1), some (.int a2), some (.int r8)]) dX11_taken_57 rfl (Nat.le_of_ble_eq_true rfl) rfl ?_
          exact t_X11_taken_R58 G  q_fuel w9 a1 a2 r8 
        · refine e_bipush G (pc := 44) (v := (-12)) dX11_taken_44 (by decide) ?_
          exact e_iret dX11_taken_46
      · refine e_bipush G (pc := 30) (v := (-11)) dX11_taken_30 (by decide) ?_
        exact e_iret dX11_taken_32
    · refine e_iconst G (pc := 19) (v := (-1)) dX11_taken_19 (by decide) ?_
      exact e_iret dX11_taken_20
set_option maxRecDepth 100000 in
set_option maxHeartbeats 4000000 in
theorem c_X11_taken (w : qW) (a1 : Int32) (a2 : Int32) : q_AC q_vi (some .int) (4) yX11_taken cX11_taken 4 [.ref 48, .int a1, .int a2] w (f_X11_taken w a1 a2) := q_met_i (k := 1) (by decide +kernel) rfl rfl rfl (fun _ _ G => t_X11_taken G w a1 a2 )
set_option maxRecDepth 100000 in
set_option maxHeartbeats 4000000 in
theorem t_X11_count {E : qE} {Γ : qC} (G : q_Ok E Γ RX11 cX11_count 2 (2)) (w : qW) (a1 : Int32) : q_Ev E Γ 2 (q_Fi E Γ cX11_count) 0 [some (.ref 48), some (.int a1)] [] w (f_X11_count w a1) := by
  unfold f_X11_count
  refine e_iload_n G (pc := 0) dX11_count_0 rfl rfl ?_
  refine e_ite (fun h1 => ?_) (fun h1 => ?_)
  · refine e_tsIn G (pc := 1) (off := 39) (tgt := 40) dX11_count_1 (by rw [h1]; decide) (by rw [h1]; decide) (by rw [h1]; rfl) (by decide) ?_
    refine e_aload_n G (pc := 40) dX11_count_40 rfl rfl ?_
    refine e_getI G (pc := 41) sh_48 rfl lk_X11_75 dX11_count_41 ?_
    exact e_iret dX11_count_44
  refine e_ite (fun h2 => ?_) (fun h2 => ?_)
  · refine e_tsIn G (pc := 1) (off := 44) (tgt := 45) dX11_count_1 (by rw [h2]; decide) (by rw [h2]; decide) (by rw [h2]; rfl) (by decide) ?_
    refine e_aload_n G (pc := 45) dX11_count_45 rfl rfl ?_
    refine e_getI G (pc := 46) sh_48 rfl lk_X11_82 dX11_count_46 ?_
    exact e_iret dX11_count_49
  refine e_ite (fun h3 => ?_) (fun h3 => ?_)
  · refine e_tsIn G (pc := 1) (off := 49) (tgt := 50) dX11_count_1 (by rw [h3]; decide) (by rw [h3]; decide) (by rw [h3]; rfl) (by decide) ?_
    refine e_aload_n G (pc := 50) dX11_count_50 rfl rfl ?_
    refine e_getI G (pc := 51) sh_48 rfl lk_X11_141 dX11_count_51 ?_
    exact e_iret dX11_count_54
  refine e_ite (fun h4 => ?_) (fun h4 => ?_)
  · refine e_tsIn G (pc := 1) (off := 54) (tgt := 55) dX11_count_1 (by rw [h4]; decide) (by rw [h4]; decide) (by rw [h4]; rfl) (by decide) ?_
    refine e_aload_n G (pc := 55) dX11_count_55 rfl rfl ?_
    refine e_getI G (pc := 56) sh_48 rfl lk_X11_69 dX11_count_56 ?_
    exact e_iret dX11_count_59
  refine e_ite (fun h5 => ?_) (fun h5 => ?_)
  · refine e_tsIn G (pc := 1) (off := 59) (tgt := 60) dX11_count_1 (by rw [h5]; decide) (by rw [h5]; decide) (by rw [h5]; rfl) (by decide) ?_
    refine e_aload_n G (pc := 60) dX11_count_60 rfl rfl ?_
    refine e_getI G (pc := 61) sh_48 rfl lk_X11_281 dX11_count_61 ?_
    exact e_iret dX11_count_64
  refine e_ite (fun h6 => ?_) (fun h6 => ?_)
  · refine e_tsIn G (pc := 1) (off := 64) (tgt := 65) dX11_count_1 (by rw [h6]; decide) (by rw [h6]; decide) (by rw [h6]; rfl) (by decide) ?_
    refine e_aload_n G (pc := 65) dX11_count_65 rfl rfl ?_
    refine e_getI G (pc := 66) sh_48 rfl lk_X11_286 dX11_count_66 ?_
    exact e_iret dX11_count_69
  have h1 := lv_neT h1 (show (0 : Int32).toInt = 0 by decide)
  have h2 := lv_neT h2 (show (1 : Int32).toInt = 1 by decide)
  have h3 := lv_neT h3 (show (2 : Int32).toInt = 2 by decide)
  have h4 := lv_neT h4 (show (3 : Int32).toInt = 3 by decide)
  have h5 := lv_neT h5 (show (4 : Int32).toInt = 4 by decide)
  have h6 := lv_neT h6 (show (5 : Int32).toInt = 5 by decide)
  refine e_tsOut G (pc := 1) (tgt := 70) dX11_count_1 (by omega) (by decide) ?_
  refine e_iconst G (pc := 70) (v := (-1)) dX11_count_70 (by decide) ?_
  exact e_iret dX11_count_71
set_option maxRecDepth 100000 in
set_option maxHeartbeats 4000000 in
theorem c_X11_count (w : qW) (a1 : Int32) : q_AC q_vi (some .int) (2) yX11_count cX11_count 2 [.ref 48, .int a1] w (f_X11_count w a1) := q_met_i (k := 0) (by decide +kernel) rfl rfl rfl (fun _ _ G => t_X11_count G w a1 )
