set_option maxRecDepth 100000 in
set_option maxHeartbeats 4000000 in
theorem t_J6_bitCount_0f7a4 {E : qE} {Γ : qC} (G : q_Ok E Γ RJ6 cJ6_bitCount_0f7a4 1 (2)) (w : qW) (a1 : Int32) : q_Ev E Γ 1 (q_Fi E Γ cJ6_bitCount_0f7a4) 0 [some (.int a1)] [] w (f_J6_bitCount_0f7a4 w a1) := by
  unfold f_J6_bitCount_0f7a4
  refine e_iload_n G (pc := 0) dJ6_bitCount_0f7a4_0 rfl rfl ?_
  refine e_iload_n G (pc := 1) dJ6_bitCount_0f7a4_1 rfl rfl ?_
  refine e_iconst G (pc := 2) (v := 1) dJ6_bitCount_0f7a4_2 (by decide) ?_
  refine e_iushr G (pc := 3) dJ6_bitCount_0f7a4_3 ?_
  refine e_ldcw G (pc := 4) kc_J6_265 dJ6_bitCount_0f7a4_4 ?_
  refine e_iand G (pc := 7) dJ6_bitCount_0f7a4_7 ?_
  refine e_isub G (pc := 8) dJ6_bitCount_0f7a4_8 ?_
  refine e_ti (fun v1 => ?_)
  refine e_istore_n G (pc := 9) (L' := [some (.int v1)]) dJ6_bitCount_0f7a4_9 rfl (Nat.le_of_ble_eq_true rfl) rfl ?_
  refine e_iload_n G (pc := 10) dJ6_bitCount_0f7a4_10 rfl rfl ?_
  refine e_ldcw G (pc := 11) kc_J6_266 dJ6_bitCount_0f7a4_11 ?_
  refine e_iand G (pc := 14) dJ6_bitCount_0f7a4_14 ?_
  refine e_iload_n G (pc := 15) dJ6_bitCount_0f7a4_15 rfl rfl ?_
  refine e_iconst G (pc := 16) (v := 2) dJ6_bitCount_0f7a4_16 (by decide) ?_
  refine e_iushr G (pc := 17) dJ6_bitCount_0f7a4_17 ?_
  refine e_ldcw G (pc := 18) kc_J6_266 dJ6_bitCount_0f7a4_18 ?_
  refine e_iand G (pc := 21) dJ6_bitCount_0f7a4_21 ?_
  refine e_iadd G (pc := 22) dJ6_bitCount_0f7a4_22 ?_
  refine e_ti (fun v2 => ?_)
  refine e_istore_n G (pc := 23) (L' := [some (.int v2)]) dJ6_bitCount_0f7a4_23 rfl (Nat.le_of_ble_eq_true rfl) rfl ?_
  refine e_iload_n G (pc := 24) dJ6_bitCount_0f7a4_24 rfl rfl ?_
  refine e_iload_n G (pc := 25) dJ6_bitCount_0f7a4_25 rfl rfl ?_
  refine e_iconst G (pc := 26) (v := 4) dJ6_bitCount_0f7a4_26 (by decide) ?_
  refine e_iushr G (pc := 27) dJ6_bitCount_0f7a4_27 ?_
  refine e_iadd G (pc := 28) dJ6_bitCount_0f7a4_28 ?_
  refine e_ldcw G (pc := 29) kc_J6_267 dJ6_bitCount_0f7a4_29 ?_
  refine e_iand G (pc := 32) dJ6_bitCount_0f7a4_32 ?_
  refine e_ti (fun v3 => ?_)
  refine e_istore_n G (pc := 33) (L' := [some (.int v3)]) dJ6_bitCount_0f7a4_33 rfl (Nat.le_of_ble_eq_true rfl) rfl ?_
  refine e_iload_n G (pc := 34) dJ6_bitCount_0f7a4_34 rfl rfl ?_
  refine e_iload_n G (pc := 35) dJ6_bitCount_0f7a4_35 rfl rfl ?_
  refine e_bipush G (pc := 36) (v := 8) dJ6_bitCount_0f7a4_36 (by decide) ?_
  refine e_iushr G (pc := 38) dJ6_bitCount_0f7a4_38 ?_
  refine e_iadd G (pc := 39) dJ6_bitCount_0f7a4_39 ?_
  refine e_ti (fun v4 => ?_)
  refine e_istore_n G (pc := 40) (L' := [some (.int v4)]) dJ6_bitCount_0f7a4_40 rfl (Nat.le_of_ble_eq_true rfl) rfl ?_
  refine e_iload_n G (pc := 41) dJ6_bitCount_0f7a4_41 rfl rfl ?_
  refine e_iload_n G (pc := 42) dJ6_bitCount_0f7a4_42 rfl rfl ?_
  refine e_bipush G (pc := 43) (v := 16) dJ6_bitCount_0f7a4_43 (by decide) ?_
  refine e_iushr G (pc := 45) dJ6_bitCount_0f7a4_45 ?_
  refine e_iadd G (pc := 46) dJ6_bitCount_0f7a4_46 ?_
  refine e_ti (fun v5 => ?_)
  refine e_istore_n G (pc := 47) (L' := [some (.int v5)]) dJ6_bitCount_0f7a4_47 rfl (Nat.le_of_ble_eq_true rfl) rfl ?_
  refine e_iload_n G (pc := 48) dJ6_bitCount_0f7a4_48 rfl rfl ?_
  refine e_bipush G (pc := 49) (v := 63) dJ6_bitCount_0f7a4_49 (by decide) ?_
  refine e_iand G (pc := 51) dJ6_bitCount_0f7a4_51 ?_
  exact e_iret dJ6_bitCount_0f7a4_52
set_option maxRecDepth 100000 in
set_option maxHeartbeats 4000000 in
theorem c_J6_bitCount_0f7a4 (w : qW) (a1 : Int32) : q_AC q_vi (some .int) (2) yJ6_bitCount_0f7a4 cJ6_bitCount_0f7a4 1 [.int a1] w (f_J6_bitCount_0f7a4 w a1) := q_met_i (k := 0) (by decide +kernel) rfl rfl rfl (fun _ _ G => t_J6_bitCount_0f7a4 G w a1 )
set_option maxRecDepth 100000 in
set_option maxHeartbeats 4000000 in
theorem t_J7_fill_d0a16_B6 {E : qE} {Γ : qC} (G : q_Ok E Γ RJ7 cJ7_fill_d0a16 5 (2)) (nn : Nat) (id1 : Nat) (hs1 : q_shp[id1]? = some (.inr (.inr (.inl nn)))) (k6 : qW → Int64 → Int32 → Int32 → Option (Unit × qW)) (hk6 : ∀ (w : qW) (l1 : Int64) (l3 : Int32) (l4 : Int32), q_Ev E Γ 5 (q_Fv E Γ cJ7_fill_d0a16) 6 [some (.ref id1), some (.long l1), none, some (.int l3), some (.int l4)] [] w (k6 w l1 l3 l4)) (w : qW) (l1 : Int64) (l3 : Int32) (l4 : Int32) : q_Ev E Γ 5 (q_Fv E Γ cJ7_fill_d0a16) 6 [some (.ref id1), some (.long l1), none, some (.int l3), some (.int l4)] [] w (f_J7_fill_d0a16_B6 nn id1 k6 w l1 l3 l4) := by
  unfold f_J7_fill_d0a16_B6
  refine e_iload_n G (pc := 6) dJ7_fill_d0a16_6 rfl rfl ?_
  refine e_iload G (pc := 7) dJ7_fill_d0a16_7 rfl ?_
  refine e_icmp_ge G (pc := 9) (tgt := 22) dJ7_fill_d0a16_9 (by decide) ?_ ?_
  · exact e_vret dJ7_fill_d0a16_22
  · refine e_aload_n G (pc := 12) dJ7_fill_d0a16_12 rfl rfl ?_
    refine e_iload_n G (pc := 13) dJ7_fill_d0a16_13 rfl rfl ?_
    refine e_lload_n G (pc := 14) dJ7_fill_d0a16_14 rfl rfl ?_
    refine e_last G (pc := 15) hs1 dJ7_fill_d0a16_15 (fun w1 => ?_)
    refine e_iinc G (pc := 16) (x := l3) (v := l3 + 1) (L' := fun v2 => [some (.ref id1), some (.long l1), none, some (.int v2), some (.int l4)]) dJ7_fill_d0a16_16 (Nat.le_of_ble_eq_true rfl) rfl (by rfl) (fun _ => rfl) (fun v2 => ?_)
    refine e_goto G (pc := 19) (tgt := 6) dJ7_fill_d0a16_19 (by decide) ?_
    exact hk6 w1 l1 v2 l4 
set_option maxRecDepth 100000 in
set_option maxHeartbeats 4000000 in
theorem t_J7_fill_d0a16_R6 {E : qE} {Γ : qC} (G : q_Ok E Γ RJ7 cJ7_fill_d0a16 5 (2)) (nn : Nat) (id1 : Nat) (hs1 : q_shp[id1]? = some (.inr (.inr (.inl nn)))) : ∀ (fuel : Nat) (w : qW) (l1 : Int64) (l3 : Int32) (l4 : Int32) , q_Ev E Γ 5 (q_Fv E Γ cJ7_fill_d0a16) 6 [some (.ref id1), some (.long l1), none, some (.int l3), some (.int l4)] [] w (f_J7_fill_d0a16_R6 nn id1 fuel w l1 l3 l4) := by
  intro fuel
  induction fuel with
  | zero => intros; exact e_none
  | succ fuel ih =>
    intro w l1 l3 l4 
    exact t_J7_fill_d0a16_B6 G nn id1 hs1 _ ih w l1 l3 l4 
set_option maxRecDepth 100000 in
set_option maxHeartbeats 4000000 in
theorem t_J7_fill_d0a16 {E : qE} {Γ : qC} (G : q_Ok E Γ RJ7 cJ7_fill_d0a16 5 (2)) (nn : Nat) (w : qW) (id1 : Nat) (a2 : Int64) (hs1 : q_shp[id1]? = some (.inr (.inr (.inl nn)))) : q_Ev E Γ 5 (q_Fv E Γ cJ7_fill_d0a16) 0 [some (.ref id1), some (.long a2), none, none, none] [] w (f_J7_fill_d0a16 nn w id1 a2) := by
  unfold f_J7_fill_d0a16
  refine e_iconst G (pc := 0) (v := 0) dJ7_fill_d0a16_0 (by decide) ?_
  refine e_istore_n G (pc := 1) (L' := [some (.ref id1), some (.long a2), none, some (.int 0), none]) dJ7_fill_d0a16_1 rfl (Nat.le_of_ble_eq_true rfl) rfl ?_
  refine e_aload_n G (pc := 2) dJ7_fill_d0a16_2 rfl rfl ?_
  refine e_alenl G (pc := 3) hs1 dJ7_fill_d0a16_3 ?_
  refine e_ti (fun v1 => ?_)
  refine e_istore G (pc := 4) (L' := [some (.ref id1), some (.long a2), none, some (.int 0), some (.int v1)]) dJ7_fill_d0a16_4 (Nat.le_of_ble_eq_true rfl) rfl ?_
  exact t_J7_fill_d0a16_R6 G nn id1 hs1  q_fuel w a2 0 v1 
set_option maxRecDepth 100000 in
set_option maxHeartbeats 4000000 in
theorem c_J7_fill_d0a16 (nn : Nat) (w : qW) (id1 : Nat) (a2 : Int64) (hs1 : q_shp[id1]? = some (.inr (.inr (.inl nn)))) : q_AC q_vv none (2) yJ7_fill_d0a16 cJ7_fill_d0a16 5 [.ref id1, .long a2] w (f_J7_fill_d0a16 nn w id1 a2) := q_met_v (k := 2) (by decide +kernel) rfl rfl rfl (fun _ _ G => t_J7_fill_d0a16 G nn w id1 a2 hs1)
set_option maxRecDepth 100000 in
set_option maxHeartbeats 4000000 in
theorem t_J7_fill_53178_B5 {E : qE} {Γ : qC} (G : q_Ok E Γ RJ7 cJ7_fill_53178 4 (2)) (nn : Nat) (id1 : Nat) (hs1 : q_shp[id1]? = some (.inr (.inl nn))) (k5 : qW → Int32 → Int32 → Int32 → Option (Unit × qW)) (hk5 : ∀ (w : qW) (l1 : Int32) (l2 : Int32) (l3 : Int32), q_Ev E Γ 4 (q_Fv E Γ cJ7_fill_53178) 5 [some (.ref id1), some (.int l1), some (.int l2), some (.int l3)] [] w (k5 w l1 l2 l3)) (w : qW) (l1 : Int32) (l2 : Int32) (l3 : Int32) : q_Ev E Γ 4 (q_Fv E Γ cJ7_fill_53178) 5 [some (.ref id1), some (.int l1), some (.int l2), some (.int l3)] [] w (f_J7_fill_53178_B5 nn id1 k5 w l1 l2 l3) := by
  unfold f_J7_fill_53178_B5
  refine e_iload_n G (pc := 5) dJ7_fill_53178_5 rfl rfl ?_
  refine e_iload_n G (pc := 6) dJ7_fill_53178_6 rfl rfl ?_
  refine e_icmp_ge G (pc := 7) (tgt := 20) dJ7_fill_53178_7 (by decide) ?_ ?_
  · exact e_vret dJ7_fill_53178_20
  · refine e_aload_n G (pc := 10) dJ7_fill_53178_10 rfl rfl ?_
    refine e_iload_n G (pc := 11) dJ7_fill_53178_11 rfl rfl ?_
    refine e_iload_n G (pc := 12) dJ7_fill_53178_12 rfl rfl ?_
    refine e_iast G (pc := 13) hs1 dJ7_fill_53178_13 (fun w1 => ?_)
    refine e_iinc G (pc := 14) (x := l2) (v := l2 + 1) (L' := fun v2 => [some (.ref id1), some (.int l1), some (.int v2), some (.int l3)]) dJ7_fill_53178_14 (Nat.le_of_ble_eq_true rfl) rfl (by rfl) (fun _ => rfl) (fun v2 => ?_)
    refine e_goto G (pc := 17) (tgt := 5) dJ7_fill_53178_17 (by decide) ?_
    exact hk5 w1 l1 v2 l3 
set_option maxRecDepth 100000 in
set_option maxHeartbeats 4000000 in
theorem t_J7_fill_53178_R5 {E : qE} {Γ : qC} (G : q_Ok E Γ RJ7 cJ7_fill_53178 4 (2)) (nn : Nat) (id1 : Nat) (hs1 : q_shp[id1]? = some (.inr (.inl nn))) : ∀ (fuel : Nat) (w : qW) (l1 : Int32) (l2 : Int32) (l3 : Int32) , q_Ev E Γ 4 (q_Fv E Γ cJ7_fill_53178) 5 [some (.ref id1), some (.int l1), some (.int l2), some (.int l3)] [] w (f_J7_fill_53178_R5 nn id1 fuel w l1 l2 l3) := by
  intro fuel
  induction fuel with
  | zero => intros; exact e_none
  | succ fuel ih =>
    intro w l1 l2 l3 
    exact t_J7_fill_53178_B5 G nn id1 hs1 _ ih w l1 l2 l3 
set_option maxRecDepth 100000 in
set_option maxHeartbeats 4000000 in
theorem t_J7_fill_53178 {E : qE} {Γ : qC} (G : q_Ok E Γ RJ7 cJ7_fill_53178 4 (2)) (nn : Nat) (w : qW) (id1 : Nat) (a2 : Int32) (hs1 : q_shp[id1]? = some (.inr (.inl nn))) : q_Ev E Γ 4 (q_Fv E Γ cJ7_fill_53178) 0 [some (.ref id1), some (.int a2), none, none] [] w (f_J7_fill_53178 nn w id1 a2) := by
  unfold f_J7_fill_53178
  refine e_iconst G (pc := 0) (v := 0) dJ7_fill_53178_0 (by decide) ?_
  refine e_istore_n G (pc := 1) (L' := [some (.ref id1), some (.int a2), some (.int 0), none]) dJ7_fill_53178_1 rfl (Nat.le_of_ble_eq_true rfl) rfl ?_
  refine e_aload_n G (pc := 2) dJ7_fill_53178_2 rfl rfl ?_
  refine e_alen G (pc := 3) hs1 dJ7_fill_53178_3 ?_
  refine e_ti (fun v1 => ?_)
  refine e_istore_n G (pc := 4) (L' := [some (.ref id1), some (.int a2), some (.int 0), some (.int v1)]) dJ7_fill_53178_4 rfl (Nat.le_of_ble_eq_true rfl) rfl ?_
  exact t_J7_fill_53178_R5 G nn id1 hs1  q_fuel w a2 0 v1 
set_option maxRecDepth 100000 in
set_option maxHeartbeats 4000000 in
theorem c_J7_fill_53178 (nn : Nat) (w : qW) (id1 : Nat) (a2 : Int32) (hs1 : q_shp[id1]? = some (.inr (.inl nn))) : q_AC q_vv none (2) yJ7_fill_53178 cJ7_fill_53178 4 [.ref id1, .int a2] w (f_J7_fill_53178 nn w id1 a2) := q_met_v (k := 2) (by decide +kernel) rfl rfl rfl (fun _ _ G => t_J7_fill_53178 G nn w id1 a2 hs1)
set_option maxRecDepth 100000 in
set_option maxHeartbeats 4000000 in
theorem t_X4_has_B43 {E : qE} {Γ : qC} (G : q_Ok E Γ RX4 cX4_has 3 (2)) (w : qW) (s0 : Int32) (s1 : Int32) : q_Ev E Γ 3 (q_Fz E Γ cX4_has) 43 [none, none, none] [.int s0, .int s1] w (f_X4_has_B43 w s0 s1) := by
  unfold f_X4_has_B43
  refine e_icmp_ge G (pc := 43) (tgt := 50) dX4_has_43 (by decide) ?_ ?_
  · refine e_iconst G (pc := 50) (v := 0) dX4_has_50 (by decide) ?_
    exact e_zret dX4_has_51
  · refine e_iconst G (pc := 46) (v := 1) dX4_has_46 (by decide) ?_
    refine e_goto G (pc := 47) (tgt := 51) dX4_has_47 (by decide) ?_
    exact e_zret dX4_has_51
set_option maxRecDepth 100000 in
set_option maxHeartbeats 4000000 in
theorem t_X4_has {E : qE} {Γ : qC} (G : q_Ok E Γ RX4 cX4_has 3 (2)) (w : qW) (a1 : Int32) (a2 : Int32) : q_Ev E Γ 3 (q_Fz E Γ cX4_has) 0 [some (.ref 1), some (.int a1), some (.int a2)] [] w (f_X4_has w a1 a2) := by
  unfold f_X4_has
  refine e_iload_n G (pc := 0) dX4_has_0 rfl rfl ?_
  refine e_if_lt G (pc := 1) (tgt := 14) dX4_has_1 (by decide) ?_ ?_
  · refine e_iconst G (pc := 14) (v := 0) dX4_has_14 (by decide) ?_
    exact e_zret dX4_has_15
  · refine e_iload_n G (pc := 4) dX4_has_4 rfl rfl ?_
    refine e_bipush G (pc := 5) (v := 8) dX4_has_5 (by decide) ?_
    refine e_icmp_ge G (pc := 7) (tgt := 14) dX4_has_7 (by decide) ?_ ?_
    · refine e_iconst G (pc := 14) (v := 0) dX4_has_14 (by decide) ?_
      exact e_zret dX4_has_15
    · refine e_iload_n G (pc := 10) dX4_has_10 rfl rfl ?_
      refine e_if_ge G (pc := 11) (tgt := 16) dX4_has_11 (by decide) ?_ ?_
      · refine e_iload_n G (pc := 16) dX4_has_16 rfl rfl ?_
        refine e_iload_n G (pc := 17) dX4_has_17 rfl rfl ?_
        refine e_iconst G (pc := 18) (v := 4) dX4_has_18 (by decide) ?_
        refine e_icmp_ge G (pc := 19) (tgt := 29) dX4_has_19 (by decide) ?_ ?_
        · refine e_iload_n G (pc := 29) dX4_has_29 rfl rfl ?_
          refine e_bipush G (pc := 30) (v := 7) dX4_has_30 (by decide) ?_
          refine e_icmp_ge G (pc := 32) (tgt := 42) dX4_has_32 (by decide) ?_ ?_
          · refine e_iconst G (pc := 42) (v := 1) dX4_has_42 (by decide) ?_
            refine e_wk (L' := [none, none, none]) (trivial) ?_
            exact t_X4_has_B43 G w 1 a1 
          · refine e_aload_n G (pc := 35) dX4_has_35 rfl rfl ?_
            refine e_getI G (pc := 36) sh_1 rfl lk_X4_23 dX4_has_36 ?_
            refine e_goto G (pc := 39) (tgt := 43) dX4_has_39 (by decide) ?_
            refine e_wk (L' := [none, none, none]) (trivial) ?_
            exact t_X4_has_B43 G w (q_I w 1 2) a1 
        · refine e_aload_n G (pc := 22) dX4_has_22 rfl rfl ?_
          refine e_getI G (pc := 23) sh_1 rfl lk_X4_15 dX4_has_23 ?_
          refine e_goto G (pc := 26) (tgt := 43) dX4_has_26 (by decide) ?_
          refine e_wk (L' := [none, none, none]) (trivial) ?_
          exact t_X4_has_B43 G w (q_I w 1 1) a1 
      · refine e_iconst G (pc := 14) (v := 0) dX4_has_14 (by decide) ?_
        exact e_zret dX4_has_15
set_option maxRecDepth 100000 in
set_option maxHeartbeats 4000000 in
theorem c_X4_has (w : qW) (a1 : Int32) (a2 : Int32) : q_AC q_vi (some .boolean) (2) yX4_has cX4_has 3 [.ref 1, .int a1, .int a2] w (f_X4_has w a1 a2) := q_met_z (k := 0) (by decide +kernel) rfl rfl rfl (fun _ _ G => t_X4_has G w a1 a2 )
set_option maxRecDepth 100000 in
set_option maxHeartbeats 4000000 in
theorem t_X4_set {E : qE} {Γ : qC} (G : q_Ok E Γ RX4 cX4_set 4 (3)) (w : qW) (a1 : Int32) (a2 : Int32) (a3 : Int32) : q_Ev E Γ 4 (q_Fv E Γ cX4_set) 0 [some (.ref 1), some (.int a1), some (.int a2), some (.int a3)] [] w (f_X4_set w a1 a2 a3) := by
  unfold f_X4_set
  refine e_aload_n G (pc := 0) dX4_set_0 rfl rfl ?_
  refine e_iload_n G (pc := 1) dX4_set_1 rfl rfl ?_
  refine e_iload_n G (pc := 2) dX4_set_2 rfl rfl ?_
  refine e_cVi G (pc := 3) (As := [.int a1, .int a2]) (st := []) cv_X4_32 (c_X4_has w a1 a2 ) sh_1 (Nat.le_of_ble_eq_true rfl) rfl (Nat.le_of_ble_eq_true rfl) dX4_set_3 (fun r1 w2 => ?_)
  refine e_if_eq G (pc := 6) (tgt := 21) dX4_set_6 (by decide) ?_ ?_
  · exact e_vret dX4_set_21
  · refine e_aload_n G (pc := 9) dX4_set_9 rfl rfl ?_
    refine e_getF G (pc := 10) sh_1 rfl lk_X4_11 dX4_set_10 ?_
    refine e_bipush G (pc := 13) (v := 8) dX4_set_13 (by decide) ?_
    refine e_iload_n G (pc := 15) dX4_set_15 rfl rfl ?_
    refine e_imul G (pc := 16) dX4_set_16 ?_
    refine e_iload_n G (pc := 17) dX4_set_17 rfl rfl ?_
    refine e_iadd G (pc := 18) dX4_set_18 ?_
    refine e_iload_n G (pc := 19) dX4_set_19 rfl rfl ?_
    refine e_iast G (pc := 20) sh_2 dX4_set_20 (fun w3 => ?_)
    exact e_vret dX4_set_21
set_option maxRecDepth 100000 in
set_option maxHeartbeats 4000000 in
theorem c_X4_set (w : qW) (a1 : Int32) (a2 : Int32) (a3 : Int32) : q_AC q_vv none (3) yX4_set cX4_set 4 [.ref 1, .int a1, .int a2, .int a3] w (f_X4_set w a1 a2 a3) := q_met_v (k := 0) (by decide +kernel) rfl rfl rfl (fun _ _ G => t_X4_set G w a1 a2 a3 )
set_option maxRecDepth 100000 in
set_option maxHeartbeats 4000000 in
theorem t_X4_addMan {E : qE} {Γ : qC} (G : q_Ok E Γ RX4 cX4_addMan 4 (4)) (w : qW) (a1 : Int32) (a2 : Int32) : q_Ev E Γ 4 (q_Fi E Γ cX4_addMan) 0 [some (.ref 1), some (.int a1), some (.int a2), none] [] w (f_X4_addMan w a1 a2) := by
  unfold f_X4_addMan
  refine e_aload_n G (pc := 0) dX4_addMan_0 rfl rfl ?_
  refine e_getI G (pc := 1) sh_1 rfl lk_X4_15 dX4_addMan_1 ?_
  refine e_bipush G (pc := 4) (v := 7) dX4_addMan_4 (by decide) ?_
  refine e_icmp_lt G (pc := 6) (tgt := 12) dX4_addMan_6 (by decide) ?_ ?_
  · refine e_aload_n G (pc := 12) dX4_addMan_12 rfl rfl ?_
    refine e_getI G (pc := 13) sh_1 rfl lk_X4_15 dX4_addMan_13 ?_
    refine e_ti (fun v1 => ?_)
    refine e_istore_n G (pc := 16) (L' := [some (.ref 1), some (.int a1), some (.int a2), some (.int v1)]) dX4_addMan_16 rfl (Nat.le_of_ble_eq_true rfl) rfl ?_
    refine e_aload_n G (pc := 17) dX4_addMan_17 rfl rfl ?_
    refine e_dup G (pc := 18) dX4_addMan_18 rfl ?_
    refine e_getI G (pc := 19) sh_1 rfl lk_X4_15 dX4_addMan_19 ?_
    refine e_iconst G (pc := 22) (v := 1) dX4_addMan_22 (by decide) ?_
    refine e_iadd G (pc := 23) dX4_addMan_23 ?_
    refine e_putI G (pc := 24) sh_1 rfl lp_X4_15 rfl rfl dX4_addMan_24 (fun w2 => ?_)
    refine e_aload_n G (pc := 27) dX4_addMan_27 rfl rfl ?_
    refine e_iload_n G (pc := 28) dX4_addMan_28 rfl rfl ?_
    refine e_iconst G (pc := 29) (v := 0) dX4_addMan_29 (by decide) ?_
    refine e_iload_n G (pc := 30) dX4_addMan_30 rfl rfl ?_
    refine e_cVv G (pc := 31) (As := [.int v1, .int 0, .int a1]) (st := []) cv_X4_19 (c_X4_set w2 v1 0 a1 ) sh_1 (Nat.le_of_ble_eq_true rfl) rfl (Nat.le_of_ble_eq_true rfl) dX4_addMan_31 (fun r3 w4 => ?_)
    refine e_aload_n G (pc := 34) dX4_addMan_34 rfl rfl ?_
    refine e_iload_n G (pc := 35) dX4_addMan_35 rfl rfl ?_
    refine e_iconst G (pc := 36) (v := 1) dX4_addMan_36 (by decide) ?_
    refine e_iload_n G (pc := 37) dX4_addMan_37 rfl rfl ?_
    refine e_cVv G (pc := 38) (As := [.int v1, .int 1, .int a2]) (st := []) cv_X4_19 (c_X4_set w4 v1 1 a2 ) sh_1 (Nat.le_of_ble_eq_true rfl) rfl (Nat.le_of_ble_eq_true rfl) dX4_addMan_38 (fun r5 w6 => ?_)
    refine e_aload_n G (pc := 41) dX4_addMan_41 rfl rfl ?_
    refine e_iload_n G (pc := 42) dX4_addMan_42 rfl rfl ?_
    refine e_iconst G (pc := 43) (v := 2) dX4_addMan_43 (by decide) ?_
    refine e_iconst G (pc := 44) (v := 1) dX4_addMan_44 (by decide) ?_
    refine e_cVv G (pc := 45) (As := [.int v1, .int 2, .int 1]) (st := []) cv_X4_19 (c_X4_set w6 v1 2 1 ) sh_1 (Nat.le_of_ble_eq_true rfl) rfl (Nat.le_of_ble_eq_true rfl) dX4_addMan_45 (fun r7 w8 => ?_)
    refine e_aload_n G (pc := 48) dX4_addMan_48 rfl rfl ?_
    refine e_iload_n G (pc := 49) dX4_addMan_49 rfl rfl ?_
    refine e_iconst G (pc := 50) (v := 3) dX4_addMan_50 (by decide) ?_
    refine e_bipush G (pc := 51) (v := 10) dX4_addMan_51 (by decide) ?_
    refine e_cVv G (pc := 53) (As := [.int v1, .int 3, .int 10]) (st := []) cv_X4_19 (c_X4_set w8 v1 3 10 ) sh_1 (Nat.le_of_ble_eq_true rfl) rfl (Nat.le_of_ble_eq_true rfl) dX4_addMan_53 (fun r9 w10 => ?_)
    refine e_iload_n G (pc := 56) dX4_addMan_56 rfl rfl ?_
    exact e_iret dX4_addMan_57
  · refine e_bipush G (pc := 9) (v := (-3)) dX4_addMan_9 (by decide) ?_
    exact e_iret dX4_addMan_11
set_option maxRecDepth 100000 in
set_option maxHeartbeats 4000000 in
theorem c_X4_addMan (w : qW) (a1 : Int32) (a2 : Int32) : q_AC q_vi (some .int) (4) yX4_addMan cX4_addMan 4 [.ref 1, .int a1, .int a2] w (f_X4_addMan w a1 a2) := q_met_i (k := 1) (by decide +kernel) rfl rfl rfl (fun _ _ G => t_X4_addMan G w a1 a2 )
set_option maxRecDepth 100000 in
set_option maxHeartbeats 4000000 in
theorem t_X4_addSitter {E : qE} {Γ : qC} (G : q_Ok E Γ RX4 cX4_addSitter 5 (4)) (w : qW) (a1 : Int32) (a2 : Int32) (a3 : Int32) : q_Ev E Γ 5 (q_Fi E Γ cX4_addSitter) 0 [some (.ref 1), some (.int a1), some (.int a2), some (.int a3), none] [] w (f_X4_addSitter w a1 a2 a3) := by
  unfold f_X4_addSitter
  refine e_aload_n G (pc := 0) dX4_addSitter_0 rfl rfl ?_
  refine e_getI G (pc := 1) sh_1 rfl lk_X4_23 dX4_addSitter_1 ?_
  refine e_bipush G (pc := 4) (v := 8) dX4_addSitter_4 (by decide) ?_
  refine e_icmp_lt G (pc := 6) (tgt := 12) dX4_addSitter_6 (by decide) ?_ ?_
  · refine e_aload_n G (pc := 12) dX4_addSitter_12 rfl rfl ?_
    refine e_getI G (pc := 13) sh_1 rfl lk_X4_23 dX4_addSitter_13 ?_
    refine e_ti (fun v1 => ?_)
    refine e_istore G (pc := 16) (L' := [some (.ref 1), some (.int a1), some (.int a2), some (.int a3), some (.int v1)]) dX4_addSitter_16 (Nat.le_of_ble_eq_true rfl) rfl ?_
    refine e_aload_n G (pc := 18) dX4_addSitter_18 rfl rfl ?_
    refine e_dup G (pc := 19) dX4_addSitter_19 rfl ?_
    refine e_getI G (pc := 20) sh_1 rfl lk_X4_23 dX4_addSitter_20 ?_
    refine e_iconst G (pc := 23) (v := 1) dX4_addSitter_23 (by decide) ?_
    refine e_iadd G (pc := 24) dX4_addSitter_24 ?_
    refine e_putI G (pc := 25) sh_1 rfl lp_X4_23 rfl rfl dX4_addSitter_25 (fun w2 => ?_)
    refine e_aload_n G (pc := 28) dX4_addSitter_28 rfl rfl ?_
    refine e_iload G (pc := 29) dX4_addSitter_29 rfl ?_
    refine e_iconst G (pc := 31) (v := 4) dX4_addSitter_31 (by decide) ?_
    refine e_iload_n G (pc := 32) dX4_addSitter_32 rfl rfl ?_
    refine e_cVv G (pc := 33) (As := [.int v1, .int 4, .int a1]) (st := []) cv_X4_19 (c_X4_set w2 v1 4 a1 ) sh_1 (Nat.le_of_ble_eq_true rfl) rfl (Nat.le_of_ble_eq_true rfl) dX4_addSitter_33 (fun r3 w4 => ?_)
    refine e_aload_n G (pc := 36) dX4_addSitter_36 rfl rfl ?_
    refine e_iload G (pc := 37) dX4_addSitter_37 rfl ?_
    refine e_iconst G (pc := 39) (v := 5) dX4_addSitter_39 (by decide) ?_
    refine e_iload_n G (pc := 40) dX4_addSitter_40 rfl rfl ?_
    refine e_cVv G (pc := 41) (As := [.int v1, .int 5, .int a2]) (st := []) cv_X4_19 (c_X4_set w4 v1 5 a2 ) sh_1 (Nat.le_of_ble_eq_true rfl) rfl (Nat.le_of_ble_eq_true rfl) dX4_addSitter_41 (fun r5 w6 => ?_)
    refine e_aload_n G (pc := 44) dX4_addSitter_44 rfl rfl ?_
    refine e_iload G (pc := 45) dX4_addSitter_45 rfl ?_
    refine e_bipush G (pc := 47) (v := 6) dX4_addSitter_47 (by decide) ?_
    refine e_iload_n G (pc := 49) dX4_addSitter_49 rfl rfl ?_
    refine e_cVv G (pc := 50) (As := [.int v1, .int 6, .int a3]) (st := []) cv_X4_19 (c_X4_set w6 v1 6 a3 ) sh_1 (Nat.le_of_ble_eq_true rfl) rfl (Nat.le_of_ble_eq_true rfl) dX4_addSitter_50 (fun r7 w8 => ?_)
    refine e_iload G (pc := 53) dX4_addSitter_53 rfl ?_
    exact e_iret dX4_addSitter_55
  · refine e_bipush G (pc := 9) (v := (-3)) dX4_addSitter_9 (by decide) ?_
    exact e_iret dX4_addSitter_11
set_option maxRecDepth 100000 in
set_option maxHeartbeats 4000000 in
theorem c_X4_addSitter (w : qW) (a1 : Int32) (a2 : Int32) (a3 : Int32) : q_AC q_vi (some .int) (4) yX4_addSitter cX4_addSitter 5 [.ref 1, .int a1, .int a2, .int a3] w (f_X4_addSitter w a1 a2 a3) := q_met_i (k := 1) (by decide +kernel) rfl rfl rfl (fun _ _ G => t_X4_addSitter G w a1 a2 a3 )
set_option maxRecDepth 100000 in
set_option maxHeartbeats 4000000 in
theorem t_X4_fits {E : qE} {Γ : qC} (G : q_Ok E Γ RX4 cX4_fits 3 (2)) (w : qW) (a1 : Int32) (a2 : Int32) : q_Ev E Γ 3 (q_Fz E Γ cX4_fits) 0 [some (.ref 1), some (.int a1), some (.int a2)] [] w (f_X4_fits w a1 a2) := by
  unfold f_X4_fits
  refine e_iload_n G (pc := 0) dX4_fits_0 rfl rfl ?_
  refine e_if_lt G (pc := 1) (tgt := 32) dX4_fits_1 (by decide) ?_ ?_
  · refine e_iconst G (pc := 32) (v := 0) dX4_fits_32 (by decide) ?_
    exact e_zret dX4_fits_33
  · refine e_iload_n G (pc := 4) dX4_fits_4 rfl rfl ?_
    refine e_bipush G (pc := 5) (v := 8) dX4_fits_5 (by decide) ?_
    refine e_icmp_ge G (pc := 7) (tgt := 32) dX4_fits_7 (by decide) ?_ ?_
    · refine e_iconst G (pc := 32) (v := 0) dX4_fits_32 (by decide) ?_
      exact e_zret dX4_fits_33
    · refine e_iload_n G (pc := 10) dX4_fits_10 rfl rfl ?_
      refine e_gets G (pc := 11) (id := 100) rfl ls_X4_26 dX4_fits_11 ?_
      refine e_iload_n G (pc := 14) dX4_fits_14 rfl rfl ?_
      refine e_tald G (pc := 15) (k := 0) rfl (by decide) dX4_fits_15 (fun v1 => ?_)
      refine e_icmp_lt G (pc := 16) (tgt := 32) dX4_fits_16 (by decide) ?_ ?_
      · refine e_iconst G (pc := 32) (v := 0) dX4_fits_32 (by decide) ?_
        exact e_zret dX4_fits_33
      · refine e_iload_n G (pc := 19) dX4_fits_19 rfl rfl ?_
        refine e_gets G (pc := 20) (id := 101) rfl ls_X4_29 dX4_fits_20 ?_
        refine e_iload_n G (pc := 23) dX4_fits_23 rfl rfl ?_
        refine e_tald G (pc := 24) (k := 1) rfl (by decide) dX4_fits_24 (fun v2 => ?_)
        refine e_icmp_gt G (pc := 25) (tgt := 32) dX4_fits_25 (by decide) ?_ ?_
        · refine e_iconst G (pc := 32) (v := 0) dX4_fits_32 (by decide) ?_
          exact e_zret dX4_fits_33
        · refine e_iconst G (pc := 28) (v := 1) dX4_fits_28 (by decide) ?_
          refine e_goto G (pc := 29) (tgt := 33) dX4_fits_29 (by decide) ?_
          exact e_zret dX4_fits_33
set_option maxRecDepth 100000 in
set_option maxHeartbeats 4000000 in
theorem c_X4_fits (w : qW) (a1 : Int32) (a2 : Int32) : q_AC q_vi (some .boolean) (2) yX4_fits cX4_fits 3 [.ref 1, .int a1, .int a2] w (f_X4_fits w a1 a2) := q_met_z (k := 0) (by decide +kernel) rfl rfl rfl (fun _ _ G => t_X4_fits G w a1 a2 )
set_option maxRecDepth 100000 in
set_option maxHeartbeats 4000000 in
theorem t_X4_get {E : qE} {Γ : qC} (G : q_Ok E Γ RX4 cX4_get 3 (3)) (w : qW) (a1 : Int32) (a2 : Int32) : q_Ev E Γ 3 (q_Fi E Γ cX4_get) 0 [some (.ref 1), some (.int a1), some (.int a2)] [] w (f_X4_get w a1 a2) := by
  unfold f_X4_get
  refine e_aload_n G (pc := 0) dX4_get_0 rfl rfl ?_
  refine e_iload_n G (pc := 1) dX4_get_1 rfl rfl ?_
  refine e_iload_n G (pc := 2) dX4_get_2 rfl rfl ?_
  refine e_cVi G (pc := 3) (As := [.int a1, .int a2]) (st := []) cv_X4_32 (c_X4_has w a1 a2 ) sh_1 (Nat.le_of_ble_eq_true rfl) rfl (Nat.le_of_ble_eq_true rfl) dX4_get_3 (fun r1 w2 => ?_)
  refine e_if_eq G (pc := 6) (tgt := 23) dX4_get_6 (by decide) ?_ ?_
  · refine e_iconst G (pc := 23) (v := 0) dX4_get_23 (by decide) ?_
    exact e_iret dX4_get_24
  · refine e_aload_n G (pc := 9) dX4_get_9 rfl rfl ?_
    refine e_getF G (pc := 10) sh_1 rfl lk_X4_11 dX4_get_10 ?_
    refine e_bipush G (pc := 13) (v := 8) dX4_get_13 (by decide) ?_
    refine e_iload_n G (pc := 15) dX4_get_15 rfl rfl ?_
    refine e_imul G (pc := 16) dX4_get_16 ?_
    refine e_iload_n G (pc := 17) dX4_get_17 rfl rfl ?_
    refine e_iadd G (pc := 18) dX4_get_18 ?_
    refine e_iald G (pc := 19) sh_2 dX4_get_19 (fun v3 => ?_)
    refine e_goto G (pc := 20) (tgt := 24) dX4_get_20 (by decide) ?_
    exact e_iret dX4_get_24
set_option maxRecDepth 100000 in
set_option maxHeartbeats 4000000 in
theorem c_X4_get (w : qW) (a1 : Int32) (a2 : Int32) : q_AC q_vi (some .int) (3) yX4_get cX4_get 3 [.ref 1, .int a1, .int a2] w (f_X4_get w a1 a2) := q_met_i (k := 0) (by decide +kernel) rfl rfl rfl (fun _ _ G => t_X4_get G w a1 a2 )
set_option maxRecDepth 100000 in
set_option maxHeartbeats 4000000 in
theorem t_X4_payOf_B29 {E : qE} {Γ : qC} (G : q_Ok E Γ RX4 cX4_payOf 4 (4)) (k4 : qW → Int32 → Int32 → Int32 → Option (Int32 × qW)) (hk4 : ∀ (w : qW) (l1 : Int32) (l2 : Int32) (l3 : Int32), q_Ev E Γ 4 (q_Fi E Γ cX4_payOf) 4 [some (.ref 1), some (.int l1), some (.int l2), some (.int l3)] [] w (k4 w l1 l2 l3)) (w : qW) (l1 : Int32) (l2 : Int32) (l3 : Int32) : q_Ev E Γ 4 (q_Fi E Γ cX4_payOf) 29 [some (.ref 1), some (.int l1), some (.int l2), some (.int l3)] [] w (f_X4_payOf_B29 k4 w l1 l2 l3) := by
  unfold f_X4_payOf_B29
  refine e_iinc G (pc := 29) (x := l3) (v := l3 + 1) (L' := fun v1 => [some (.ref 1), some (.int l1), some (.int l2), some (.int v1)]) dX4_payOf_29 (Nat.le_of_ble_eq_true rfl) rfl (by rfl) (fun _ => rfl) (fun v1 => ?_)
  refine e_goto G (pc := 32) (tgt := 4) dX4_payOf_32 (by decide) ?_
  exact hk4 w l1 l2 v1 
set_option maxRecDepth 100000 in
set_option maxHeartbeats 4000000 in
theorem t_X4_payOf_B4 {E : qE} {Γ : qC} (G : q_Ok E Γ RX4 cX4_payOf 4 (4)) (k4 : qW → Int32 → Int32 → Int32 → Option (Int32 × qW)) (hk4 : ∀ (w : qW) (l1 : Int32) (l2 : Int32) (l3 : Int32), q_Ev E Γ 4 (q_Fi E Γ cX4_payOf) 4 [some (.ref 1), some (.int l1), some (.int l2), some (.int l3)] [] w (k4 w l1 l2 l3)) (w : qW) (l1 : Int32) (l2 : Int32) (l3 : Int32) : q_Ev E Γ 4 (q_Fi E Γ cX4_payOf) 4 [some (.ref 1), some (.int l1), some (.int l2), some (.int l3)] [] w (f_X4_payOf_B4 k4 w l1 l2 l3) := by
  unfold f_X4_payOf_B4
  refine e_iload_n G (pc := 4) dX4_payOf_4 rfl rfl ?_
  refine e_aload_n G (pc := 5) dX4_payOf_5 rfl rfl ?_
  refine e_getI G (pc := 6) sh_1 rfl lk_X4_15 dX4_payOf_6 ?_
  refine e_icmp_ge G (pc := 9) (tgt := 35) dX4_payOf_9 (by decide) ?_ ?_
  · refine e_iload_n G (pc := 35) dX4_payOf_35 rfl rfl ?_
    exact e_iret dX4_payOf_36
  · refine e_iload_n G (pc := 12) dX4_payOf_12 rfl rfl ?_
    refine e_iload_n G (pc := 13) dX4_payOf_13 rfl rfl ?_
    refine e_ishr G (pc := 14) dX4_payOf_14 ?_
    refine e_iconst G (pc := 15) (v := 1) dX4_payOf_15 (by decide) ?_
    refine e_iand G (pc := 16) dX4_payOf_16 ?_
    refine e_if_eq G (pc := 17) (tgt := 29) dX4_payOf_17 (by decide) ?_ ?_
    · exact t_X4_payOf_B29 G k4 hk4 w l1 l2 l3 
    · refine e_iload_n G (pc := 20) dX4_payOf_20 rfl rfl ?_
      refine e_aload_n G (pc := 21) dX4_payOf_21 rfl rfl ?_
      refine e_iload_n G (pc := 22) dX4_payOf_22 rfl rfl ?_
      refine e_iconst G (pc := 23) (v := 3) dX4_payOf_23 (by decide) ?_
      refine e_cVi G (pc := 24) (As := [.int l3, .int 3]) (st := [.int l2]) cv_X4_36 (c_X4_get w l3 3 ) sh_1 (Nat.le_of_ble_eq_true rfl) rfl (Nat.le_of_ble_eq_true rfl) dX4_payOf_24 (fun r1 w2 => ?_)
      refine e_iadd G (pc := 27) dX4_payOf_27 ?_
      refine e_ti (fun v3 => ?_)
      refine e_istore_n G (pc := 28) (L' := [some (.ref 1), some (.int l1), some (.int v3), some (.int l3)]) dX4_payOf_28 rfl (Nat.le_of_ble_eq_true rfl) rfl ?_
      exact t_X4_payOf_B29 G k4 hk4 w2 l1 v3 l3 
set_option maxRecDepth 100000 in
set_option maxHeartbeats 4000000 in
theorem t_X4_payOf_R4 {E : qE} {Γ : qC} (G : q_Ok E Γ RX4 cX4_payOf 4 (4)) : ∀ (fuel : Nat) (w : qW) (l1 : Int32) (l2 : Int32) (l3 : Int32) , q_Ev E Γ 4 (q_Fi E Γ cX4_payOf) 4 [some (.ref 1), some (.int l1), some (.int l2), some (.int l3)] [] w (f_X4_payOf_R4 fuel w l1 l2 l3) := by
  intro fuel
  induction fuel with
  | zero => intros; exact e_none
  | succ fuel ih =>
    intro w l1 l2 l3 
    exact t_X4_payOf_B4 G _ ih w l1 l2 l3 
set_option maxRecDepth 100000 in
set_option maxHeartbeats 4000000 in
theorem t_X4_payOf {E : qE} {Γ : qC} (G : q_Ok E Γ RX4 cX4_payOf 4 (4)) (w : qW) (a1 : Int32) : q_Ev E Γ 4 (q_Fi E Γ cX4_payOf) 0 [some (.ref 1), some (.int a1), none, none] [] w (f_X4_payOf w a1) := by
  unfold f_X4_payOf
  refine e_iconst G (pc := 0) (v := 0) dX4_payOf_0 (by decide) ?_
  refine e_istore_n G (pc := 1) (L' := [some (.ref 1), some (.int a1), some (.int 0), none]) dX4_payOf_1 rfl (Nat.le_of_ble_eq_true rfl) rfl ?_
  refine e_iconst G (pc := 2) (v := 0) dX4_payOf_2 (by decide) ?_
  refine e_istore_n G (pc := 3) (L' := [some (.ref 1), some (.int a1), some (.int 0), some (.int 0)]) dX4_payOf_3 rfl (Nat.le_of_ble_eq_true rfl) rfl ?_
  exact t_X4_payOf_R4 G  q_fuel w a1 0 0 
set_option maxRecDepth 100000 in
set_option maxHeartbeats 4000000 in
theorem c_X4_payOf (w : qW) (a1 : Int32) : q_AC q_vi (some .int) (4) yX4_payOf cX4_payOf 4 [.ref 1, .int a1] w (f_X4_payOf w a1) := q_met_i (k := 2) (by decide +kernel) rfl rfl rfl (fun _ _ G => t_X4_payOf G w a1 )
set_option maxRecDepth 100000 in
set_option maxHeartbeats 4000000 in
theorem t_X4_everyone {E : qE} {Γ : qC} (G : q_Ok E Γ RX4 cX4_everyone 1 (2)) (w : qW) : q_Ev E Γ 1 (q_Fi E Γ cX4_everyone) 0 [some (.ref 1)] [] w (f_X4_everyone w ) := by
  unfold f_X4_everyone
  refine e_iconst G (pc := 0) (v := 1) dX4_everyone_0 (by decide) ?_
  refine e_aload_n G (pc := 1) dX4_everyone_1 rfl rfl ?_
  refine e_getI G (pc := 2) sh_1 rfl lk_X4_15 dX4_everyone_2 ?_
  refine e_ishl G (pc := 5) dX4_everyone_5 ?_
  refine e_iconst G (pc := 6) (v := 1) dX4_everyone_6 (by decide) ?_
  refine e_isub G (pc := 7) dX4_everyone_7 ?_
  exact e_iret dX4_everyone_8
set_option maxRecDepth 100000 in
set_option maxHeartbeats 4000000 in
theorem c_X4_everyone (w : qW) : q_AC q_vi (some .int) (2) yX4_everyone cX4_everyone 1 [.ref 1] w (f_X4_everyone w ) := q_met_i (k := 0) (by decide +kernel) rfl rfl rfl (fun _ _ G => t_X4_everyone G w  )
set_option maxRecDepth 100000 in
set_option maxHeartbeats 4000000 in
theorem t_X6_holdTree {E : qE} {Γ : qC} (G : q_Ok E Γ RX6 cX6_holdTree 2 (2)) (w : qW) (id0 : Nat) (a1 : Int32) (hs0 : q_shelf id0) : q_Ev E Γ 2 (q_Fv E Γ cX6_holdTree) 0 [some (.ref id0), some (.int a1)] [] w (f_X6_holdTree w id0 a1) := by
  unfold f_X6_holdTree
  refine e_aload_n G (pc := 0) dX6_holdTree_0 rfl rfl ?_
  refine e_iload_n G (pc := 1) dX6_holdTree_1 rfl rfl ?_
  refine e_putI G (pc := 2) hs0.1 rfl lp_X6_11 rfl rfl dX6_holdTree_2 (fun w1 => ?_)
  refine e_aload_n G (pc := 5) dX6_holdTree_5 rfl rfl ?_
  refine e_iconst G (pc := 6) (v := (-1)) dX6_holdTree_6 (by decide) ?_
  refine e_putI G (pc := 7) hs0.1 rfl lp_X6_15 rfl rfl dX6_holdTree_7 (fun w2 => ?_)
  refine e_aload_n G (pc := 10) dX6_holdTree_10 rfl rfl ?_
  refine e_iconst G (pc := 11) (v := 0) dX6_holdTree_11 (by decide) ?_
  refine e_putI G (pc := 12) hs0.1 rfl lp_X6_22 rfl rfl dX6_holdTree_12 (fun w3 => ?_)
  exact e_vret dX6_holdTree_15
set_option maxRecDepth 100000 in
set_option maxHeartbeats 4000000 in
theorem c_X6_holdTree (w : qW) (id0 : Nat) (a1 : Int32) (hs0 : q_shelf id0) : q_AC q_vv none (2) yX6_holdTree cX6_holdTree 2 [.ref id0, .int a1] w (f_X6_holdTree w id0 a1) := q_met_v (k := 0) (by decide +kernel) rfl rfl rfl (fun _ _ G => t_X6_holdTree G w id0 a1 hs0)
set_option maxRecDepth 100000 in
set_option maxHeartbeats 4000000 in
theorem t_X6_holdRow {E : qE} {Γ : qC} (G : q_Ok E Γ RX6 cX6_holdRow 3 (3)) (w : qW) (id0 : Nat) (a1 : Int32) (a2 : Int32) (hs0 : q_shelf id0) : q_Ev E Γ 3 (q_Fv E Γ cX6_holdRow) 0 [some (.ref id0), some (.int a1), some (.int a2)] [] w (f_X6_holdRow w id0 a1 a2) := by
  unfold f_X6_holdRow
  refine e_aload_n G (pc := 0) dX6_holdRow_0 rfl rfl ?_
  refine e_iconst G (pc := 1) (v := (-1)) dX6_holdRow_1 (by decide) ?_
  refine e_putI G (pc := 2) hs0.1 rfl lp_X6_11 rfl rfl dX6_holdRow_2 (fun w1 => ?_)
  refine e_aload_n G (pc := 5) dX6_holdRow_5 rfl rfl ?_
  refine e_iload_n G (pc := 6) dX6_holdRow_6 rfl rfl ?_
  refine e_putI G (pc := 7) hs0.1 rfl lp_X6_15 rfl rfl dX6_holdRow_7 (fun w2 => ?_)
  refine e_aload_n G (pc := 10) dX6_holdRow_10 rfl rfl ?_
  refine e_iconst G (pc := 11) (v := 0) dX6_holdRow_11 (by decide) ?_
  refine e_bipush G (pc := 12) (v := 60) dX6_holdRow_12 (by decide) ?_
  refine e_iload_n G (pc := 14) dX6_holdRow_14 rfl rfl ?_
  refine e_mmin G (pc := 15) mt_X6_25 (Nat.le_of_ble_eq_true rfl) (Nat.le_of_ble_eq_true rfl) dX6_holdRow_15 ?_
  refine e_ti (fun v3 => ?_)
  refine e_mmax G (pc := 18) mt_X6_31 (Nat.le_of_ble_eq_true rfl) (Nat.le_of_ble_eq_true rfl) dX6_holdRow_18 ?_
  refine e_ti (fun v4 => ?_)
  refine e_putI G (pc := 21) hs0.1 rfl lp_X6_22 rfl rfl dX6_holdRow_21 (fun w5 => ?_)
  refine e_aload_n G (pc := 24) dX6_holdRow_24 rfl rfl ?_
  refine e_getF G (pc := 25) hs0.1 rfl lk_X6_18 dX6_holdRow_25 ?_
  refine e_lconst G (pc := 28) (v := 0) dX6_holdRow_28 (by decide) ?_
  refine e_cSv G (pc := 29) (ci := 0) (id := 0) (sl := []) (As := [.ref (id0 + 1), .long 0]) (st := []) cs_X6_34 (c_J7_fill_d0a16 60 w5 (id0 + 1) 0 hs0.2) (Nat.le_of_ble_eq_true rfl) rfl (Nat.le_of_ble_eq_true rfl) dX6_holdRow_29 (fun r6 w7 => ?_)
  exact e_vret dX6_holdRow_32
set_option maxRecDepth 100000 in
set_option maxHeartbeats 4000000 in
theorem c_X6_holdRow (w : qW) (id0 : Nat) (a1 : Int32) (a2 : Int32) (hs0 : q_shelf id0) : q_AC q_vv none (3) yX6_holdRow cX6_holdRow 3 [.ref id0, .int a1, .int a2] w (f_X6_holdRow w id0 a1 a2) := q_met_v (k := 0) (by decide +kernel) rfl rfl rfl (fun _ _ G => t_X6_holdRow G w id0 a1 a2 hs0)
set_option maxRecDepth 100000 in
set_option maxHeartbeats 4000000 in
theorem t_X6_isEmpty {E : qE} {Γ : qC} (G : q_Ok E Γ RX6 cX6_isEmpty 1 (2)) (w : qW) (id0 : Nat) (hs0 : q_shelf id0) : q_Ev E Γ 1 (q_Fz E Γ cX6_isEmpty) 0 [some (.ref id0)] [] w (f_X6_isEmpty w id0) := by
  unfold f_X6_isEmpty
  refine e_aload_n G (pc := 0) dX6_isEmpty_0 rfl rfl ?_
  refine e_getI G (pc := 1) hs0.1 rfl lk_X6_11 dX6_isEmpty_1 ?_
  refine e_iconst G (pc := 4) (v := (-1)) dX6_isEmpty_4 (by decide) ?_
  refine e_icmp_ne G (pc := 5) (tgt := 20) dX6_isEmpty_5 (by decide) ?_ ?_
  · refine e_iconst G (pc := 20) (v := 0) dX6_isEmpty_20 (by decide) ?_
    exact e_zret dX6_isEmpty_21
  · refine e_aload_n G (pc := 8) dX6_isEmpty_8 rfl rfl ?_
    refine e_getI G (pc := 9) hs0.1 rfl lk_X6_15 dX6_isEmpty_9 ?_
    refine e_iconst G (pc := 12) (v := (-1)) dX6_isEmpty_12 (by decide) ?_
    refine e_icmp_ne G (pc := 13) (tgt := 20) dX6_isEmpty_13 (by decide) ?_ ?_
    · refine e_iconst G (pc := 20) (v := 0) dX6_isEmpty_20 (by decide) ?_
      exact e_zret dX6_isEmpty_21
    · refine e_iconst G (pc := 16) (v := 1) dX6_isEmpty_16 (by decide) ?_
      refine e_goto G (pc := 17) (tgt := 21) dX6_isEmpty_17 (by decide) ?_
      exact e_zret dX6_isEmpty_21
set_option maxRecDepth 100000 in
set_option maxHeartbeats 4000000 in
theorem c_X6_isEmpty (w : qW) (id0 : Nat) (hs0 : q_shelf id0) : q_AC q_vi (some .boolean) (2) yX6_isEmpty cX6_isEmpty 1 [.ref id0] w (f_X6_isEmpty w id0) := q_met_z (k := 0) (by decide +kernel) rfl rfl rfl (fun _ _ G => t_X6_isEmpty G w id0 hs0)
set_option maxRecDepth 100000 in
set_option maxHeartbeats 4000000 in
theorem t_X6_isRowOf {E : qE} {Γ : qC} (G : q_Ok E Γ RX6 cX6_isRowOf 2 (2)) (w : qW) (id0 : Nat) (a1 : Int32) (hs0 : q_shelf id0) : q_Ev E Γ 2 (q_Fz E Γ cX6_isRowOf) 0 [some (.ref id0), some (.int a1)] [] w (f_X6_isRowOf w id0 a1) := by
  unfold f_X6_isRowOf
  refine e_aload_n G (pc := 0) dX6_isRowOf_0 rfl rfl ?_
  refine e_getI G (pc := 1) hs0.1 rfl lk_X6_15 dX6_isRowOf_1 ?_
  refine e_iload_n G (pc := 4) dX6_isRowOf_4 rfl rfl ?_
  refine e_icmp_ne G (pc := 5) (tgt := 12) dX6_isRowOf_5 (by decide) ?_ ?_
  · refine e_iconst G (pc := 12) (v := 0) dX6_isRowOf_12 (by decide) ?_
    exact e_zret dX6_isRowOf_13
  · refine e_iconst G (pc := 8) (v := 1) dX6_isRowOf_8 (by decide) ?_
    refine e_goto G (pc := 9) (tgt := 13) dX6_isRowOf_9 (by decide) ?_
    exact e_zret dX6_isRowOf_13
set_option maxRecDepth 100000 in
set_option maxHeartbeats 4000000 in
theorem c_X6_isRowOf (w : qW) (id0 : Nat) (a1 : Int32) (hs0 : q_shelf id0) : q_AC q_vi (some .boolean) (2) yX6_isRowOf cX6_isRowOf 2 [.ref id0, .int a1] w (f_X6_isRowOf w id0 a1) := q_met_z (k := 0) (by decide +kernel) rfl rfl rfl (fun _ _ G => t_X6_isRowOf G w id0 a1 hs0)
set_option maxRecDepth 100000 in
set_option maxHeartbeats 4000000 in
theorem t_X6_tree {E : qE} {Γ : qC} (G : q_Ok E Γ RX6 cX6_tree 1 (2)) (w : qW) (id0 : Nat) (hs0 : q_shelf id0) : q_Ev E Γ 1 (q_Fi E Γ cX6_tree) 0 [some (.ref id0)] [] w (f_X6_tree w id0) := by
  unfold f_X6_tree
  refine e_aload_n G (pc := 0) dX6_tree_0 rfl rfl ?_
  refine e_getI G (pc := 1) hs0.1 rfl lk_X6_11 dX6_tree_1 ?_
  exact e_iret dX6_tree_4
set_option maxRecDepth 100000 in
set_option maxHeartbeats 4000000 in
theorem c_X6_tree (w : qW) (id0 : Nat) (hs0 : q_shelf id0) : q_AC q_vi (some .int) (2) yX6_tree cX6_tree 1 [.ref id0] w (f_X6_tree w id0) := q_met_i (k := 0) (by decide +kernel) rfl rfl rfl (fun _ _ G => t_X6_tree G w id0 hs0)
set_option maxRecDepth 100000 in
set_option maxHeartbeats 4000000 in
theorem t_X6_size {E : qE} {Γ : qC} (G : q_Ok E Γ RX6 cX6_size 1 (2)) (w : qW) (id0 : Nat) (hs0 : q_shelf id0) : q_Ev E Γ 1 (q_Fi E Γ cX6_size) 0 [some (.ref id0)] [] w (f_X6_size w id0) := by
  unfold f_X6_size
  refine e_aload_n G (pc := 0) dX6_size_0 rfl rfl ?_
  refine e_getI G (pc := 1) hs0.1 rfl lk_X6_22 dX6_size_1 ?_
  exact e_iret dX6_size_4
set_option maxRecDepth 100000 in
set_option maxHeartbeats 4000000 in
theorem c_X6_size (w : qW) (id0 : Nat) (hs0 : q_shelf id0) : q_AC q_vi (some .int) (2) yX6_size cX6_size 1 [.ref id0] w (f_X6_size w id0) := q_met_i (k := 0) (by decide +kernel) rfl rfl rfl (fun _ _ G => t_X6_size G w id0 hs0)
set_option maxRecDepth 100000 in
set_option maxHeartbeats 4000000 in
theorem t_X6_refusalAs {E : qE} {Γ : qC} (G : q_Ok E Γ RX6 cX6_refusalAs 2 (3)) (w : qW) (id0 : Nat) (a1 : Int32) (hs0 : q_shelf id0) : q_Ev E Γ 2 (q_Fi E Γ cX6_refusalAs) 0 [some (.ref id0), some (.int a1)] [] w (f_X6_refusalAs w id0 a1) := by
  unfold f_X6_refusalAs
  refine e_aload_n G (pc := 0) dX6_refusalAs_0 rfl rfl ?_
  refine e_cVi G (pc := 1) (As := []) (st := []) cv_X6_40 (c_X6_isEmpty w id0 hs0) hs0.1 (Nat.le_of_ble_eq_true rfl) rfl (Nat.le_of_ble_eq_true rfl) dX6_refusalAs_1 (fun r1 w2 => ?_)
  refine e_if_eq G (pc := 4) (tgt := 12) dX6_refusalAs_4 (by decide) ?_ ?_
  · refine e_aload_n G (pc := 12) dX6_refusalAs_12 rfl rfl ?_
    refine e_iload_n G (pc := 13) dX6_refusalAs_13 rfl rfl ?_
    refine e_cVi G (pc := 14) (As := [.int a1]) (st := []) cv_X6_44 (c_X6_isRowOf w2 id0 a1 hs0) hs0.1 (Nat.le_of_ble_eq_true rfl) rfl (Nat.le_of_ble_eq_true rfl) dX6_refusalAs_14 (fun r3 w4 => ?_)
    refine e_if_eq G (pc := 17) (tgt := 24) dX6_refusalAs_17 (by decide) ?_ ?_
    · refine e_bipush G (pc := 24) (v := (-12)) dX6_refusalAs_24 (by decide) ?_
      exact e_iret dX6_refusalAs_26
    · refine e_iconst G (pc := 20) (v := 0) dX6_refusalAs_20 (by decide) ?_
      refine e_goto G (pc := 21) (tgt := 26) dX6_refusalAs_21 (by decide) ?_
      exact e_iret dX6_refusalAs_26
  · refine e_bipush G (pc := 7) (v := (-11)) dX6_refusalAs_7 (by decide) ?_
    refine e_goto G (pc := 9) (tgt := 26) dX6_refusalAs_9 (by decide) ?_
    exact e_iret dX6_refusalAs_26
set_option maxRecDepth 100000 in
set_option maxHeartbeats 4000000 in
theorem c_X6_refusalAs (w : qW) (id0 : Nat) (a1 : Int32) (hs0 : q_shelf id0) : q_AC q_vi (some .int) (3) yX6_refusalAs cX6_refusalAs 2 [.ref id0, .int a1] w (f_X6_refusalAs w id0 a1) := q_met_i (k := 0) (by decide +kernel) rfl rfl rfl (fun _ _ G => t_X6_refusalAs G w id0 a1 hs0)
set_option maxRecDepth 100000 in
set_option maxHeartbeats 4000000 in
theorem t_X6_refusalAt_B33 {E : qE} {Γ : qC} (G : q_Ok E Γ RX6 cX6_refusalAt 2 (3)) (id0 : Nat) (hs0 : q_shelf id0) (w : qW) : q_Ev E Γ 2 (q_Fi E Γ cX6_refusalAt) 33 [none, none] [] w (f_X6_refusalAt_B33 id0 w ) := by
  unfold f_X6_refusalAt_B33
  refine e_bipush G (pc := 33) (v := (-13)) dX6_refusalAt_33 (by decide) ?_
  refine e_goto G (pc := 35) (tgt := 39) dX6_refusalAt_35 (by decide) ?_
  exact e_iret dX6_refusalAt_39
set_option maxRecDepth 100000 in
set_option maxHeartbeats 4000000 in
theorem t_X6_refusalAt {E : qE} {Γ : qC} (G : q_Ok E Γ RX6 cX6_refusalAt 2 (3)) (w : qW) (id0 : Nat) (a1 : Int32) (hs0 : q_shelf id0) : q_Ev E Γ 2 (q_Fi E Γ cX6_refusalAt) 0 [some (.ref id0), some (.int a1)] [] w (f_X6_refusalAt w id0 a1) := by
  unfold f_X6_refusalAt
  refine e_aload_n G (pc := 0) dX6_refusalAt_0 rfl rfl ?_
  refine e_cVi G (pc := 1) (As := []) (st := []) cv_X6_40 (c_X6_isEmpty w id0 hs0) hs0.1 (Nat.le_of_ble_eq_true rfl) rfl (Nat.le_of_ble_eq_true rfl) dX6_refusalAt_1 (fun r1 w2 => ?_)
  refine e_if_eq G (pc := 4) (tgt := 10) dX6_refusalAt_4 (by decide) ?_ ?_
  · refine e_aload_n G (pc := 10) dX6_refusalAt_10 rfl rfl ?_
    refine e_getI G (pc := 11) hs0.1 rfl lk_X6_15 dX6_refusalAt_11 ?_
    refine e_iconst G (pc := 14) (v := (-1)) dX6_refusalAt_14 (by decide) ?_
    refine e_icmp_ne G (pc := 15) (tgt := 21) dX6_refusalAt_15 (by decide) ?_ ?_
    · refine e_iload_n G (pc := 21) dX6_refusalAt_21 rfl rfl ?_
      refine e_if_lt G (pc := 22) (tgt := 33) dX6_refusalAt_22 (by decide) ?_ ?_
      · refine e_wk (L' := [none, none]) (trivial) ?_
        exact t_X6_refusalAt_B33 G id0 hs0 w2  
      · refine e_iload_n G (pc := 25) dX6_refusalAt_25 rfl rfl ?_
        refine e_aload_n G (pc := 26) dX6_refusalAt_26 rfl rfl ?_
        refine e_getI G (pc := 27) hs0.1 rfl lk_X6_22 dX6_refusalAt_27 ?_
        refine e_icmp_lt G (pc := 30) (tgt := 38) dX6_refusalAt_30 (by decide) ?_ ?_
        · refine e_iconst G (pc := 38) (v := 0) dX6_refusalAt_38 (by decide) ?_
          exact e_iret dX6_refusalAt_39
        · refine e_wk (L' := [none, none]) (trivial) ?_
          exact t_X6_refusalAt_B33 G id0 hs0 w2  
    · refine e_bipush G (pc := 18) (v := (-12)) dX6_refusalAt_18 (by decide) ?_
      exact e_iret dX6_refusalAt_20
  · refine e_bipush G (pc := 7) (v := (-11)) dX6_refusalAt_7 (by decide) ?_
    exact e_iret dX6_refusalAt_9
set_option maxRecDepth 100000 in
set_option maxHeartbeats 4000000 in
theorem c_X6_refusalAt (w : qW) (id0 : Nat) (a1 : Int32) (hs0 : q_shelf id0) : q_AC q_vi (some .int) (3) yX6_refusalAt cX6_refusalAt 2 [.ref id0, .int a1] w (f_X6_refusalAt w id0 a1) := q_met_i (k := 0) (by decide +kernel) rfl rfl rfl (fun _ _ G => t_X6_refusalAt G w id0 a1 hs0)
set_option maxRecDepth 100000 in
set_option maxHeartbeats 4000000 in
theorem t_X6_get {E : qE} {Γ : qC} (G : q_Ok E Γ RX6 cX6_get 2 (2)) (w : qW) (id0 : Nat) (a1 : Int32) (hs0 : q_shelf id0) : q_Ev E Γ 2 (q_Fl E Γ cX6_get) 0 [some (.ref id0), some (.int a1)] [] w (f_X6_get w id0 a1) := by
  unfold f_X6_get
  refine e_iload_n G (pc := 0) dX6_get_0 rfl rfl ?_
  refine e_if_lt G (pc := 1) (tgt := 21) dX6_get_1 (by decide) ?_ ?_
  · refine e_lconst G (pc := 21) (v := 0) dX6_get_21 (by decide) ?_
    exact e_lret dX6_get_22
  · refine e_iload_n G (pc := 4) dX6_get_4 rfl rfl ?_
    refine e_aload_n G (pc := 5) dX6_get_5 rfl rfl ?_
    refine e_getI G (pc := 6) hs0.1 rfl lk_X6_22 dX6_get_6 ?_
    refine e_icmp_ge G (pc := 9) (tgt := 21) dX6_get_9 (by decide) ?_ ?_
    · refine e_lconst G (pc := 21) (v := 0) dX6_get_21 (by decide) ?_
      exact e_lret dX6_get_22
    · refine e_aload_n G (pc := 12) dX6_get_12 rfl rfl ?_
      refine e_getF G (pc := 13) hs0.1 rfl lk_X6_18 dX6_get_13 ?_
      refine e_iload_n G (pc := 16) dX6_get_16 rfl rfl ?_
      refine e_lald G (pc := 17) hs0.2 dX6_get_17 (fun v1 => ?_)
      refine e_goto G (pc := 18) (tgt := 22) dX6_get_18 (by decide) ?_
      exact e_lret dX6_get_22
set_option maxRecDepth 100000 in
set_option maxHeartbeats 4000000 in
theorem c_X6_get (w : qW) (id0 : Nat) (a1 : Int32) (hs0 : q_shelf id0) : q_AC q_vl (some .long) (2) yX6_get cX6_get 2 [.ref id0, .int a1] w (f_X6_get w id0 a1) := q_met_l (k := 0) (by decide +kernel) rfl rfl rfl (fun _ _ G => t_X6_get G w id0 a1 hs0)
set_option maxRecDepth 100000 in
set_option maxHeartbeats 4000000 in
theorem t_X6_narrowed {E : qE} {Γ : qC} (G : q_Ok E Γ RX6 cX6_narrowed 3 (2)) (w : qW) (id0 : Nat) (a1 : Int64) (hs0 : q_shelf id0) : q_Ev E Γ 3 (q_Fl E Γ cX6_narrowed) 0 [some (.ref id0), some (.long a1), none] [] w (f_X6_narrowed w id0 a1) := by
  unfold f_X6_narrowed
  refine e_aload_n G (pc := 0) dX6_narrowed_0 rfl rfl ?_
  refine e_getI G (pc := 1) hs0.1 rfl lk_X6_15 dX6_narrowed_1 ?_
  refine e_ti (fun v1 => ?_)
  refine e_ite (fun h2 => ?_) (fun h2 => ?_)
  · refine e_tsIn G (pc := 4) (off := 32) (tgt := 36) dX6_narrowed_4 (by rw [h2]; decide) (by rw [h2]; decide) (by rw [h2]; rfl) (by decide) ?_
    refine e_lload_n G (pc := 36) dX6_narrowed_36 rfl rfl ?_
    refine e_l2i G (pc := 37) dX6_narrowed_37 ?_
    refine e_i2b G (pc := 38) dX6_narrowed_38 ?_
    refine e_i2l G (pc := 39) dX6_narrowed_39 ?_
    exact e_lret dX6_narrowed_40
  refine e_ite (fun h3 => ?_) (fun h3 => ?_)
  · refine e_tsIn G (pc := 4) (off := 37) (tgt := 41) dX6_narrowed_4 (by rw [h3]; decide) (by rw [h3]; decide) (by rw [h3]; rfl) (by decide) ?_
    refine e_lload_n G (pc := 41) dX6_narrowed_41 rfl rfl ?_
    refine e_l2i G (pc := 42) dX6_narrowed_42 ?_
    refine e_i2s G (pc := 43) dX6_narrowed_43 ?_
    refine e_i2l G (pc := 44) dX6_narrowed_44 ?_
    exact e_lret dX6_narrowed_45
  refine e_ite (fun h4 => ?_) (fun h4 => ?_)
  · refine e_tsIn G (pc := 4) (off := 42) (tgt := 46) dX6_narrowed_4 (by rw [h4]; decide) (by rw [h4]; decide) (by rw [h4]; rfl) (by decide) ?_
    refine e_lload_n G (pc := 46) dX6_narrowed_46 rfl rfl ?_
    refine e_l2i G (pc := 47) dX6_narrowed_47 ?_
    refine e_i2l G (pc := 48) dX6_narrowed_48 ?_
    exact e_lret dX6_narrowed_49
  refine e_ite (fun h5 => ?_) (fun h5 => ?_)
  · refine e_tsIn G (pc := 4) (off := 46) (tgt := 50) dX6_narrowed_4 (by rw [h5]; decide) (by rw [h5]; decide) (by rw [h5]; rfl) (by decide) ?_
    refine e_lload_n G (pc := 50) dX6_narrowed_50 rfl rfl ?_
    exact e_lret dX6_narrowed_51
  have h2 := lv_neT h2 (show (0 : Int32).toInt = 0 by decide)
  have h3 := lv_neT h3 (show (1 : Int32).toInt = 1 by decide)
  have h4 := lv_neT h4 (show (2 : Int32).toInt = 2 by decide)
  have h5 := lv_neT h5 (show (3 : Int32).toInt = 3 by decide)
  refine e_tsOut G (pc := 4) (tgt := 52) dX6_narrowed_4 (by omega) (by decide) ?_
  refine e_lload_n G (pc := 52) dX6_narrowed_52 rfl rfl ?_
  refine e_lconst G (pc := 53) (v := 0) dX6_narrowed_53 (by decide) ?_
  refine e_lcmp G (pc := 54) dX6_narrowed_54 ?_
  refine e_if_eq G (pc := 55) (tgt := 62) dX6_narrowed_55 (by decide) ?_ ?_
  · refine e_lconst G (pc := 62) (v := 0) dX6_narrowed_62 (by decide) ?_
    exact e_lret dX6_narrowed_63
  · refine e_lconst G (pc := 58) (v := 1) dX6_narrowed_58 (by decide) ?_
    refine e_goto G (pc := 59) (tgt := 63) dX6_narrowed_59 (by decide) ?_
    exact e_lret dX6_narrowed_63
set_option maxRecDepth 100000 in
set_option maxHeartbeats 4000000 in
theorem c_X6_narrowed (w : qW) (id0 : Nat) (a1 : Int64) (hs0 : q_shelf id0) : q_AC q_vl (some .long) (2) yX6_narrowed cX6_narrowed 3 [.ref id0, .long a1] w (f_X6_narrowed w id0 a1) := q_met_l (k := 0) (by decide +kernel) rfl rfl rfl (fun _ _ G => t_X6_narrowed G w id0 a1 hs0)
set_option maxRecDepth 100000 in
set_option maxHeartbeats 4000000 in
theorem t_X6_set {E : qE} {Γ : qC} (G : q_Ok E Γ RX6 cX6_set 4 (3)) (w : qW) (id0 : Nat) (a1 : Int32) (a2 : Int64) (hs0 : q_shelf id0) : q_Ev E Γ 4 (q_Fv E Γ cX6_set) 0 [some (.ref id0), some (.int a1), some (.long a2), none] [] w (f_X6_set w id0 a1 a2) := by
  unfold f_X6_set
  refine e_iload_n G (pc := 0) dX6_set_0 rfl rfl ?_
  refine e_if_lt G (pc := 1) (tgt := 23) dX6_set_1 (by decide) ?_ ?_
  · exact e_vret dX6_set_23
  · refine e_iload_n G (pc := 4) dX6_set_4 rfl rfl ?_
    refine e_aload_n G (pc := 5) dX6_set_5 rfl rfl ?_
    refine e_getI G (pc := 6) hs0.1 rfl lk_X6_22 dX6_set_6 ?_
    refine e_icmp_ge G (pc := 9) (tgt := 23) dX6_set_9 (by decide) ?_ ?_
    · exact e_vret dX6_set_23
    · refine e_aload_n G (pc := 12) dX6_set_12 rfl rfl ?_
      refine e_getF G (pc := 13) hs0.1 rfl lk_X6_18 dX6_set_13 ?_
      refine e_iload_n G (pc := 16) dX6_set_16 rfl rfl ?_
      refine e_aload_n G (pc := 17) dX6_set_17 rfl rfl ?_
      refine e_lload_n G (pc := 18) dX6_set_18 rfl rfl ?_
      refine e_cVl G (pc := 19) (As := [.long a2]) (st := [.int a1, .ref (id0 + 1)]) cv_X6_48 (c_X6_narrowed w id0 a2 hs0) hs0.1 (Nat.le_of_ble_eq_true rfl) rfl (Nat.le_of_ble_eq_true rfl) dX6_set_19 (fun r1 w2 => ?_)
      refine e_last G (pc := 22) hs0.2 dX6_set_22 (fun w3 => ?_)
      exact e_vret dX6_set_23
set_option maxRecDepth 100000 in
set_option maxHeartbeats 4000000 in
theorem c_X6_set (w : qW) (id0 : Nat) (a1 : Int32) (a2 : Int64) (hs0 : q_shelf id0) : q_AC q_vv none (3) yX6_set cX6_set 4 [.ref id0, .int a1, .long a2] w (f_X6_set w id0 a1 a2) := q_met_v (k := 0) (by decide +kernel) rfl rfl rfl (fun _ _ G => t_X6_set G w id0 a1 a2 hs0)
set_option maxRecDepth 100000 in
set_option maxHeartbeats 4000000 in
theorem t_X6_copyTo {E : qE} {Γ : qC} (G : q_Ok E Γ RX6 cX6_copyTo 5 (3)) (w : qW) (id0 : Nat) (a1 : Int32) (id2 : Nat) (a3 : Int32) (a4 : Int32) (hs0 : q_shelf id0) (hs2 : q_shelf id2) : q_Ev E Γ 5 (q_Fi E Γ cX6_copyTo) 0 [some (.ref id0), some (.int a1), some (.ref id2), some (.int a3), some (.int a4)] [] w (f_X6_copyTo w id0 a1 id2 a3 a4) := by
  unfold f_X6_copyTo
  refine e_aload_n G (pc := 0) dX6_copyTo_0 rfl rfl ?_
  refine e_cVi G (pc := 1) (As := []) (st := []) cv_X6_40 (c_X6_isEmpty w id0 hs0) hs0.1 (Nat.le_of_ble_eq_true rfl) rfl (Nat.le_of_ble_eq_true rfl) dX6_copyTo_1 (fun r1 w2 => ?_)
  refine e_if_ne G (pc := 4) (tgt := 14) dX6_copyTo_4 (by decide) ?_ ?_
  · refine e_bipush G (pc := 14) (v := (-11)) dX6_copyTo_14 (by decide) ?_
    exact e_iret dX6_copyTo_16
  · refine e_aload_n G (pc := 7) dX6_copyTo_7 rfl rfl ?_
    refine e_cVi G (pc := 8) (As := []) (st := []) cv_X6_40 (c_X6_isEmpty w2 id2 hs2) hs2.1 (Nat.le_of_ble_eq_true rfl) rfl (Nat.le_of_ble_eq_true rfl) dX6_copyTo_8 (fun r3 w4 => ?_)
    refine e_if_eq G (pc := 11) (tgt := 17) dX6_copyTo_11 (by decide) ?_ ?_
    · refine e_aload_n G (pc := 17) dX6_copyTo_17 rfl rfl ?_
      refine e_getI G (pc := 18) hs0.1 rfl lk_X6_15 dX6_copyTo_18 ?_
      refine e_iconst G (pc := 21) (v := (-1)) dX6_copyTo_21 (by decide) ?_
      refine e_icmp_eq G (pc := 22) (tgt := 36) dX6_copyTo_22 (by decide) ?_ ?_
      · refine e_bipush G (pc := 36) (v := (-12)) dX6_copyTo_36 (by decide) ?_
        exact e_iret dX6_copyTo_38
      · refine e_aload_n G (pc := 25) dX6_copyTo_25 rfl rfl ?_
        refine e_getI G (pc := 26) hs0.1 rfl lk_X6_15 dX6_copyTo_26 ?_
        refine e_aload_n G (pc := 29) dX6_copyTo_29 rfl rfl ?_
        refine e_getI G (pc := 30) hs2.1 rfl lk_X6_15 dX6_copyTo_30 ?_
        refine e_icmp_eq G (pc := 33) (tgt := 39) dX6_copyTo_33 (by decide) ?_ ?_
        · refine e_iload_n G (pc := 39) dX6_copyTo_39 rfl rfl ?_
          refine e_if_lt G (pc := 40) (tgt := 74) dX6_copyTo_40 (by decide) ?_ ?_
          · refine e_bipush G (pc := 74) (v := (-13)) dX6_copyTo_74 (by decide) ?_
            exact e_iret dX6_copyTo_76
          · refine e_iload_n G (pc := 43) dX6_copyTo_43 rfl rfl ?_
            refine e_if_lt G (pc := 44) (tgt := 74) dX6_copyTo_44 (by decide) ?_ ?_
            · refine e_bipush G (pc := 74) (v := (-13)) dX6_copyTo_74 (by decide) ?_
              exact e_iret dX6_copyTo_76
            · refine e_iload G (pc := 47) dX6_copyTo_47 rfl ?_
              refine e_if_lt G (pc := 49) (tgt := 74) dX6_copyTo_49 (by decide) ?_ ?_
              · refine e_bipush G (pc := 74) (v := (-13)) dX6_copyTo_74 (by decide) ?_
                exact e_iret dX6_copyTo_76
              · refine e_iload_n G (pc := 52) dX6_copyTo_52 rfl rfl ?_
                refine e_aload_n G (pc := 53) dX6_copyTo_53 rfl rfl ?_
                refine e_getI G (pc := 54) hs0.1 rfl lk_X6_22 dX6_copyTo_54 ?_
                refine e_iload G (pc := 57) dX6_copyTo_57 rfl ?_
                refine e_isub G (pc := 59) dX6_copyTo_59 ?_
                refine e_icmp_gt G (pc := 60) (tgt := 74) dX6_copyTo_60 (by decide) ?_ ?_
                · refine e_bipush G (pc := 74) (v := (-13)) dX6_copyTo_74 (by decide) ?_
                  exact e_iret dX6_copyTo_76
                · refine e_iload_n G (pc := 63) dX6_copyTo_63 rfl rfl ?_
                  refine e_aload_n G (pc := 64) dX6_copyTo_64 rfl rfl ?_
                  refine e_getI G (pc := 65) hs2.1 rfl lk_X6_22 dX6_copyTo_65 ?_
                  refine e_iload G (pc := 68) dX6_copyTo_68 rfl ?_
                  refine e_isub G (pc := 70) dX6_copyTo_70 ?_
                  refine e_icmp_le G (pc := 71) (tgt := 77) dX6_copyTo_71 (by decide) ?_ ?_
                  · refine e_aload_n G (pc := 77) dX6_copyTo_77 rfl rfl ?_
                    refine e_getF G (pc := 78) hs0.1 rfl lk_X6_18 dX6_copyTo_78 ?_
                    refine e_iload_n G (pc := 81) dX6_copyTo_81 rfl rfl ?_
                    refine e_aload_n G (pc := 82) dX6_copyTo_82 rfl rfl ?_
                    refine e_getF G (pc := 83) hs2.1 rfl lk_X6_18 dX6_copyTo_83 ?_
                    refine e_iload_n G (pc := 86) dX6_copyTo_86 rfl rfl ?_
                    refine e_iload G (pc := 87) dX6_copyTo_87 rfl ?_
                    refine e_copyl G (pc := 89) cp_X6_52 hs0.2 hs2.2 (Nat.le_of_ble_eq_true rfl) (Nat.le_of_ble_eq_true rfl) dX6_copyTo_89 (fun w5 => ?_)
                    refine e_iload G (pc := 92) dX6_copyTo_92 rfl ?_
                    exact e_iret dX6_copyTo_94
                  · refine e_bipush G (pc := 74) (v := (-13)) dX6_copyTo_74 (by decide) ?_
                    exact e_iret dX6_copyTo_76
        · refine e_bipush G (pc := 36) (v := (-12)) dX6_copyTo_36 (by decide) ?_
          exact e_iret dX6_copyTo_38
    · refine e_bipush G (pc := 14) (v := (-11)) dX6_copyTo_14 (by decide) ?_
      exact e_iret dX6_copyTo_16
set_option maxRecDepth 100000 in
set_option maxHeartbeats 4000000 in
theorem c_X6_copyTo (w : qW) (id0 : Nat) (a1 : Int32) (id2 : Nat) (a3 : Int32) (a4 : Int32) (hs0 : q_shelf id0) (hs2 : q_shelf id2) : q_AC q_vi (some .int) (3) yX6_copyTo cX6_copyTo 5 [.ref id0, .int a1, .ref id2, .int a3, .int a4] w (f_X6_copyTo w id0 a1 id2 a3 a4) := q_met_i (k := 0) (by decide +kernel) rfl rfl rfl (fun _ _ G => t_X6_copyTo G w id0 a1 id2 a3 a4 hs0 hs2)
set_option maxRecDepth 100000 in
set_option maxHeartbeats 4000000 in
theorem t_X8_plant {E : qE} {Γ : qC} (G : q_Ok E Γ RX8 cX8_plant 2 (2)) (w : qW) (a1 : Int32) : q_Ev E Γ 2 (q_Fi E Γ cX8_plant) 0 [some (.ref 32), some (.int a1)] [] w (f_X8_plant w a1) := by
  unfold f_X8_plant
  refine e_aload_n G (pc := 0) dX8_plant_0 rfl rfl ?_
  refine e_getI G (pc := 1) sh_32 rfl lk_X8_18 dX8_plant_1 ?_
  refine e_bipush G (pc := 4) (v := 50) dX8_plant_4 (by decide) ?_
  refine e_icmp_lt G (pc := 6) (tgt := 12) dX8_plant_6 (by decide) ?_ ?_
  · refine e_aload_n G (pc := 12) dX8_plant_12 rfl rfl ?_
    refine e_getF G (pc := 13) sh_32 rfl lk_X8_11 dX8_plant_13 ?_
    refine e_aload_n G (pc := 16) dX8_plant_16 rfl rfl ?_
    refine e_getI G (pc := 17) sh_32 rfl lk_X8_18 dX8_plant_17 ?_
    refine e_iload_n G (pc := 20) dX8_plant_20 rfl rfl ?_
    refine e_iast G (pc := 21) sh_33 dX8_plant_21 (fun w1 => ?_)
    refine e_aload_n G (pc := 22) dX8_plant_22 rfl rfl ?_
    refine e_dup G (pc := 23) dX8_plant_23 rfl ?_
    refine e_getI G (pc := 24) sh_32 rfl lk_X8_18 dX8_plant_24 ?_
    refine e_iconst G (pc := 27) (v := 1) dX8_plant_27 (by decide) ?_
    refine e_iadd G (pc := 28) dX8_plant_28 ?_
    refine e_putI G (pc := 29) sh_32 rfl lp_X8_18 rfl rfl dX8_plant_29 (fun w2 => ?_)
    refine e_aload_n G (pc := 32) dX8_plant_32 rfl rfl ?_
    refine e_getI G (pc := 33) sh_32 rfl lk_X8_18 dX8_plant_33 ?_
    refine e_iconst G (pc := 36) (v := 1) dX8_plant_36 (by decide) ?_
    refine e_isub G (pc := 37) dX8_plant_37 ?_
    exact e_iret dX8_plant_38
  · refine e_bipush G (pc := 9) (v := (-3)) dX8_plant_9 (by decide) ?_
    exact e_iret dX8_plant_11
set_option maxRecDepth 100000 in
set_option maxHeartbeats 4000000 in
theorem c_X8_plant (w : qW) (a1 : Int32) : q_AC q_vi (some .int) (2) yX8_plant cX8_plant 2 [.ref 32, .int a1] w (f_X8_plant w a1) := q_met_i (k := 0) (by decide +kernel) rfl rfl rfl (fun _ _ G => t_X8_plant G w a1 )
set_option maxRecDepth 100000 in
set_option maxHeartbeats 4000000 in
theorem t_X8_kindOf {E : qE} {Γ : qC} (G : q_Ok E Γ RX8 cX8_kindOf 2 (2)) (w : qW) (a1 : Int32) : q_Ev E Γ 2 (q_Fi E Γ cX8_kindOf) 0 [some (.ref 32), some (.int a1)] [] w (f_X8_kindOf w a1) := by
  unfold f_X8_kindOf
  refine e_iload_n G (pc := 0) dX8_kindOf_0 rfl rfl ?_
  refine e_if_lt G (pc := 1) (tgt := 21) dX8_kindOf_1 (by decide) ?_ ?_
  · refine e_iconst G (pc := 21) (v := (-1)) dX8_kindOf_21 (by decide) ?_
    exact e_iret dX8_kindOf_22
  · refine e_iload_n G (pc := 4) dX8_kindOf_4 rfl rfl ?_
    refine e_aload_n G (pc := 5) dX8_kindOf_5 rfl rfl ?_
    refine e_getI G (pc := 6) sh_32 rfl lk_X8_18 dX8_kindOf_6 ?_
    refine e_icmp_ge G (pc := 9) (tgt := 21) dX8_kindOf_9 (by decide) ?_ ?_
    · refine e_iconst G (pc := 21) (v := (-1)) dX8_kindOf_21 (by decide) ?_
      exact e_iret dX8_kindOf_22
    · refine e_aload_n G (pc := 12) dX8_kindOf_12 rfl rfl ?_
      refine e_getF G (pc := 13) sh_32 rfl lk_X8_11 dX8_kindOf_13 ?_
      refine e_iload_n G (pc := 16) dX8_kindOf_16 rfl rfl ?_
      refine e_iald G (pc := 17) sh_33 dX8_kindOf_17 (fun v1 => ?_)
      refine e_goto G (pc := 18) (tgt := 22) dX8_kindOf_18 (by decide) ?_
      exact e_iret dX8_kindOf_22
set_option maxRecDepth 100000 in
set_option maxHeartbeats 4000000 in
theorem c_X8_kindOf (w : qW) (a1 : Int32) : q_AC q_vi (some .int) (2) yX8_kindOf cX8_kindOf 2 [.ref 32, .int a1] w (f_X8_kindOf w a1) := q_met_i (k := 0) (by decide +kernel) rfl rfl rfl (fun _ _ G => t_X8_kindOf G w a1 )
set_option maxRecDepth 100000 in
set_option maxHeartbeats 4000000 in
theorem t_X8_isUnder_B5 {E : qE} {Γ : qC} (G : q_Ok E Γ RX8 cX8_isUnder 5 (2)) (k5 : qW → Int32 → Int32 → Int32 → Option (Int32 × qW)) (hk5 : ∀ (w : qW) (l2 : Int32) (l3 : Int32) (l4 : Int32), q_Ev E Γ 5 (q_Fz E Γ cX8_isUnder) 5 [none, none, some (.int l2), some (.int l3), some (.int l4)] [] w (k5 w l2 l3 l4)) (w : qW) (l2 : Int32) (l3 : Int32) (l4 : Int32) : q_Ev E Γ 5 (q_Fz E Γ cX8_isUnder) 5 [none, none, some (.int l2), some (.int l3), some (.int l4)] [] w (f_X8_isUnder_B5 k5 w l2 l3 l4) := by
  unfold f_X8_isUnder_B5
  refine e_iload G (pc := 5) dX8_isUnder_5 rfl ?_
  refine e_gets G (pc := 7) (id := 104) rfl ls_X8_22 dX8_isUnder_7 ?_
  refine e_tlen G (pc := 10) (k := 4) rfl (by decide) dX8_isUnder_10 ?_
  refine e_icmp_ge G (pc := 11) (tgt := 45) dX8_isUnder_11 (by decide) ?_ ?_
  · refine e_iconst G (pc := 45) (v := 0) dX8_isUnder_45 (by decide) ?_
    exact e_zret dX8_isUnder_46
  · refine e_iload_n G (pc := 14) dX8_isUnder_14 rfl rfl ?_
    refine e_if_lt G (pc := 15) (tgt := 45) dX8_isUnder_15 (by decide) ?_ ?_
    · refine e_iconst G (pc := 45) (v := 0) dX8_isUnder_45 (by decide) ?_
      exact e_zret dX8_isUnder_46
    · refine e_iload_n G (pc := 18) dX8_isUnder_18 rfl rfl ?_
      refine e_gets G (pc := 19) (id := 104) rfl ls_X8_22 dX8_isUnder_19 ?_
      refine e_tlen G (pc := 22) (k := 4) rfl (by decide) dX8_isUnder_22 ?_
      refine e_icmp_ge G (pc := 23) (tgt := 45) dX8_isUnder_23 (by decide) ?_ ?_
      · refine e_iconst G (pc := 45) (v := 0) dX8_isUnder_45 (by decide) ?_
        exact e_zret dX8_isUnder_46
      · refine e_iload_n G (pc := 26) dX8_isUnder_26 rfl rfl ?_
        refine e_iload_n G (pc := 27) dX8_isUnder_27 rfl rfl ?_
        refine e_icmp_ne G (pc := 28) (tgt := 33) dX8_isUnder_28 (by decide) ?_ ?_
        · refine e_gets G (pc := 33) (id := 104) rfl ls_X8_22 dX8_isUnder_33 ?_
          refine e_iload_n G (pc := 36) dX8_isUnder_36 rfl rfl ?_
          refine e_tald G (pc := 37) (k := 4) rfl (by decide) dX8_isUnder_37 (fun v1 => ?_)
          refine e_istore_n G (pc := 38) (L' := [none, none, some (.int l2), some (.int v1), some (.int l4)]) dX8_isUnder_38 rfl (Nat.le_of_ble_eq_true rfl) rfl ?_
          refine e_iinc G (pc := 39) (x := l4) (v := l4 + 1) (L' := fun v2 => [none, none, some (.int l2), some (.int v1), some (.int v2)]) dX8_isUnder_39 (Nat.le_of_ble_eq_true rfl) rfl (by rfl) (fun _ => rfl) (fun v2 => ?_)
          refine e_goto G (pc := 42) (tgt := 5) dX8_isUnder_42 (by decide) ?_
          exact hk5 w l2 v1 v2 
        · refine e_iconst G (pc := 31) (v := 1) dX8_isUnder_31 (by decide) ?_
          exact e_zret dX8_isUnder_32
set_option maxRecDepth 100000 in
set_option maxHeartbeats 4000000 in
theorem t_X8_isUnder_R5 {E : qE} {Γ : qC} (G : q_Ok E Γ RX8 cX8_isUnder 5 (2)) : ∀ (fuel : Nat) (w : qW) (l2 : Int32) (l3 : Int32) (l4 : Int32) , q_Ev E Γ 5 (q_Fz E Γ cX8_isUnder) 5 [none, none, some (.int l2), some (.int l3), some (.int l4)] [] w (f_X8_isUnder_R5 fuel w l2 l3 l4) := by
  intro fuel
  induction fuel with
  | zero => intros; exact e_none
  | succ fuel ih =>
    intro w l2 l3 l4 
    exact t_X8_isUnder_B5 G _ ih w l2 l3 l4 
set_option maxRecDepth 100000 in
set_option maxHeartbeats 4000000 in
theorem t_X8_isUnder {E : qE} {Γ : qC} (G : q_Ok E Γ RX8 cX8_isUnder 5 (2)) (w : qW) (a1 : Int32) (a2 : Int32) : q_Ev E Γ 5 (q_Fz E Γ cX8_isUnder) 0 [some (.ref 32), some (.int a1), some (.int a2), none, none] [] w (f_X8_isUnder w a1 a2) := by
  unfold f_X8_isUnder
  refine e_iload_n G (pc := 0) dX8_isUnder_0 rfl rfl ?_
  refine e_istore_n G (pc := 1) (L' := [some (.ref 32), some (.int a1), some (.int a2), some (.int a1), none]) dX8_isUnder_1 rfl (Nat.le_of_ble_eq_true rfl) rfl ?_
  refine e_iconst G (pc := 2) (v := 0) dX8_isUnder_2 (by decide) ?_
  refine e_istore G (pc := 3) (L' := [some (.ref 32), some (.int a1), some (.int a2), some (.int a1), some (.int 0)]) dX8_isUnder_3 (Nat.le_of_ble_eq_true rfl) rfl ?_
  refine e_wk (L' := [none, none, some (.int a2), some (.int a1), some (.int 0)]) (And.intro rfl (And.intro rfl (And.intro rfl (trivial)))) ?_
  exact t_X8_isUnder_R5 G  q_fuel w a2 a1 0 
set_option maxRecDepth 100000 in
set_option maxHeartbeats 4000000 in
theorem c_X8_isUnder (w : qW) (a1 : Int32) (a2 : Int32) : q_AC q_vi (some .boolean) (2) yX8_isUnder cX8_isUnder 5 [.ref 32, .int a1, .int a2] w (f_X8_isUnder w a1 a2) := q_met_z (k := 2) (by decide +kernel) rfl rfl rfl (fun _ _ G => t_X8_isUnder G w a1 a2 )
set_option maxRecDepth 100000 in
set_option maxHeartbeats 4000000 in
theorem t_X8_own {n : Nat} {E : qE} {Γ : qC} {r_X8_own : qW → Int32 → Int32 → Int32 → Option (Int32 × qW)} {r_X8_from : qW → Int32 → Int32 → Int32 → Int32 → Option (Int32 × qW)} {r_X8_run : qW → Int32 → Int32 → Int32 → Int32 → Option (Int32 × qW)} {r_X8_over : qW → Int32 → Int32 → Int32 → Int32 → Option (Int32 × qW)} (G : q_Ok E Γ RX8 cX8_own 4 (3 + n + 1)) (hr_X8_own : ∀ (w : qW) (a1 : Int32) (a2 : Int32) (a3 : Int32), q_AC q_vi (some .int) (3 + n) yX8_own cX8_own 4 [.ref 32, .int a1, .int a2, .int a3] w (r_X8_own w a1 a2 a3)) (hr_X8_from : ∀ (w : qW) (a1 : Int32) (a2 : Int32) (a3 : Int32) (a4 : Int32), q_AC q_vi (some .int) (3 + n) yX8_from cX8_from 8 [.ref 32, .int a1, .int a2, .int a3, .int a4] w (r_X8_from w a1 a2 a3 a4)) (hr_X8_run : ∀ (w : qW) (a1 : Int32) (a2 : Int32) (a3 : Int32) (a4 : Int32), q_AC q_vi (some .int) (3 + n) yX8_run cX8_run 5 [.ref 32, .int a1, .int a2, .int a3, .int a4] w (r_X8_run w a1 a2 a3 a4)) (hr_X8_over : ∀ (w : qW) (a1 : Int32) (a2 : Int32) (a3 : Int32) (a4 : Int32), q_AC q_vi (some .int) (3 + n) yX8_over cX8_over 5 [.ref 32, .int a1, .int a2, .int a3, .int a4] w (r_X8_over w a1 a2 a3 a4)) (w : qW) (a1 : Int32) (a2 : Int32) (a3 : Int32) : q_Ev E Γ 4 (q_Fi E Γ cX8_own) 0 [some (.ref 32), some (.int a1), some (.int a2), some (.int a3)] [] w (b_X8_own r_X8_own r_X8_from r_X8_run r_X8_over w a1 a2 a3) := by
  unfold b_X8_own
  refine e_aload_n G (pc := 0) dX8_own_0 rfl rfl ?_
  refine e_aload_n G (pc := 1) dX8_own_1 rfl rfl ?_
  refine e_aload_n G (pc := 2) dX8_own_2 rfl rfl ?_
  refine e_getI G (pc := 3) sh_32 rfl lk_X8_28 dX8_own_3 ?_
  refine e_cVi G (pc := 6) (As := [.int (q_I w 32 4)]) (st := [.ref 32]) cv_X8_35 (c_X8_kindOf w (q_I w 32 4) ) sh_32 (by omega) rfl (Nat.le_of_ble_eq_true rfl) dX8_own_6 (fun r1 w2 => ?_)
  refine e_iload_n G (pc := 9) dX8_own_9 rfl rfl ?_
  refine e_iload_n G (pc := 10) dX8_own_10 rfl rfl ?_
  refine e_iload_n G (pc := 11) dX8_own_11 rfl rfl ?_
  refine e_cVi G (pc := 12) (As := [.int r1, .int a1, .int a2, .int a3]) (st := []) cv_X8_39 (hr_X8_from w2 r1 a1 a2 a3 ) sh_32 (by omega) rfl (Nat.le_of_ble_eq_true rfl) dX8_own_12 (fun r3 w4 => ?_)
  exact e_iret dX8_own_15
set_option maxRecDepth 100000 in
set_option maxHeartbeats 4000000 in
theorem t_X8_from_B6 {n : Nat} {E : qE} {Γ : qC} {r_X8_own : qW → Int32 → Int32 → Int32 → Option (Int32 × qW)} {r_X8_from : qW → Int32 → Int32 → Int32 → Int32 → Option (Int32 × qW)} {r_X8_run : qW → Int32 → Int32 → Int32 → Int32 → Option (Int32 × qW)} {r_X8_over : qW → Int32 → Int32 → Int32 → Int32 → Option (Int32 × qW)} (G : q_Ok E Γ RX8 cX8_from 8 (3 + n + 1)) (hr_X8_own : ∀ (w : qW) (a1 : Int32) (a2 : Int32) (a3 : Int32), q_AC q_vi (some .int) (3 + n) yX8_own cX8_own 4 [.ref 32, .int a1, .int a2, .int a3] w (r_X8_own w a1 a2 a3)) (hr_X8_from : ∀ (w : qW) (a1 : Int32) (a2 : Int32) (a3 : Int32) (a4 : Int32), q_AC q_vi (some .int) (3 + n) yX8_from cX8_from 8 [.ref 32, .int a1, .int a2, .int a3, .int a4] w (r_X8_from w a1 a2 a3 a4)) (hr_X8_run : ∀ (w : qW) (a1 : Int32) (a2 : Int32) (a3 : Int32) (a4 : Int32), q_AC q_vi (some .int) (3 + n) yX8_run cX8_run 5 [.ref 32, .int a1, .int a2, .int a3, .int a4] w (r_X8_run w a1 a2 a3 a4)) (hr_X8_over : ∀ (w : qW) (a1 : Int32) (a2 : Int32) (a3 : Int32) (a4 : Int32), q_AC q_vi (some .int) (3 + n) yX8_over cX8_over 5 [.ref 32, .int a1, .int a2, .int a3, .int a4] w (r_X8_over w a1 a2 a3 a4)) (k6 : qW → Int32 → Int32 → Int32 → Int32 → Int32 → Option (Int32 × qW)) (hk6 : ∀ (w : qW) (l2 : Int32) (l3 : Int32) (l4 : Int32) (l5 : Int32) (l6 : Int32), q_Ev E Γ 8 (q_Fi E Γ cX8_from) 6 [some (.ref 32), none, some (.int l2), some (.int l3), some (.int l4), some (.int l5), some (.int l6), none] [] w (k6 w l2 l3 l4 l5 l6)) (w : qW) (l2 : Int32) (l3 : Int32) (l4 : Int32) (l5 : Int32) (l6 : Int32) : q_Ev E Γ 8 (q_Fi E Γ cX8_from) 6 [some (.ref 32), none, some (.int l2), some (.int l3), some (.int l4), some (.int l5), some (.int l6), none] [] w (f_X8_from_B6 r_X8_own r_X8_from r_X8_run r_X8_over k6 w l2 l3 l4 l5 l6) := by
  unfold f_X8_from_B6
  refine e_iload G (pc := 6) dX8_from_6 rfl ?_
  refine e_gets G (pc := 8) (id := 104) rfl ls_X8_22 dX8_from_8 ?_
  refine e_tlen G (pc := 11) (k := 4) rfl (by decide) dX8_from_11 ?_
  refine e_icmp_ge G (pc := 12) (tgt := 85) dX8_from_12 (by decide) ?_ ?_
  · refine e_iconst G (pc := 85) (v := 0) dX8_from_85 (by decide) ?_
    exact e_iret dX8_from_86
  · refine e_iload G (pc := 15) dX8_from_15 rfl ?_
    refine e_if_lt G (pc := 17) (tgt := 85) dX8_from_17 (by decide) ?_ ?_
    · refine e_iconst G (pc := 85) (v := 0) dX8_from_85 (by decide) ?_
      exact e_iret dX8_from_86
    · refine e_iload G (pc := 20) dX8_from_20 rfl ?_
      refine e_gets G (pc := 22) (id := 104) rfl ls_X8_22 dX8_from_22 ?_
      refine e_tlen G (pc := 25) (k := 4) rfl (by decide) dX8_from_25 ?_
      refine e_icmp_ge G (pc := 26) (tgt := 85) dX8_from_26 (by decide) ?_ ?_
      · refine e_iconst G (pc := 85) (v := 0) dX8_from_85 (by decide) ?_
        exact e_iret dX8_from_86
      · refine e_gets G (pc := 29) (id := 105) rfl ls_X8_43 dX8_from_29 ?_
        refine e_iconst G (pc := 32) (v := 4) dX8_from_32 (by decide) ?_
        refine e_iload G (pc := 33) dX8_from_33 rfl ?_
        refine e_imul G (pc := 35) dX8_from_35 ?_
        refine e_iload_n G (pc := 36) dX8_from_36 rfl rfl ?_
        refine e_iadd G (pc := 37) dX8_from_37 ?_
        refine e_tald G (pc := 38) (k := 5) rfl (by decide) dX8_from_38 (fun v1 => ?_)
        refine e_istore G (pc := 39) (L' := [some (.ref 32), none, some (.int l2), some (.int l3), some (.int l4), some (.int l5), some (.int l6), some (.int v1)]) dX8_from_39 (Nat.le_of_ble_eq_true rfl) rfl ?_
        refine e_iload G (pc := 41) dX8_from_41 rfl ?_
        refine e_if_eq G (pc := 43) (tgt := 71) dX8_from_43 (by decide) ?_ ?_
        · refine e_gets G (pc := 71) (id := 104) rfl ls_X8_22 dX8_from_71 ?_
          refine e_iload G (pc := 74) dX8_from_74 rfl ?_
          refine e_tald G (pc := 76) (k := 4) rfl (by decide) dX8_from_76 (fun v2 => ?_)
          refine e_istore G (pc := 77) (L' := [some (.ref 32), none, some (.int l2), some (.int l3), some (.int l4), some (.int v2), some (.int l6), some (.int v1)]) dX8_from_77 (Nat.le_of_ble_eq_true rfl) rfl ?_
          refine e_iinc G (pc := 79) (x := l6) (v := l6 + 1) (L' := fun v3 => [some (.ref 32), none, some (.int l2), some (.int l3), some (.int l4), some (.int v2), some (.int v3), some (.int v1)]) dX8_from_79 (Nat.le_of_ble_eq_true rfl) rfl (by rfl) (fun _ => rfl) (fun v3 => ?_)
          refine e_goto G (pc := 82) (tgt := 6) dX8_from_82 (by decide) ?_
          refine e_wk (L' := [some (.ref 32), none, some (.int l2), some (.int l3), some (.int l4), some (.int v2), some (.int v3), none]) (And.intro rfl (And.intro rfl (And.intro rfl (And.intro rfl (And.intro rfl (And.intro rfl (trivial))))))) ?_
          exact hk6 w l2 l3 l4 v2 v3 
        · refine e_iload G (pc := 46) dX8_from_46 rfl ?_
          refine e_bipush G (pc := 48) (v := 40) dX8_from_48 (by decide) ?_
          refine e_icmp_ge G (pc := 50) (tgt := 69) dX8_from_50 (by decide) ?_ ?_
          · refine e_iconst G (pc := 69) (v := 0) dX8_from_69 (by decide) ?_
            exact e_iret dX8_from_70
          · refine e_aload_n G (pc := 53) dX8_from_53 rfl rfl ?_
            refine e_iload G (pc := 54) dX8_from_54 rfl ?_
            refine e_iload G (pc := 56) dX8_from_56 rfl ?_
            refine e_iload_n G (pc := 58) dX8_from_58 rfl rfl ?_
            refine e_iload G (pc := 59) dX8_from_59 rfl ?_
            refine e_iconst G (pc := 61) (v := 1) dX8_from_61 (by decide) ?_
            refine e_iadd G (pc := 62) dX8_from_62 ?_
            refine e_cVi G (pc := 63) (As := [.int v1, .int l5, .int l3, .int (l4 + 1)]) (st := []) cv_X8_46 (hr_X8_run w v1 l5 l3 (l4 + 1) ) sh_32 (by omega) rfl (Nat.le_of_ble_eq_true rfl) dX8_from_63 (fun r4 w5 => ?_)
            refine e_goto G (pc := 66) (tgt := 70) dX8_from_66 (by decide) ?_
            exact e_iret dX8_from_70
set_option maxRecDepth 100000 in
set_option maxHeartbeats 4000000 in
theorem t_X8_from_R6 {n : Nat} {E : qE} {Γ : qC} {r_X8_own : qW → Int32 → Int32 → Int32 → Option (Int32 × qW)} {r_X8_from : qW → Int32 → Int32 → Int32 → Int32 → Option (Int32 × qW)} {r_X8_run : qW → Int32 → Int32 → Int32 → Int32 → Option (Int32 × qW)} {r_X8_over : qW → Int32 → Int32 → Int32 → Int32 → Option (Int32 × qW)} (G : q_Ok E Γ RX8 cX8_from 8 (3 + n + 1)) (hr_X8_own : ∀ (w : qW) (a1 : Int32) (a2 : Int32) (a3 : Int32), q_AC q_vi (some .int) (3 + n) yX8_own cX8_own 4 [.ref 32, .int a1, .int a2, .int a3] w (r_X8_own w a1 a2 a3)) (hr_X8_from : ∀ (w : qW) (a1 : Int32) (a2 : Int32) (a3 : Int32) (a4 : Int32), q_AC q_vi (some .int) (3 + n) yX8_from cX8_from 8 [.ref 32, .int a1, .int a2, .int a3, .int a4] w (r_X8_from w a1 a2 a3 a4)) (hr_X8_run : ∀ (w : qW) (a1 : Int32) (a2 : Int32) (a3 : Int32) (a4 : Int32), q_AC q_vi (some .int) (3 + n) yX8_run cX8_run 5 [.ref 32, .int a1, .int a2, .int a3, .int a4] w (r_X8_run w a1 a2 a3 a4)) (hr_X8_over : ∀ (w : qW) (a1 : Int32) (a2 : Int32) (a3 : Int32) (a4 : Int32), q_AC q_vi (some .int) (3 + n) yX8_over cX8_over 5 [.ref 32, .int a1, .int a2, .int a3, .int a4] w (r_X8_over w a1 a2 a3 a4)) : ∀ (fuel : Nat) (w : qW) (l2 : Int32) (l3 : Int32) (l4 : Int32) (l5 : Int32) (l6 : Int32) , q_Ev E Γ 8 (q_Fi E Γ cX8_from) 6 [some (.ref 32), none, some (.int l2), some (.int l3), some (.int l4), some (.int l5), some (.int l6), none] [] w (f_X8_from_R6 r_X8_own r_X8_from r_X8_run r_X8_over fuel w l2 l3 l4 l5 l6) := by
  intro fuel
  induction fuel with
  | zero => intros; exact e_none
  | succ fuel ih =>
    intro w l2 l3 l4 l5 l6 
    exact t_X8_from_B6 G hr_X8_own hr_X8_from hr_X8_run hr_X8_over _ ih w l2 l3 l4 l5 l6 
set_option maxRecDepth 100000 in
set_option maxHeartbeats 4000000 in
theorem t_X8_from {n : Nat} {E : qE} {Γ : qC} {r_X8_own : qW → Int32 → Int32 → Int32 → Option (Int32 × qW)} {r_X8_from : qW → Int32 → Int32 → Int32 → Int32 → Option (Int32 × qW)} {r_X8_run : qW → Int32 → Int32 → Int32 → Int32 → Option (Int32 × qW)} {r_X8_over : qW → Int32 → Int32 → Int32 → Int32 → Option (Int32 × qW)} (G : q_Ok E Γ RX8 cX8_from 8 (3 + n + 1)) (hr_X8_own : ∀ (w : qW) (a1 : Int32) (a2 : Int32) (a3 : Int32), q_AC q_vi (some .int) (3 + n) yX8_own cX8_own 4 [.ref 32, .int a1, .int a2, .int a3] w (r_X8_own w a1 a2 a3)) (hr_X8_from : ∀ (w : qW) (a1 : Int32) (a2 : Int32) (a3 : Int32) (a4 : Int32), q_AC q_vi (some .int) (3 + n) yX8_from cX8_from 8 [.ref 32, .int a1, .int a2, .int a3, .int a4] w (r_X8_from w a1 a2 a3 a4)) (hr_X8_run : ∀ (w : qW) (a1 : Int32) (a2 : Int32) (a3 : Int32) (a4 : Int32), q_AC q_vi (some .int) (3 + n) yX8_run cX8_run 5 [.ref 32, .int a1, .int a2, .int a3, .int a4] w (r_X8_run w a1 a2 a3 a4)) (hr_X8_over : ∀ (w : qW) (a1 : Int32) (a2 : Int32) (a3 : Int32) (a4 : Int32), q_AC q_vi (some .int) (3 + n) yX8_over cX8_over 5 [.ref 32, .int a1, .int a2, .int a3, .int a4] w (r_X8_over w a1 a2 a3 a4)) (w : qW) (a1 : Int32) (a2 : Int32) (a3 : Int32) (a4 : Int32) : q_Ev E Γ 8 (q_Fi E Γ cX8_from) 0 [some (.ref 32), some (.int a1), some (.int a2), some (.int a3), some (.int a4), none, none, none] [] w (b_X8_from r_X8_own r_X8_from r_X8_run r_X8_over w a1 a2 a3 a4) := by
  unfold b_X8_from
  refine e_iload_n G (pc := 0) dX8_from_0 rfl rfl ?_
  refine e_istore G (pc := 1) (L' := [some (.ref 32), some (.int a1), some (.int a2), some (.int a3), some (.int a4), some (.int a1), none, none]) dX8_from_1 (Nat.le_of_ble_eq_true rfl) rfl ?_
  refine e_iconst G (pc := 3) (v := 0) dX8_from_3 (by decide) ?_
  refine e_istore G (pc := 4) (L' := [some (.ref 32), some (.int a1), some (.int a2), some (.int a3), some (.int a4), some (.int a1), some (.int 0), none]) dX8_from_4 (Nat.le_of_ble_eq_true rfl) rfl ?_
  refine e_wk (L' := [some (.ref 32), none, some (.int a2), some (.int a3), some (.int a4), some (.int a1), some (.int 0), none]) (And.intro rfl (And.intro rfl (And.intro rfl (And.intro rfl (And.intro rfl (And.intro rfl (trivial))))))) ?_
  exact t_X8_from_R6 G hr_X8_own hr_X8_from hr_X8_run hr_X8_over  q_fuel w a2 a3 a4 a1 0 
set_option maxRecDepth 100000 in
set_option maxHeartbeats 4000000 in
theorem t_X8_run_B19 {n : Nat} {E : qE} {Γ : qC} {r_X8_own : qW → Int32 → Int32 → Int32 → Option (Int32 × qW)} {r_X8_from : qW → Int32 → Int32 → Int32 → Int32 → Option (Int32 × qW)} {r_X8_run : qW → Int32 → Int32 → Int32 → Int32 → Option (Int32 × qW)} {r_X8_over : qW → Int32 → Int32 → Int32 → Int32 → Option (Int32 × qW)} (G : q_Ok E Γ RX8 cX8_run 5 (3 + n + 1)) (hr_X8_own : ∀ (w : qW) (a1 : Int32) (a2 : Int32) (a3 : Int32), q_AC q_vi (some .int) (3 + n) yX8_own cX8_own 4 [.ref 32, .int a1, .int a2, .int a3] w (r_X8_own w a1 a2 a3)) (hr_X8_from : ∀ (w : qW) (a1 : Int32) (a2 : Int32) (a3 : Int32) (a4 : Int32), q_AC q_vi (some .int) (3 + n) yX8_from cX8_from 8 [.ref 32, .int a1, .int a2, .int a3, .int a4] w (r_X8_from w a1 a2 a3 a4)) (hr_X8_run : ∀ (w : qW) (a1 : Int32) (a2 : Int32) (a3 : Int32) (a4 : Int32), q_AC q_vi (some .int) (3 + n) yX8_run cX8_run 5 [.ref 32, .int a1, .int a2, .int a3, .int a4] w (r_X8_run w a1 a2 a3 a4)) (hr_X8_over : ∀ (w : qW) (a1 : Int32) (a2 : Int32) (a3 : Int32) (a4 : Int32), q_AC q_vi (some .int) (3 + n) yX8_over cX8_over 5 [.ref 32, .int a1, .int a2, .int a3, .int a4] w (r_X8_over w a1 a2 a3 a4)) (w : qW) (l1 : Int32) (l2 : Int32) (l3 : Int32) (l4 : Int32) : q_Ev E Γ 5 (q_Fi E Γ cX8_run) 19 [some (.ref 32), some (.int l1), some (.int l2), some (.int l3), some (.int l4)] [] w (f_X8_run_B19 r_X8_own r_X8_from r_X8_run r_X8_over w l1 l2 l3 l4) := by
  unfold f_X8_run_B19
  refine e_aload_n G (pc := 19) dX8_run_19 rfl rfl ?_
  refine e_dup G (pc := 20) dX8_run_20 rfl ?_
  refine e_getI G (pc := 21) sh_32 rfl lk_X8_25 dX8_run_21 ?_
  refine e_iconst G (pc := 24) (v := 1) dX8_run_24 (by decide) ?_
  refine e_iadd G (pc := 25) dX8_run_25 ?_
  refine e_putI G (pc := 26) sh_32 rfl lp_X8_25 rfl rfl dX8_run_26 (fun w1 => ?_)
  refine e_iload_n G (pc := 29) dX8_run_29 rfl rfl ?_
  refine e_ite (fun h2 => ?_) (fun h2 => ?_)
  · refine e_lsw G (pc := 30) (off := 114) (tgt := 144) dX8_run_30 (by decide) (by rw [h2]; rfl) (by decide) ?_
    refine e_iload_n G (pc := 144) dX8_run_144 rfl rfl ?_
    refine e_aload_n G (pc := 145) dX8_run_145 rfl rfl ?_
    refine e_getI G (pc := 146) sh_32 rfl lk_X8_28 dX8_run_146 ?_
    refine e_iadd G (pc := 149) dX8_run_149 ?_
    exact e_iret dX8_run_150
  refine e_ite (fun h7 => ?_) (fun h7 => ?_)
  · refine e_lsw G (pc := 30) (off := 139) (tgt := 169) dX8_run_30 (by decide) (by rw [h7]; rfl) (by decide) ?_
    refine e_aload_n G (pc := 169) dX8_run_169 rfl rfl ?_
    refine e_iconst G (pc := 170) (v := 1) dX8_run_170 (by decide) ?_
    refine e_iload_n G (pc := 171) dX8_run_171 rfl rfl ?_
    refine e_iload G (pc := 172) dX8_run_172 rfl ?_
    refine e_cVi G (pc := 174) (As := [.int 1, .int l3, .int l4]) (st := []) cv_X8_31 (hr_X8_own w1 1 l3 l4 ) sh_32 (by omega) rfl (Nat.le_of_ble_eq_true rfl) dX8_run_174 (fun r3 w4 => ?_)
    refine e_aload_n G (pc := 177) dX8_run_177 rfl rfl ?_
    refine e_iconst G (pc := 178) (v := 2) dX8_run_178 (by decide) ?_
    refine e_iconst G (pc := 179) (v := 1) dX8_run_179 (by decide) ?_
    refine e_iload G (pc := 180) dX8_run_180 rfl ?_
    refine e_cVi G (pc := 182) (As := [.int 2, .int 1, .int l4]) (st := [.int r3]) cv_X8_31 (hr_X8_own w4 2 1 l4 ) sh_32 (by omega) rfl (Nat.le_of_ble_eq_true rfl) dX8_run_182 (fun r5 w6 => ?_)
    refine e_isub G (pc := 185) dX8_run_185 ?_
    exact e_iret dX8_run_186
  refine e_ite (fun h10 => ?_) (fun h10 => ?_)
  · refine e_lsw G (pc := 30) (off := 121) (tgt := 151) dX8_run_30 (by decide) (by rw [h10]; rfl) (by decide) ?_
    refine e_aload_n G (pc := 151) dX8_run_151 rfl rfl ?_
    refine e_iconst G (pc := 152) (v := 0) dX8_run_152 (by decide) ?_
    refine e_iload_n G (pc := 153) dX8_run_153 rfl rfl ?_
    refine e_iload G (pc := 154) dX8_run_154 rfl ?_
    refine e_cVi G (pc := 156) (As := [.int 0, .int l3, .int l4]) (st := []) cv_X8_31 (hr_X8_own w1 0 l3 l4 ) sh_32 (by omega) rfl (Nat.le_of_ble_eq_true rfl) dX8_run_156 (fun r8 w9 => ?_)
    refine e_iconst G (pc := 159) (v := 2) dX8_run_159 (by decide) ?_
    refine e_imul G (pc := 160) dX8_run_160 ?_
    exact e_iret dX8_run_161
  refine e_ite (fun h11 => ?_) (fun h11 => ?_)
  · refine e_lsw G (pc := 30) (off := 132) (tgt := 162) dX8_run_30 (by decide) (by rw [h11]; rfl) (by decide) ?_
    refine e_iload_n G (pc := 162) dX8_run_162 rfl rfl ?_
    refine e_aload_n G (pc := 163) dX8_run_163 rfl rfl ?_
    refine e_getI G (pc := 164) sh_32 rfl lk_X8_28 dX8_run_164 ?_
    refine e_ixor G (pc := 167) dX8_run_167 ?_
    exact e_iret dX8_run_168
  refine e_ite (fun h14 => ?_) (fun h14 => ?_)
  · refine e_lsw G (pc := 30) (off := 157) (tgt := 187) dX8_run_30 (by decide) (by rw [h14]; rfl) (by decide) ?_
    refine e_aload_n G (pc := 187) dX8_run_187 rfl rfl ?_
    refine e_iload_n G (pc := 188) dX8_run_188 rfl rfl ?_
    refine e_iconst G (pc := 189) (v := 0) dX8_run_189 (by decide) ?_
    refine e_iload_n G (pc := 190) dX8_run_190 rfl rfl ?_
    refine e_iload G (pc := 191) dX8_run_191 rfl ?_
    refine e_cVi G (pc := 193) (As := [.int l2, .int 0, .int l3, .int l4]) (st := []) cv_X8_49 (hr_X8_over w1 l2 0 l3 l4 ) sh_32 (by omega) rfl (Nat.le_of_ble_eq_true rfl) dX8_run_193 (fun r12 w13 => ?_)
    refine e_iconst G (pc := 196) (v := 3) dX8_run_196 (by decide) ?_
    refine e_iadd G (pc := 197) dX8_run_197 ?_
    exact e_iret dX8_run_198
  refine e_ite (fun h17 => ?_) (fun h17 => ?_)
  · refine e_lsw G (pc := 30) (off := 169) (tgt := 199) dX8_run_30 (by decide) (by rw [h17]; rfl) (by decide) ?_
    refine e_aload_n G (pc := 199) dX8_run_199 rfl rfl ?_
    refine e_iload_n G (pc := 200) dX8_run_200 rfl rfl ?_
    refine e_iconst G (pc := 201) (v := 1) dX8_run_201 (by decide) ?_
    refine e_iload_n G (pc := 202) dX8_run_202 rfl rfl ?_
    refine e_iload G (pc := 203) dX8_run_203 rfl ?_
    refine e_cVi G (pc := 205) (As := [.int l2, .int 1, .int l3, .int l4]) (st := []) cv_X8_49 (hr_X8_over w1 l2 1 l3 l4 ) sh_32 (by omega) rfl (Nat.le_of_ble_eq_true rfl) dX8_run_205 (fun r15 w16 => ?_)
    refine e_ineg G (pc := 208) dX8_run_208 ?_
    exact e_iret dX8_run_209
  refine e_ite (fun h20 => ?_) (fun h20 => ?_)
  · refine e_lsw G (pc := 30) (off := 180) (tgt := 210) dX8_run_30 (by decide) (by rw [h20]; rfl) (by decide) ?_
    refine e_aload_n G (pc := 210) dX8_run_210 rfl rfl ?_
    refine e_iload_n G (pc := 211) dX8_run_211 rfl rfl ?_
    refine e_iconst G (pc := 212) (v := 2) dX8_run_212 (by decide) ?_
    refine e_iload_n G (pc := 213) dX8_run_213 rfl rfl ?_
    refine e_iload G (pc := 214) dX8_run_214 rfl ?_
    refine e_cVi G (pc := 216) (As := [.int l2, .int 2, .int l3, .int l4]) (st := []) cv_X8_49 (hr_X8_over w1 l2 2 l3 l4 ) sh_32 (by omega) rfl (Nat.le_of_ble_eq_true rfl) dX8_run_216 (fun r18 w19 => ?_)
    refine e_iconst G (pc := 219) (v := 3) dX8_run_219 (by decide) ?_
    refine e_imul G (pc := 220) dX8_run_220 ?_
    exact e_iret dX8_run_221
  refine e_ite (fun h23 => ?_) (fun h23 => ?_)
  · refine e_lsw G (pc := 30) (off := 192) (tgt := 222) dX8_run_30 (by decide) (by rw [h23]; rfl) (by decide) ?_
    refine e_aload_n G (pc := 222) dX8_run_222 rfl rfl ?_
    refine e_iload_n G (pc := 223) dX8_run_223 rfl rfl ?_
    refine e_iconst G (pc := 224) (v := 1) dX8_run_224 (by decide) ?_
    refine e_iload_n G (pc := 225) dX8_run_225 rfl rfl ?_
    refine e_iconst G (pc := 226) (v := 1) dX8_run_226 (by decide) ?_
    refine e_iadd G (pc := 227) dX8_run_227 ?_
    refine e_iload G (pc := 228) dX8_run_228 rfl ?_
    refine e_cVi G (pc := 230) (As := [.int l2, .int 1, .int (l3 + 1), .int l4]) (st := []) cv_X8_49 (hr_X8_over w1 l2 1 (l3 + 1) l4 ) sh_32 (by omega) rfl (Nat.le_of_ble_eq_true rfl) dX8_run_230 (fun r21 w22 => ?_)
    exact e_iret dX8_run_233
  refine e_ite (fun h28 => ?_) (fun h28 => ?_)
  · refine e_lsw G (pc := 30) (off := 204) (tgt := 234) dX8_run_30 (by decide) (by rw [h28]; rfl) (by decide) ?_
    refine e_aload_n G (pc := 234) dX8_run_234 rfl rfl ?_
    refine e_iload_n G (pc := 235) dX8_run_235 rfl rfl ?_
    refine e_iconst G (pc := 236) (v := 2) dX8_run_236 (by decide) ?_
    refine e_iload_n G (pc := 237) dX8_run_237 rfl rfl ?_
    refine e_iload G (pc := 238) dX8_run_238 rfl ?_
    refine e_cVi G (pc := 240) (As := [.int l2, .int 2, .int l3, .int l4]) (st := []) cv_X8_49 (hr_X8_over w1 l2 2 l3 l4 ) sh_32 (by omega) rfl (Nat.le_of_ble_eq_true rfl) dX8_run_240 (fun r24 w25 => ?_)
    refine e_aload_n G (pc := 243) dX8_run_243 rfl rfl ?_
    refine e_iconst G (pc := 244) (v := 0) dX8_run_244 (by decide) ?_
    refine e_iconst G (pc := 245) (v := 2) dX8_run_245 (by decide) ?_
    refine e_iload G (pc := 246) dX8_run_246 rfl ?_
    refine e_cVi G (pc := 248) (As := [.int 0, .int 2, .int l4]) (st := [.int r24]) cv_X8_31 (hr_X8_own w25 0 2 l4 ) sh_32 (by omega) rfl (Nat.le_of_ble_eq_true rfl) dX8_run_248 (fun r26 w27 => ?_)
    refine e_isub G (pc := 251) dX8_run_251 ?_
    exact e_iret dX8_run_252
  refine e_ite (fun h31 => ?_) (fun h31 => ?_)
  · refine e_lsw G (pc := 30) (off := 223) (tgt := 253) dX8_run_30 (by decide) (by rw [h31]; rfl) (by decide) ?_
    refine e_aload_n G (pc := 253) dX8_run_253 rfl rfl ?_
    refine e_iload_n G (pc := 254) dX8_run_254 rfl rfl ?_
    refine e_iconst G (pc := 255) (v := 3) dX8_run_255 (by decide) ?_
    refine e_iload_n G (pc := 256) dX8_run_256 rfl rfl ?_
    refine e_iload G (pc := 257) dX8_run_257 rfl ?_
    refine e_cVi G (pc := 259) (As := [.int l2, .int 3, .int l3, .int l4]) (st := []) cv_X8_49 (hr_X8_over w1 l2 3 l3 l4 ) sh_32 (by omega) rfl (Nat.le_of_ble_eq_true rfl) dX8_run_259 (fun r29 w30 => ?_)
    refine e_iconst G (pc := 262) (v := 5) dX8_run_262 (by decide) ?_
    refine e_ixor G (pc := 263) dX8_run_263 ?_
    exact e_iret dX8_run_264
  refine e_ite (fun h34 => ?_) (fun h34 => ?_)
  · refine e_lsw G (pc := 30) (off := 235) (tgt := 265) dX8_run_30 (by decide) (by rw [h34]; rfl) (by decide) ?_
    refine e_aload_n G (pc := 265) dX8_run_265 rfl rfl ?_
    refine e_iload_n G (pc := 266) dX8_run_266 rfl rfl ?_
    refine e_iconst G (pc := 267) (v := 0) dX8_run_267 (by decide) ?_
    refine e_iload_n G (pc := 268) dX8_run_268 rfl rfl ?_
    refine e_iload G (pc := 269) dX8_run_269 rfl ?_
    refine e_cVi G (pc := 271) (As := [.int l2, .int 0, .int l3, .int l4]) (st := []) cv_X8_49 (hr_X8_over w1 l2 0 l3 l4 ) sh_32 (by omega) rfl (Nat.le_of_ble_eq_true rfl) dX8_run_271 (fun r32 w33 => ?_)
    refine e_iconst G (pc := 274) (v := 2) dX8_run_274 (by decide) ?_
    refine e_imul G (pc := 275) dX8_run_275 ?_
    exact e_iret dX8_run_276
  refine e_ite (fun h39 => ?_) (fun h39 => ?_)
  · refine e_lsw G (pc := 30) (off := 247) (tgt := 277) dX8_run_30 (by decide) (by rw [h39]; rfl) (by decide) ?_
    refine e_aload_n G (pc := 277) dX8_run_277 rfl rfl ?_
    refine e_iload_n G (pc := 278) dX8_run_278 rfl rfl ?_
    refine e_iconst G (pc := 279) (v := 1) dX8_run_279 (by decide) ?_
    refine e_iload_n G (pc := 280) dX8_run_280 rfl rfl ?_
    refine e_iload G (pc := 281) dX8_run_281 rfl ?_
    refine e_cVi G (pc := 283) (As := [.int l2, .int 1, .int l3, .int l4]) (st := []) cv_X8_49 (hr_X8_over w1 l2 1 l3 l4 ) sh_32 (by omega) rfl (Nat.le_of_ble_eq_true rfl) dX8_run_283 (fun r35 w36 => ?_)
    refine e_aload_n G (pc := 286) dX8_run_286 rfl rfl ?_
    refine e_iconst G (pc := 287) (v := 2) dX8_run_287 (by decide) ?_
    refine e_iconst G (pc := 288) (v := 2) dX8_run_288 (by decide) ?_
    refine e_iload G (pc := 289) dX8_run_289 rfl ?_
    refine e_cVi G (pc := 291) (As := [.int 2, .int 2, .int l4]) (st := [.int r35]) cv_X8_31 (hr_X8_own w36 2 2 l4 ) sh_32 (by omega) rfl (Nat.le_of_ble_eq_true rfl) dX8_run_291 (fun r37 w38 => ?_)
    refine e_iadd G (pc := 294) dX8_run_294 ?_
    exact e_iret dX8_run_295
  refine e_ite (fun h42 => ?_) (fun h42 => ?_)
  · refine e_lsw G (pc := 30) (off := 266) (tgt := 296) dX8_run_30 (by decide) (by rw [h42]; rfl) (by decide) ?_
    refine e_aload_n G (pc := 296) dX8_run_296 rfl rfl ?_
    refine e_iload_n G (pc := 297) dX8_run_297 rfl rfl ?_
    refine e_iconst G (pc := 298) (v := 3) dX8_run_298 (by decide) ?_
    refine e_iload_n G (pc := 299) dX8_run_299 rfl rfl ?_
    refine e_iload G (pc := 300) dX8_run_300 rfl ?_
    refine e_cVi G (pc := 302) (As := [.int l2, .int 3, .int l3, .int l4]) (st := []) cv_X8_49 (hr_X8_over w1 l2 3 l3 l4 ) sh_32 (by omega) rfl (Nat.le_of_ble_eq_true rfl) dX8_run_302 (fun r40 w41 => ?_)
    refine e_iconst G (pc := 305) (v := 1) dX8_run_305 (by decide) ?_
    refine e_isub G (pc := 306) dX8_run_306 ?_
    exact e_iret dX8_run_307
  refine e_lsw G (pc := 30) (off := 278) (tgt := 308) dX8_run_30 (by decide) ((lv_osw h2 (show (1 : Int32).toInt = 1 by decide)).trans ((lv_osw h7 (show (2 : Int32).toInt = 2 by decide)).trans ((lv_osw h10 (show (10 : Int32).toInt = 10 by decide)).trans ((lv_osw h11 (show (11 : Int32).toInt = 11 by decide)).trans ((lv_osw h14 (show (20 : Int32).toInt = 20 by decide)).trans ((lv_osw h17 (show (30 : Int32).toInt = 30 by decide)).trans ((lv_osw h20 (show (40 : Int32).toInt = 40 by decide)).trans ((lv_osw h23 (show (41 : Int32).toInt = 41 by decide)).trans ((lv_osw h28 (show (50 : Int32).toInt = 50 by decide)).trans ((lv_osw h31 (show (60 : Int32).toInt = 60 by decide)).trans ((lv_osw h34 (show (70 : Int32).toInt = 70 by decide)).trans ((lv_osw h39 (show (80 : Int32).toInt = 80 by decide)).trans ((lv_osw h42 (show (81 : Int32).toInt = 81 by decide)).trans (rfl)))))))))))))) (by decide) ?_
  refine e_iconst G (pc := 308) (v := 0) dX8_run_308 (by decide) ?_
  exact e_iret dX8_run_309
set_option maxRecDepth 100000 in
set_option maxHeartbeats 4000000 in
theorem t_X8_run {n : Nat} {E : qE} {Γ : qC} {r_X8_own : qW → Int32 → Int32 → Int32 → Option (Int32 × qW)} {r_X8_from : qW → Int32 → Int32 → Int32 → Int32 → Option (Int32 × qW)} {r_X8_run : qW → Int32 → Int32 → Int32 → Int32 → Option (Int32 × qW)} {r_X8_over : qW → Int32 → Int32 → Int32 → Int32 → Option (Int32 × qW)} (G : q_Ok E Γ RX8 cX8_run 5 (3 + n + 1)) (hr_X8_own : ∀ (w : qW) (a1 : Int32) (a2 : Int32) (a3 : Int32), q_AC q_vi (some .int) (3 + n) yX8_own cX8_own 4 [.ref 32, .int a1, .int a2, .int a3] w (r_X8_own w a1 a2 a3)) (hr_X8_from : ∀ (w : qW) (a1 : Int32) (a2 : Int32) (a3 : Int32) (a4 : Int32), q_AC q_vi (some .int) (3 + n) yX8_from cX8_from 8 [.ref 32, .int a1, .int a2, .int a3, .int a4] w (r_X8_from w a1 a2 a3 a4)) (hr_X8_run : ∀ (w : qW) (a1 : Int32) (a2 : Int32) (a3 : Int32) (a4 : Int32), q_AC q_vi (some .int) (3 + n) yX8_run cX8_run 5 [.ref 32, .int a1, .int a2, .int a3, .int a4] w (r_X8_run w a1 a2 a3 a4)) (hr_X8_over : ∀ (w : qW) (a1 : Int32) (a2 : Int32) (a3 : Int32) (a4 : Int32), q_AC q_vi (some .int) (3 + n) yX8_over cX8_over 5 [.ref 32, .int a1, .int a2, .int a3, .int a4] w (r_X8_over w a1 a2 a3 a4)) (w : qW) (a1 : Int32) (a2 : Int32) (a3 : Int32) (a4 : Int32) : q_Ev E Γ 5 (q_Fi E Γ cX8_run) 0 [some (.ref 32), some (.int a1), some (.int a2), some (.int a3), some (.int a4)] [] w (b_X8_run r_X8_own r_X8_from r_X8_run r_X8_over w a1 a2 a3 a4) := by
  unfold b_X8_run
  refine e_aload_n G (pc := 0) dX8_run_0 rfl rfl ?_
  refine e_getI G (pc := 1) sh_32 rfl lk_X8_25 dX8_run_1 ?_
  refine e_bipush G (pc := 4) (v := 24) dX8_run_4 (by decide) ?_
  refine e_icmp_ge G (pc := 6) (tgt := 19) dX8_run_6 (by decide) ?_ ?_
  · exact t_X8_run_B19 G hr_X8_own hr_X8_from hr_X8_run hr_X8_over w a1 a2 a3 a4 
  · refine e_aload_n G (pc := 9) dX8_run_9 rfl rfl ?_
    refine e_getF G (pc := 10) sh_32 rfl lk_X8_15 dX8_run_10 ?_
    refine e_aload_n G (pc := 13) dX8_run_13 rfl rfl ?_
    refine e_getI G (pc := 14) sh_32 rfl lk_X8_25 dX8_run_14 ?_
    refine e_iload_n G (pc := 17) dX8_run_17 rfl rfl ?_
    refine e_iast G (pc := 18) sh_34 dX8_run_18 (fun w1 => ?_)
    exact t_X8_run_B19 G hr_X8_own hr_X8_from hr_X8_run hr_X8_over w1 a1 a2 a3 a4 
set_option maxRecDepth 100000 in
set_option maxHeartbeats 4000000 in
theorem t_X8_over {n : Nat} {E : qE} {Γ : qC} {r_X8_own : qW → Int32 → Int32 → Int32 → Option (Int32 × qW)} {r_X8_from : qW → Int32 → Int32 → Int32 → Int32 → Option (Int32 × qW)} {r_X8_run : qW → Int32 → Int32 → Int32 → Int32 → Option (Int32 × qW)} {r_X8_over : qW → Int32 → Int32 → Int32 → Int32 → Option (Int32 × qW)} (G : q_Ok E Γ RX8 cX8_over 5 (3 + n + 1)) (hr_X8_own : ∀ (w : qW) (a1 : Int32) (a2 : Int32) (a3 : Int32), q_AC q_vi (some .int) (3 + n) yX8_own cX8_own 4 [.ref 32, .int a1, .int a2, .int a3] w (r_X8_own w a1 a2 a3)) (hr_X8_from : ∀ (w : qW) (a1 : Int32) (a2 : Int32) (a3 : Int32) (a4 : Int32), q_AC q_vi (some .int) (3 + n) yX8_from cX8_from 8 [.ref 32, .int a1, .int a2, .int a3, .int a4] w (r_X8_from w a1 a2 a3 a4)) (hr_X8_run : ∀ (w : qW) (a1 : Int32) (a2 : Int32) (a3 : Int32) (a4 : Int32), q_AC q_vi (some .int) (3 + n) yX8_run cX8_run 5 [.ref 32, .int a1, .int a2, .int a3, .int a4] w (r_X8_run w a1 a2 a3 a4)) (hr_X8_over : ∀ (w : qW) (a1 : Int32) (a2 : Int32) (a3 : Int32) (a4 : Int32), q_AC q_vi (some .int) (3 + n) yX8_over cX8_over 5 [.ref 32, .int a1, .int a2, .int a3, .int a4] w (r_X8_over w a1 a2 a3 a4)) (w : qW) (a1 : Int32) (a2 : Int32) (a3 : Int32) (a4 : Int32) : q_Ev E Γ 5 (q_Fi E Γ cX8_over) 0 [some (.ref 32), some (.int a1), some (.int a2), some (.int a3), some (.int a4)] [] w (b_X8_over r_X8_own r_X8_from r_X8_run r_X8_over w a1 a2 a3 a4) := by
  unfold b_X8_over
  refine e_iload_n G (pc := 0) dX8_over_0 rfl rfl ?_
  refine e_if_lt G (pc := 1) (tgt := 28) dX8_over_1 (by decide) ?_ ?_
  · refine e_iconst G (pc := 28) (v := 0) dX8_over_28 (by decide) ?_
    exact e_iret dX8_over_29
  · refine e_iload_n G (pc := 4) dX8_over_4 rfl rfl ?_
    refine e_gets G (pc := 5) (id := 104) rfl ls_X8_22 dX8_over_5 ?_
    refine e_tlen G (pc := 8) (k := 4) rfl (by decide) dX8_over_8 ?_
    refine e_icmp_ge G (pc := 9) (tgt := 28) dX8_over_9 (by decide) ?_ ?_
    · refine e_iconst G (pc := 28) (v := 0) dX8_over_28 (by decide) ?_
      exact e_iret dX8_over_29
    · refine e_aload_n G (pc := 12) dX8_over_12 rfl rfl ?_
      refine e_gets G (pc := 13) (id := 104) rfl ls_X8_22 dX8_over_13 ?_
      refine e_iload_n G (pc := 16) dX8_over_16 rfl rfl ?_
      refine e_tald G (pc := 17) (k := 4) rfl (by decide) dX8_over_17 (fun v1 => ?_)
      refine e_iload_n G (pc := 18) dX8_over_18 rfl rfl ?_
      refine e_iload_n G (pc := 19) dX8_over_19 rfl rfl ?_
      refine e_iload G (pc := 20) dX8_over_20 rfl ?_
      refine e_cVi G (pc := 22) (As := [.int v1, .int a2, .int a3, .int a4]) (st := []) cv_X8_39 (hr_X8_from w v1 a2 a3 a4 ) sh_32 (by omega) rfl (Nat.le_of_ble_eq_true rfl) dX8_over_22 (fun r2 w3 => ?_)
      refine e_goto G (pc := 25) (tgt := 29) dX8_over_25 (by decide) ?_
      exact e_iret dX8_over_29
set_option maxRecDepth 100000 in
set_option maxHeartbeats 4000000 in
theorem g_X8_own : ∀ n : Nat, (∀ (w : qW) (a1 : Int32) (a2 : Int32) (a3 : Int32), q_AC q_vi (some .int) (3 + n) yX8_own cX8_own 4 [.ref 32, .int a1, .int a2, .int a3] w (((G_X8_own n).1) w a1 a2 a3)) ∧ (∀ (w : qW) (a1 : Int32) (a2 : Int32) (a3 : Int32) (a4 : Int32), q_AC q_vi (some .int) (3 + n) yX8_from cX8_from 8 [.ref 32, .int a1, .int a2, .int a3, .int a4] w (((G_X8_own n).2.1) w a1 a2 a3 a4)) ∧ (∀ (w : qW) (a1 : Int32) (a2 : Int32) (a3 : Int32) (a4 : Int32), q_AC q_vi (some .int) (3 + n) yX8_run cX8_run 5 [.ref 32, .int a1, .int a2, .int a3, .int a4] w (((G_X8_own n).2.2.1) w a1 a2 a3 a4)) ∧ (∀ (w : qW) (a1 : Int32) (a2 : Int32) (a3 : Int32) (a4 : Int32), q_AC q_vi (some .int) (3 + n) yX8_over cX8_over 5 [.ref 32, .int a1, .int a2, .int a3, .int a4] w (((G_X8_own n).2.2.2) w a1 a2 a3 a4)) := by
  intro n
  induction n with
  | zero => exact ⟨(fun _ _ _ _ _ _ _ _ h => (by cases h)), (fun _ _ _ _ _ _ _ _ _ h => (by cases h)), (fun _ _ _ _ _ _ _ _ _ h => (by cases h)), (fun _ _ _ _ _ _ _ _ _ h => (by cases h))⟩
  | succ n ih =>
    refine ⟨?_, ?_, ?_, ?_⟩
    · exact fun w a1 a2 a3  => q_met_i (k := 0) (by decide +kernel) rfl rfl rfl (fun _ _ G => t_X8_own G (ih.1) (ih.2.1) (ih.2.2.1) (ih.2.2.2) w a1 a2 a3 )
    · exact fun w a1 a2 a3 a4  => q_met_i (k := 3) (by decide +kernel) rfl rfl rfl (fun _ _ G => t_X8_from G (ih.1) (ih.2.1) (ih.2.2.1) (ih.2.2.2) w a1 a2 a3 a4 )
    · exact fun w a1 a2 a3 a4  => q_met_i (k := 0) (by decide +kernel) rfl rfl rfl (fun _ _ G => t_X8_run G (ih.1) (ih.2.1) (ih.2.2.1) (ih.2.2.2) w a1 a2 a3 a4 )
    · exact fun w a1 a2 a3 a4  => q_met_i (k := 0) (by decide +kernel) rfl rfl rfl (fun _ _ G => t_X8_over G (ih.1) (ih.2.1) (ih.2.2.1) (ih.2.2.2) w a1 a2 a3 a4 )

set_option maxRecDepth 100000 in
set_option maxHeartbeats 4000000 in
theorem c_X8_own (w : qW) (a1 : Int32) (a2 : Int32) (a3 : Int32) : q_AC q_vi (some .int) (103) yX8_own cX8_own 4 [.ref 32, .int a1, .int a2, .int a3] w (f_X8_own w a1 a2 a3) := (g_X8_own q_rfuel).1 w a1 a2 a3 
set_option maxRecDepth 100000 in
set_option maxHeartbeats 4000000 in
theorem c_X8_from (w : qW) (a1 : Int32) (a2 : Int32) (a3 : Int32) (a4 : Int32) : q_AC q_vi (some .int) (103) yX8_from cX8_from 8 [.ref 32, .int a1, .int a2, .int a3, .int a4] w (f_X8_from w a1 a2 a3 a4) := (g_X8_own q_rfuel).2.1 w a1 a2 a3 a4 
set_option maxRecDepth 100000 in
set_option maxHeartbeats 4000000 in
theorem c_X8_run (w : qW) (a1 : Int32) (a2 : Int32) (a3 : Int32) (a4 : Int32) : q_AC q_vi (some .int) (103) yX8_run cX8_run 5 [.ref 32, .int a1, .int a2, .int a3, .int a4] w (f_X8_run w a1 a2 a3 a4) := (g_X8_own q_rfuel).2.2.1 w a1 a2 a3 a4 
set_option maxRecDepth 100000 in
set_option maxHeartbeats 4000000 in
theorem c_X8_over (w : qW) (a1 : Int32) (a2 : Int32) (a3 : Int32) (a4 : Int32) : q_AC q_vi (some .int) (103) yX8_over cX8_over 5 [.ref 32, .int a1, .int a2, .int a3, .int a4] w (f_X8_over w a1 a2 a3 a4) := (g_X8_own q_rfuel).2.2.2 w a1 a2 a3 a4 
set_option maxRecDepth 100000 in
set_option maxHeartbeats 4000000 in
theorem t_X8_perform {E : qE} {Γ : qC} (G : q_Ok E Γ RX8 cX8_perform 4 (104)) (w : qW) (a1 : Int32) (a2 : Int32) (a3 : Int32) : q_Ev E Γ 4 (q_Fi E Γ cX8_perform) 0 [some (.ref 32), some (.int a1), some (.int a2), some (.int a3)] [] w (f_X8_perform w a1 a2 a3) := by
  unfold f_X8_perform
  refine e_aload_n G (pc := 0) dX8_perform_0 rfl rfl ?_
  refine e_iconst G (pc := 1) (v := 0) dX8_perform_1 (by decide) ?_
  refine e_putI G (pc := 2) sh_32 rfl lp_X8_25 rfl rfl dX8_perform_2 (fun w1 => ?_)
  refine e_iload_n G (pc := 5) dX8_perform_5 rfl rfl ?_
  refine e_if_lt G (pc := 6) (tgt := 26) dX8_perform_6 (by decide) ?_ ?_
  · refine e_iconst G (pc := 26) (v := 0) dX8_perform_26 (by decide) ?_
    exact e_iret dX8_perform_27
  · refine e_iload_n G (pc := 9) dX8_perform_9 rfl rfl ?_
    refine e_aload_n G (pc := 10) dX8_perform_10 rfl rfl ?_
    refine e_getI G (pc := 11) sh_32 rfl lk_X8_18 dX8_perform_11 ?_
    refine e_icmp_ge G (pc := 14) (tgt := 26) dX8_perform_14 (by decide) ?_ ?_
    · refine e_iconst G (pc := 26) (v := 0) dX8_perform_26 (by decide) ?_
      exact e_iret dX8_perform_27
    · refine e_iload_n G (pc := 17) dX8_perform_17 rfl rfl ?_
      refine e_if_lt G (pc := 18) (tgt := 26) dX8_perform_18 (by decide) ?_ ?_
      · refine e_iconst G (pc := 26) (v := 0) dX8_perform_26 (by decide) ?_
        exact e_iret dX8_perform_27
      · refine e_iload_n G (pc := 21) dX8_perform_21 rfl rfl ?_
        refine e_iconst G (pc := 22) (v := 4) dX8_perform_22 (by decide) ?_
        refine e_icmp_lt G (pc := 23) (tgt := 28) dX8_perform_23 (by decide) ?_ ?_
        · refine e_aload_n G (pc := 28) dX8_perform_28 rfl rfl ?_
          refine e_iload_n G (pc := 29) dX8_perform_29 rfl rfl ?_
          refine e_putI G (pc := 30) sh_32 rfl lp_X8_28 rfl rfl dX8_perform_30 (fun w2 => ?_)
          refine e_aload_n G (pc := 33) dX8_perform_33 rfl rfl ?_
          refine e_iload_n G (pc := 34) dX8_perform_34 rfl rfl ?_
          refine e_iload_n G (pc := 35) dX8_perform_35 rfl rfl ?_
          refine e_iconst G (pc := 36) (v := 0) dX8_perform_36 (by decide) ?_
          refine e_cVi G (pc := 37) (As := [.int a2, .int a3, .int 0]) (st := []) cv_X8_31 (c_X8_own w2 a2 a3 0 ) sh_32 (Nat.le_of_ble_eq_true rfl) rfl (Nat.le_of_ble_eq_true rfl) dX8_perform_37 (fun r3 w4 => ?_)
          exact e_iret dX8_perform_40
        · refine e_iconst G (pc := 26) (v := 0) dX8_perform_26 (by decide) ?_
          exact e_iret dX8_perform_27
set_option maxRecDepth 100000 in
set_option maxHeartbeats 4000000 in
theorem c_X8_perform (w : qW) (a1 : Int32) (a2 : Int32) (a3 : Int32) : q_AC q_vi (some .int) (104) yX8_perform cX8_perform 4 [.ref 32, .int a1, .int a2, .int a3] w (f_X8_perform w a1 a2 a3) := q_met_i (k := 0) (by decide +kernel) rfl rfl rfl (fun _ _ G => t_X8_perform G w a1 a2 a3 )
set_option maxRecDepth 100000 in
set_option maxHeartbeats 4000000 in
theorem t_X8_traced {E : qE} {Γ : qC} (G : q_Ok E Γ RX8 cX8_traced 2 (2)) (w : qW) (a1 : Int32) : q_Ev E Γ 2 (q_Fi E Γ cX8_traced) 0 [some (.ref 32), some (.int a1)] [] w (f_X8_traced w a1) := by
  unfold f_X8_traced
  refine e_iload_n G (pc := 0) dX8_traced_0 rfl rfl ?_
  refine e_if_lt G (pc := 1) (tgt := 27) dX8_traced_1 (by decide) ?_ ?_
  · refine e_iconst G (pc := 27) (v := (-1)) dX8_traced_27 (by decide) ?_
    exact e_iret dX8_traced_28
  · refine e_iload_n G (pc := 4) dX8_traced_4 rfl rfl ?_
    refine e_aload_n G (pc := 5) dX8_traced_5 rfl rfl ?_
    refine e_getI G (pc := 6) sh_32 rfl lk_X8_25 dX8_traced_6 ?_
    refine e_icmp_ge G (pc := 9) (tgt := 27) dX8_traced_9 (by decide) ?_ ?_
    · refine e_iconst G (pc := 27) (v := (-1)) dX8_traced_27 (by decide) ?_
      exact e_iret dX8_traced_28
    · refine e_iload_n G (pc := 12) dX8_traced_12 rfl rfl ?_
      refine e_bipush G (pc := 13) (v := 24) dX8_traced_13 (by decide) ?_
      refine e_icmp_ge G (pc := 15) (tgt := 27) dX8_traced_15 (by decide) ?_ ?_
      · refine e_iconst G (pc := 27) (v := (-1)) dX8_traced_27 (by decide) ?_
        exact e_iret dX8_traced_28
      · refine e_aload_n G (pc := 18) dX8_traced_18 rfl rfl ?_
        refine e_getF G (pc := 19) sh_32 rfl lk_X8_15 dX8_traced_19 ?_
        refine e_iload_n G (pc := 22) dX8_traced_22 rfl rfl ?_
        refine e_iald G (pc := 23) sh_34 dX8_traced_23 (fun v1 => ?_)
        refine e_goto G (pc := 24) (tgt := 28) dX8_traced_24 (by decide) ?_
        exact e_iret dX8_traced_28
set_option maxRecDepth 100000 in
set_option maxHeartbeats 4000000 in
theorem c_X8_traced (w : qW) (a1 : Int32) : q_AC q_vi (some .int) (2) yX8_traced cX8_traced 2 [.ref 32, .int a1] w (f_X8_traced w a1) := q_met_i (k := 0) (by decide +kernel) rfl rfl rfl (fun _ _ G => t_X8_traced G w a1 )
set_option maxRecDepth 100000 in
set_option maxHeartbeats 4000000 in
theorem t_X1_add_B31 {E : qE} {Γ : qC} (G : q_Ok E Γ RX1 cX1_add 5 (4)) (w : qW) (l1 : Int32) (l2 : Int32) (l3 : Int32) : q_Ev E Γ 5 (q_Fv E Γ cX1_add) 31 [some (.ref 24), some (.int l1), some (.int l2), some (.int l3), none] [] w (f_X1_add_B31 w l1 l2 l3) := by
  unfold f_X1_add_B31
  refine e_aload_n G (pc := 31) dX1_add_31 rfl rfl ?_
  refine e_getI G (pc := 32) sh_24 rfl lk_X1_19 dX1_add_32 ?_
  refine e_iconst G (pc := 35) (v := 4) dX1_add_35 (by decide) ?_
  refine e_imul G (pc := 36) dX1_add_36 ?_
  refine e_ti (fun v1 => ?_)
  refine e_istore G (pc := 37) (L' := [some (.ref 24), some (.int l1), some (.int l2), some (.int l3), some (.int v1)]) dX1_add_37 (Nat.le_of_ble_eq_true rfl) rfl ?_
  refine e_aload_n G (pc := 39) dX1_add_39 rfl rfl ?_
  refine e_getF G (pc := 40) sh_24 rfl lk_X1_11 dX1_add_40 ?_
  refine e_iload G (pc := 43) dX1_add_43 rfl ?_
  refine e_iload_n G (pc := 45) dX1_add_45 rfl rfl ?_
  refine e_iast G (pc := 46) sh_25 dX1_add_46 (fun w2 => ?_)
  refine e_aload_n G (pc := 47) dX1_add_47 rfl rfl ?_
  refine e_getF G (pc := 48) sh_24 rfl lk_X1_11 dX1_add_48 ?_
  refine e_iload G (pc := 51) dX1_add_51 rfl ?_
  refine e_iconst G (pc := 53) (v := 1) dX1_add_53 (by decide) ?_
  refine e_iadd G (pc := 54) dX1_add_54 ?_
  refine e_iload_n G (pc := 55) dX1_add_55 rfl rfl ?_
  refine e_iast G (pc := 56) sh_25 dX1_add_56 (fun w3 => ?_)
  refine e_aload_n G (pc := 57) dX1_add_57 rfl rfl ?_
  refine e_getF G (pc := 58) sh_24 rfl lk_X1_11 dX1_add_58 ?_
  refine e_iload G (pc := 61) dX1_add_61 rfl ?_
  refine e_iconst G (pc := 63) (v := 2) dX1_add_63 (by decide) ?_
  refine e_iadd G (pc := 64) dX1_add_64 ?_
  refine e_aload_n G (pc := 65) dX1_add_65 rfl rfl ?_
  refine e_getF G (pc := 66) sh_24 rfl lk_X1_15 dX1_add_66 ?_
  refine e_iload_n G (pc := 69) dX1_add_69 rfl rfl ?_
  refine e_iload_n G (pc := 70) dX1_add_70 rfl rfl ?_
  refine e_cVi G (pc := 71) (As := [.int l1, .int l2]) (st := [.int (v1 + 2), .ref 25]) cv_X1_29 (c_X4_get w3 l1 l2 ) sh_1 (Nat.le_of_ble_eq_true rfl) rfl (Nat.le_of_ble_eq_true rfl) dX1_add_71 (fun r4 w5 => ?_)
  refine e_iast G (pc := 74) sh_25 dX1_add_74 (fun w6 => ?_)
  refine e_aload_n G (pc := 75) dX1_add_75 rfl rfl ?_
  refine e_getF G (pc := 76) sh_24 rfl lk_X1_11 dX1_add_76 ?_
  refine e_iload G (pc := 79) dX1_add_79 rfl ?_
  refine e_iconst G (pc := 81) (v := 3) dX1_add_81 (by decide) ?_
  refine e_iadd G (pc := 82) dX1_add_82 ?_
  refine e_iload_n G (pc := 83) dX1_add_83 rfl rfl ?_
  refine e_iast G (pc := 84) sh_25 dX1_add_84 (fun w7 => ?_)
  refine e_aload_n G (pc := 85) dX1_add_85 rfl rfl ?_
  refine e_dup G (pc := 86) dX1_add_86 rfl ?_
  refine e_getI G (pc := 87) sh_24 rfl lk_X1_19 dX1_add_87 ?_
  refine e_iconst G (pc := 90) (v := 1) dX1_add_90 (by decide) ?_
  refine e_iadd G (pc := 91) dX1_add_91 ?_
  refine e_putI G (pc := 92) sh_24 rfl lp_X1_19 rfl rfl dX1_add_92 (fun w8 => ?_)
  refine e_aload_n G (pc := 95) dX1_add_95 rfl rfl ?_
  refine e_aload_n G (pc := 96) dX1_add_96 rfl rfl ?_
  refine e_getI G (pc := 97) sh_24 rfl lk_X1_19 dX1_add_97 ?_
  refine e_putI G (pc := 100) sh_24 rfl lp_X1_35 rfl rfl dX1_add_100 (fun w9 => ?_)
  refine e_aload_n G (pc := 103) dX1_add_103 rfl rfl ?_
  refine e_getF G (pc := 104) sh_24 rfl lk_X1_15 dX1_add_104 ?_
  refine e_iload_n G (pc := 107) dX1_add_107 rfl rfl ?_
  refine e_iload_n G (pc := 108) dX1_add_108 rfl rfl ?_
  refine e_iload_n G (pc := 109) dX1_add_109 rfl rfl ?_
  refine e_cVv G (pc := 110) (As := [.int l1, .int l2, .int l3]) (st := []) cv_X1_38 (c_X4_set w9 l1 l2 l3 ) sh_1 (Nat.le_of_ble_eq_true rfl) rfl (Nat.le_of_ble_eq_true rfl) dX1_add_110 (fun r10 w11 => ?_)
  exact e_vret dX1_add_113
set_option maxRecDepth 100000 in
set_option maxHeartbeats 4000000 in
theorem t_X1_add {E : qE} {Γ : qC} (G : q_Ok E Γ RX1 cX1_add 5 (4)) (w : qW) (a1 : Int32) (a2 : Int32) (a3 : Int32) : q_Ev E Γ 5 (q_Fv E Γ cX1_add) 0 [some (.ref 24), some (.int a1), some (.int a2), some (.int a3), none] [] w (f_X1_add w a1 a2 a3) := by
  unfold f_X1_add
  refine e_aload_n G (pc := 0) dX1_add_0 rfl rfl ?_
  refine e_getI G (pc := 1) sh_24 rfl lk_X1_19 dX1_add_1 ?_
  refine e_bipush G (pc := 4) (v := 40) dX1_add_4 (by decide) ?_
  refine e_icmp_lt G (pc := 6) (tgt := 31) dX1_add_6 (by decide) ?_ ?_
  · exact t_X1_add_B31 G w a1 a2 a3 
  · refine e_aload_n G (pc := 9) dX1_add_9 rfl rfl ?_
    refine e_getF G (pc := 10) sh_24 rfl lk_X1_11 dX1_add_10 ?_
    refine e_iconst G (pc := 13) (v := 4) dX1_add_13 (by decide) ?_
    refine e_aload_n G (pc := 14) dX1_add_14 rfl rfl ?_
    refine e_getF G (pc := 15) sh_24 rfl lk_X1_11 dX1_add_15 ?_
    refine e_iconst G (pc := 18) (v := 0) dX1_add_18 (by decide) ?_
    refine e_sipush G (pc := 19) (v := 156) dX1_add_19 (by decide) ?_
    refine e_copyi G (pc := 22) cp_X1_23 sh_25 sh_25 (Nat.le_of_ble_eq_true rfl) (Nat.le_of_ble_eq_true rfl) dX1_add_22 (fun w1 => ?_)
    refine e_aload_n G (pc := 25) dX1_add_25 rfl rfl ?_
    refine e_bipush G (pc := 26) (v := 39) dX1_add_26 (by decide) ?_
    refine e_putI G (pc := 28) sh_24 rfl lp_X1_19 rfl rfl dX1_add_28 (fun w2 => ?_)
    exact t_X1_add_B31 G w2 a1 a2 a3 
set_option maxRecDepth 100000 in
set_option maxHeartbeats 4000000 in
theorem c_X1_add (w : qW) (a1 : Int32) (a2 : Int32) (a3 : Int32) : q_AC q_vv none (4) yX1_add cX1_add 5 [.ref 24, .int a1, .int a2, .int a3] w (f_X1_add w a1 a2 a3) := q_met_v (k := 1) (by decide +kernel) rfl rfl rfl (fun _ _ G => t_X1_add G w a1 a2 a3 )
set_option maxRecDepth 100000 in
set_option maxHeartbeats 4000000 in
theorem t_X1_takeBack {E : qE} {Γ : qC} (G : q_Ok E Γ RX1 cX1_takeBack 2 (4)) (w : qW) : q_Ev E Γ 2 (q_Fi E Γ cX1_takeBack) 0 [some (.ref 24), none] [] w (f_X1_takeBack w ) := by
  unfold f_X1_takeBack
  refine e_aload_n G (pc := 0) dX1_takeBack_0 rfl rfl ?_
  refine e_getI G (pc := 1) sh_24 rfl lk_X1_19 dX1_takeBack_1 ?_
  refine e_if_gt G (pc := 4) (tgt := 10) dX1_takeBack_4 (by decide) ?_ ?_
  · refine e_aload_n G (pc := 10) dX1_takeBack_10 rfl rfl ?_
    refine e_dup G (pc := 11) dX1_takeBack_11 rfl ?_
    refine e_getI G (pc := 12) sh_24 rfl lk_X1_19 dX1_takeBack_12 ?_
    refine e_iconst G (pc := 15) (v := 1) dX1_takeBack_15 (by decide) ?_
    refine e_isub G (pc := 16) dX1_takeBack_16 ?_
    refine e_putI G (pc := 17) sh_24 rfl lp_X1_19 rfl rfl dX1_takeBack_17 (fun w1 => ?_)
    refine e_aload_n G (pc := 20) dX1_takeBack_20 rfl rfl ?_
    refine e_getI G (pc := 21) sh_24 rfl lk_X1_19 dX1_takeBack_21 ?_
    refine e_iconst G (pc := 24) (v := 4) dX1_takeBack_24 (by decide) ?_
    refine e_imul G (pc := 25) dX1_takeBack_25 ?_
    refine e_ti (fun v2 => ?_)
    refine e_istore_n G (pc := 26) (L' := [some (.ref 24), some (.int v2)]) dX1_takeBack_26 rfl (Nat.le_of_ble_eq_true rfl) rfl ?_
    refine e_aload_n G (pc := 27) dX1_takeBack_27 rfl rfl ?_
    refine e_getF G (pc := 28) sh_24 rfl lk_X1_15 dX1_takeBack_28 ?_
    refine e_aload_n G (pc := 31) dX1_takeBack_31 rfl rfl ?_
    refine e_getF G (pc := 32) sh_24 rfl lk_X1_11 dX1_takeBack_32 ?_
    refine e_iload_n G (pc := 35) dX1_takeBack_35 rfl rfl ?_
    refine e_iald G (pc := 36) sh_25 dX1_takeBack_36 (fun v3 => ?_)
    refine e_aload_n G (pc := 37) dX1_takeBack_37 rfl rfl ?_
    refine e_getF G (pc := 38) sh_24 rfl lk_X1_11 dX1_takeBack_38 ?_
    refine e_iload_n G (pc := 41) dX1_takeBack_41 rfl rfl ?_
    refine e_iconst G (pc := 42) (v := 1) dX1_takeBack_42 (by decide) ?_
    refine e_iadd G (pc := 43) dX1_takeBack_43 ?_
    refine e_iald G (pc := 44) sh_25 dX1_takeBack_44 (fun v4 => ?_)
    refine e_aload_n G (pc := 45) dX1_takeBack_45 rfl rfl ?_
    refine e_getF G (pc := 46) sh_24 rfl lk_X1_11 dX1_takeBack_46 ?_
    refine e_iload_n G (pc := 49) dX1_takeBack_49 rfl rfl ?_
    refine e_iconst G (pc := 50) (v := 2) dX1_takeBack_50 (by decide) ?_
    refine e_iadd G (pc := 51) dX1_takeBack_51 ?_
    refine e_iald G (pc := 52) sh_25 dX1_takeBack_52 (fun v5 => ?_)
    refine e_cVv G (pc := 53) (As := [.int v3, .int v4, .int v5]) (st := []) cv_X1_38 (c_X4_set w1 v3 v4 v5 ) sh_1 (Nat.le_of_ble_eq_true rfl) rfl (Nat.le_of_ble_eq_true rfl) dX1_takeBack_53 (fun r6 w7 => ?_)
    refine e_aload_n G (pc := 56) dX1_takeBack_56 rfl rfl ?_
    refine e_getI G (pc := 57) sh_24 rfl lk_X1_19 dX1_takeBack_57 ?_
    exact e_iret dX1_takeBack_60
  · refine e_bipush G (pc := 7) (v := (-5)) dX1_takeBack_7 (by decide) ?_
    exact e_iret dX1_takeBack_9
set_option maxRecDepth 100000 in
set_option maxHeartbeats 4000000 in
theorem c_X1_takeBack (w : qW) : q_AC q_vi (some .int) (4) yX1_takeBack cX1_takeBack 2 [.ref 24] w (f_X1_takeBack w ) := q_met_i (k := 1) (by decide +kernel) rfl rfl rfl (fun _ _ G => t_X1_takeBack G w  )
set_option maxRecDepth 100000 in
set_option maxHeartbeats 4000000 in
theorem t_X1_doAgain {E : qE} {Γ : qC} (G : q_Ok E Γ RX1 cX1_doAgain 2 (4)) (w : qW) : q_Ev E Γ 2 (q_Fi E Γ cX1_doAgain) 0 [some (.ref 24), none] [] w (f_X1_doAgain w ) := by
  unfold f_X1_doAgain
  refine e_aload_n G (pc := 0) dX1_doAgain_0 rfl rfl ?_
  refine e_getI G (pc := 1) sh_24 rfl lk_X1_19 dX1_doAgain_1 ?_
  refine e_aload_n G (pc := 4) dX1_doAgain_4 rfl rfl ?_
  refine e_getI G (pc := 5) sh_24 rfl lk_X1_35 dX1_doAgain_5 ?_
  refine e_icmp_lt G (pc := 8) (tgt := 14) dX1_doAgain_8 (by decide) ?_ ?_
  · refine e_aload_n G (pc := 14) dX1_doAgain_14 rfl rfl ?_
    refine e_getI G (pc := 15) sh_24 rfl lk_X1_19 dX1_doAgain_15 ?_
    refine e_iconst G (pc := 18) (v := 4) dX1_doAgain_18 (by decide) ?_
    refine e_imul G (pc := 19) dX1_doAgain_19 ?_
    refine e_ti (fun v1 => ?_)
    refine e_istore_n G (pc := 20) (L' := [some (.ref 24), some (.int v1)]) dX1_doAgain_20 rfl (Nat.le_of_ble_eq_true rfl) rfl ?_
    refine e_aload_n G (pc := 21) dX1_doAgain_21 rfl rfl ?_
    refine e_getF G (pc := 22) sh_24 rfl lk_X1_15 dX1_doAgain_22 ?_
    refine e_aload_n G (pc := 25) dX1_doAgain_25 rfl rfl ?_
    refine e_getF G (pc := 26) sh_24 rfl lk_X1_11 dX1_doAgain_26 ?_
    refine e_iload_n G (pc := 29) dX1_doAgain_29 rfl rfl ?_
    refine e_iald G (pc := 30) sh_25 dX1_doAgain_30 (fun v2 => ?_)
    refine e_aload_n G (pc := 31) dX1_doAgain_31 rfl rfl ?_
    refine e_getF G (pc := 32) sh_24 rfl lk_X1_11 dX1_doAgain_32 ?_
    refine e_iload_n G (pc := 35) dX1_doAgain_35 rfl rfl ?_
    refine e_iconst G (pc := 36) (v := 1) dX1_doAgain_36 (by decide) ?_
    refine e_iadd G (pc := 37) dX1_doAgain_37 ?_
    refine e_iald G (pc := 38) sh_25 dX1_doAgain_38 (fun v3 => ?_)
    refine e_aload_n G (pc := 39) dX1_doAgain_39 rfl rfl ?_
    refine e_getF G (pc := 40) sh_24 rfl lk_X1_11 dX1_doAgain_40 ?_
    refine e_iload_n G (pc := 43) dX1_doAgain_43 rfl rfl ?_
    refine e_iconst G (pc := 44) (v := 3) dX1_doAgain_44 (by decide) ?_
    refine e_iadd G (pc := 45) dX1_doAgain_45 ?_
    refine e_iald G (pc := 46) sh_25 dX1_doAgain_46 (fun v4 => ?_)
    refine e_cVv G (pc := 47) (As := [.int v2, .int v3, .int v4]) (st := []) cv_X1_38 (c_X4_set w v2 v3 v4 ) sh_1 (Nat.le_of_ble_eq_true rfl) rfl (Nat.le_of_ble_eq_true rfl) dX1_doAgain_47 (fun r5 w6 => ?_)
    refine e_aload_n G (pc := 50) dX1_doAgain_50 rfl rfl ?_
    refine e_dup G (pc := 51) dX1_doAgain_51 rfl ?_
    refine e_getI G (pc := 52) sh_24 rfl lk_X1_19 dX1_doAgain_52 ?_
    refine e_iconst G (pc := 55) (v := 1) dX1_doAgain_55 (by decide) ?_
    refine e_iadd G (pc := 56) dX1_doAgain_56 ?_
    refine e_putI G (pc := 57) sh_24 rfl lp_X1_19 rfl rfl dX1_doAgain_57 (fun w7 => ?_)
    refine e_aload_n G (pc := 60) dX1_doAgain_60 rfl rfl ?_
    refine e_getI G (pc := 61) sh_24 rfl lk_X1_35 dX1_doAgain_61 ?_
    refine e_aload_n G (pc := 64) dX1_doAgain_64 rfl rfl ?_
    refine e_getI G (pc := 65) sh_24 rfl lk_X1_19 dX1_doAgain_65 ?_
    refine e_isub G (pc := 68) dX1_doAgain_68 ?_
    exact e_iret dX1_doAgain_69
  · refine e_bipush G (pc := 11) (v := (-5)) dX1_doAgain_11 (by decide) ?_
    exact e_iret dX1_doAgain_13
set_option maxRecDepth 100000 in
set_option maxHeartbeats 4000000 in
theorem c_X1_doAgain (w : qW) : q_AC q_vi (some .int) (4) yX1_doAgain cX1_doAgain 2 [.ref 24] w (f_X1_doAgain w ) := q_met_i (k := 1) (by decide +kernel) rfl rfl rfl (fun _ _ G => t_X1_doAgain G w  )
set_option maxRecDepth 100000 in
set_option maxHeartbeats 4000000 in
theorem t_X2_hour {E : qE} {Γ : qC} (G : q_Ok E Γ RX2 cX2_hour 1 (2)) (w : qW) : q_Ev E Γ 1 (q_Fi E Γ cX2_hour) 0 [some (.ref 26)] [] w (f_X2_hour w ) := by
  unfold f_X2_hour
  refine e_aload_n G (pc := 0) dX2_hour_0 rfl rfl ?_
  refine e_getF G (pc := 1) sh_26 rfl lk_X2_9 dX2_hour_1 ?_
  refine e_iconst G (pc := 4) (v := 5) dX2_hour_4 (by decide) ?_
  refine e_iald G (pc := 5) sh_27 dX2_hour_5 (fun v1 => ?_)
  exact e_iret dX2_hour_6
set_option maxRecDepth 100000 in
set_option maxHeartbeats 4000000 in
theorem c_X2_hour (w : qW) : q_AC q_vi (some .int) (2) yX2_hour cX2_hour 1 [.ref 26] w (f_X2_hour w ) := q_met_i (k := 0) (by decide +kernel) rfl rfl rfl (fun _ _ G => t_X2_hour G w  )
set_option maxRecDepth 100000 in
set_option maxHeartbeats 4000000 in
theorem t_X2_told {E : qE} {Γ : qC} (G : q_Ok E Γ RX2 cX2_told 2 (2)) (w : qW) (a1 : Int32) : q_Ev E Γ 2 (q_Fi E Γ cX2_told) 0 [some (.ref 26), some (.int a1)] [] w (f_X2_told w a1) := by
  unfold f_X2_told
  refine e_iload_n G (pc := 0) dX2_told_0 rfl rfl ?_
  refine e_if_lt G (pc := 1) (tgt := 22) dX2_told_1 (by decide) ?_ ?_
  · refine e_iconst G (pc := 22) (v := (-1)) dX2_told_22 (by decide) ?_
    exact e_iret dX2_told_23
  · refine e_iload_n G (pc := 4) dX2_told_4 rfl rfl ?_
    refine e_aload_n G (pc := 5) dX2_told_5 rfl rfl ?_
    refine e_getF G (pc := 6) sh_26 rfl lk_X2_9 dX2_told_6 ?_
    refine e_alen G (pc := 9) sh_27 dX2_told_9 ?_
    refine e_icmp_ge G (pc := 10) (tgt := 22) dX2_told_10 (by decide) ?_ ?_
    · refine e_iconst G (pc := 22) (v := (-1)) dX2_told_22 (by decide) ?_
      exact e_iret dX2_told_23
    · refine e_aload_n G (pc := 13) dX2_told_13 rfl rfl ?_
      refine e_getF G (pc := 14) sh_26 rfl lk_X2_9 dX2_told_14 ?_
      refine e_iload_n G (pc := 17) dX2_told_17 rfl rfl ?_
      refine e_iald G (pc := 18) sh_27 dX2_told_18 (fun v1 => ?_)
      refine e_goto G (pc := 19) (tgt := 23) dX2_told_19 (by decide) ?_
      exact e_iret dX2_told_23
set_option maxRecDepth 100000 in
set_option maxHeartbeats 4000000 in
theorem c_X2_told (w : qW) (a1 : Int32) : q_AC q_vi (some .int) (2) yX2_told cX2_told 2 [.ref 26, .int a1] w (f_X2_told w a1) := q_met_i (k := 0) (by decide +kernel) rfl rfl rfl (fun _ _ G => t_X2_told G w a1 )
set_option maxRecDepth 100000 in
set_option maxHeartbeats 4000000 in
theorem t_X2_hourPasses {E : qE} {Γ : qC} (G : q_Ok E Γ RX2 cX2_hourPasses 2 (5)) (w : qW) (a1 : Int32) : q_Ev E Γ 2 (q_Fv E Γ cX2_hourPasses) 0 [some (.ref 26), some (.int a1)] [] w (f_X2_hourPasses w a1) := by
  unfold f_X2_hourPasses
  refine e_aload_n G (pc := 0) dX2_hourPasses_0 rfl rfl ?_
  refine e_getF G (pc := 1) sh_26 rfl lk_X2_9 dX2_hourPasses_1 ?_
  refine e_iconst G (pc := 4) (v := 0) dX2_hourPasses_4 (by decide) ?_
  refine e_dup2 G (pc := 5) dX2_hourPasses_5 rfl rfl ?_
  refine e_iald G (pc := 6) sh_27 dX2_hourPasses_6 (fun v1 => ?_)
  refine e_iconst G (pc := 7) (v := 1) dX2_hourPasses_7 (by decide) ?_
  refine e_iadd G (pc := 8) dX2_hourPasses_8 ?_
  refine e_iast G (pc := 9) sh_27 dX2_hourPasses_9 (fun w2 => ?_)
  refine e_aload_n G (pc := 10) dX2_hourPasses_10 rfl rfl ?_
  refine e_getF G (pc := 11) sh_26 rfl lk_X2_9 dX2_hourPasses_11 ?_
  refine e_iconst G (pc := 14) (v := 3) dX2_hourPasses_14 (by decide) ?_
  refine e_dup2 G (pc := 15) dX2_hourPasses_15 rfl rfl ?_
  refine e_iald G (pc := 16) sh_27 dX2_hourPasses_16 (fun v3 => ?_)
  refine e_aload_n G (pc := 17) dX2_hourPasses_17 rfl rfl ?_
  refine e_getF G (pc := 18) sh_26 rfl lk_X2_27 dX2_hourPasses_18 ?_
  refine e_aload_n G (pc := 21) dX2_hourPasses_21 rfl rfl ?_
  refine e_getF G (pc := 22) sh_26 rfl lk_X2_27 dX2_hourPasses_22 ?_
  refine e_cVi G (pc := 25) (As := []) (st := [.ref 1, .int v3, .int 3, .ref 27]) cv_X2_31 (c_X4_everyone w2  ) sh_1 (Nat.le_of_ble_eq_true rfl) rfl (Nat.le_of_ble_eq_true rfl) dX2_hourPasses_25 (fun r4 w5 => ?_)
  refine e_cVi G (pc := 28) (As := [.int r4]) (st := [.int v3, .int 3, .ref 27]) cv_X2_37 (c_X4_payOf w5 r4 ) sh_1 (Nat.le_of_ble_eq_true rfl) rfl (Nat.le_of_ble_eq_true rfl) dX2_hourPasses_28 (fun r6 w7 => ?_)
  refine e_iadd G (pc := 31) dX2_hourPasses_31 ?_
  refine e_iast G (pc := 32) sh_27 dX2_hourPasses_32 (fun w8 => ?_)
  refine e_aload_n G (pc := 33) dX2_hourPasses_33 rfl rfl ?_
  refine e_getF G (pc := 34) sh_26 rfl lk_X2_9 dX2_hourPasses_34 ?_
  refine e_iconst G (pc := 37) (v := 4) dX2_hourPasses_37 (by decide) ?_
  refine e_dup2 G (pc := 38) dX2_hourPasses_38 rfl rfl ?_
  refine e_iald G (pc := 39) sh_27 dX2_hourPasses_39 (fun v9 => ?_)
  refine e_iload_n G (pc := 40) dX2_hourPasses_40 rfl rfl ?_
  refine e_iadd G (pc := 41) dX2_hourPasses_41 ?_
  refine e_iast G (pc := 42) sh_27 dX2_hourPasses_42 (fun w10 => ?_)
  refine e_aload_n G (pc := 43) dX2_hourPasses_43 rfl rfl ?_
  refine e_getF G (pc := 44) sh_26 rfl lk_X2_9 dX2_hourPasses_44 ?_
  refine e_iconst G (pc := 47) (v := 5) dX2_hourPasses_47 (by decide) ?_
  refine e_aload_n G (pc := 48) dX2_hourPasses_48 rfl rfl ?_
  refine e_getF G (pc := 49) sh_26 rfl lk_X2_9 dX2_hourPasses_49 ?_
  refine e_iconst G (pc := 52) (v := 5) dX2_hourPasses_52 (by decide) ?_
  refine e_iald G (pc := 53) sh_27 dX2_hourPasses_53 (fun v11 => ?_)
  refine e_iconst G (pc := 54) (v := 1) dX2_hourPasses_54 (by decide) ?_
  refine e_iadd G (pc := 55) dX2_hourPasses_55 ?_
  refine e_bipush G (pc := 56) (v := 12) dX2_hourPasses_56 (by decide) ?_
  refine e_irem G (pc := 58) dX2_hourPasses_58 (by decide) ?_
  refine e_iast G (pc := 59) sh_27 dX2_hourPasses_59 (fun w12 => ?_)
  exact e_vret dX2_hourPasses_60
set_option maxRecDepth 100000 in
set_option maxHeartbeats 4000000 in
theorem c_X2_hourPasses (w : qW) (a1 : Int32) : q_AC q_vv none (5) yX2_hourPasses cX2_hourPasses 2 [.ref 26, .int a1] w (f_X2_hourPasses w a1) := q_met_v (k := 0) (by decide +kernel) rfl rfl rfl (fun _ _ G => t_X2_hourPasses G w a1 )
set_option maxRecDepth 100000 in
set_option maxHeartbeats 4000000 in
theorem t_X10_cellAfter_B69 {E : qE} {Γ : qC} (G : q_Ok E Γ RX10 cX10_cellAfter 4 (2)) (w : qW) : q_Ev E Γ 4 (q_Fi E Γ cX10_cellAfter) 69 [none, none, none, none] [] w (f_X10_cellAfter_B69 w ) := by
  unfold f_X10_cellAfter_B69
  refine e_iconst G (pc := 69) (v := (-1)) dX10_cellAfter_69 (by decide) ?_
  refine e_goto G (pc := 70) (tgt := 79) dX10_cellAfter_70 (by decide) ?_
  exact e_iret dX10_cellAfter_79
set_option maxRecDepth 100000 in
set_option maxHeartbeats 4000000 in
theorem t_X10_cellAfter_B47 {E : qE} {Γ : qC} (G : q_Ok E Γ RX10 cX10_cellAfter 4 (2)) (w : qW) (l2 : Int32) (s0 : Int32) (s1 : Int32) : q_Ev E Γ 4 (q_Fi E Γ cX10_cellAfter) 47 [none, none, some (.int l2), none] [.int s0, .int s1] w (f_X10_cellAfter_B47 w l2 s0 s1) := by
  unfold f_X10_cellAfter_B47
  refine e_iadd G (pc := 47) dX10_cellAfter_47 ?_
  refine e_ti (fun v1 => ?_)
  refine e_istore_n G (pc := 48) (L' := [none, none, some (.int l2), some (.int v1)]) dX10_cellAfter_48 rfl (Nat.le_of_ble_eq_true rfl) rfl ?_
  refine e_iload_n G (pc := 49) dX10_cellAfter_49 rfl rfl ?_
  refine e_if_lt G (pc := 50) (tgt := 69) dX10_cellAfter_50 (by decide) ?_ ?_
  · refine e_wk (L' := [none, none, none, none]) (trivial) ?_
    exact t_X10_cellAfter_B69 G w  
  · refine e_iload_n G (pc := 53) dX10_cellAfter_53 rfl rfl ?_
    refine e_bipush G (pc := 54) (v := 12) dX10_cellAfter_54 (by decide) ?_
    refine e_icmp_ge G (pc := 56) (tgt := 69) dX10_cellAfter_56 (by decide) ?_ ?_
    · refine e_wk (L' := [none, none, none, none]) (trivial) ?_
      exact t_X10_cellAfter_B69 G w  
    · refine e_iload_n G (pc := 59) dX10_cellAfter_59 rfl rfl ?_
      refine e_if_lt G (pc := 60) (tgt := 69) dX10_cellAfter_60 (by decide) ?_ ?_
      · refine e_wk (L' := [none, none, none, none]) (trivial) ?_
        exact t_X10_cellAfter_B69 G w  
      · refine e_iload_n G (pc := 63) dX10_cellAfter_63 rfl rfl ?_
        refine e_bipush G (pc := 64) (v := 12) dX10_cellAfter_64 (by decide) ?_
        refine e_icmp_lt G (pc := 66) (tgt := 73) dX10_cellAfter_66 (by decide) ?_ ?_
        · refine e_bipush G (pc := 73) (v := 12) dX10_cellAfter_73 (by decide) ?_
          refine e_iload_n G (pc := 75) dX10_cellAfter_75 rfl rfl ?_
          refine e_imul G (pc := 76) dX10_cellAfter_76 ?_
          refine e_iload_n G (pc := 77) dX10_cellAfter_77 rfl rfl ?_
          refine e_iadd G (pc := 78) dX10_cellAfter_78 ?_
          exact e_iret dX10_cellAfter_79
        · refine e_wk (L' := [none, none, none, none]) (trivial) ?_
          exact t_X10_cellAfter_B69 G w  
set_option maxRecDepth 100000 in
set_option maxHeartbeats 4000000 in
theorem t_X10_cellAfter_B23 {E : qE} {Γ : qC} (G : q_Ok E Γ RX10 cX10_cellAfter 4 (2)) (w : qW) (l0 : Int32) (l1 : Int32) (s0 : Int32) (s1 : Int32) : q_Ev E Γ 4 (q_Fi E Γ cX10_cellAfter) 23 [some (.int l0), some (.int l1), none, none] [.int s0, .int s1] w (f_X10_cellAfter_B23 w l0 l1 s0 s1) := by
  unfold f_X10_cellAfter_B23
  refine e_iadd G (pc := 23) dX10_cellAfter_23 ?_
  refine e_ti (fun v1 => ?_)
  refine e_istore_n G (pc := 24) (L' := [some (.int l0), some (.int l1), some (.int v1), none]) dX10_cellAfter_24 rfl (Nat.le_of_ble_eq_true rfl) rfl ?_
  refine e_iload_n G (pc := 25) dX10_cellAfter_25 rfl rfl ?_
  refine e_bipush G (pc := 26) (v := 12) dX10_cellAfter_26 (by decide) ?_
  refine e_idiv G (pc := 28) dX10_cellAfter_28 (by decide) ?_
  refine e_iload_n G (pc := 29) dX10_cellAfter_29 rfl rfl ?_
  refine e_iconst G (pc := 30) (v := 2) dX10_cellAfter_30 (by decide) ?_
  refine e_icmp_ne G (pc := 31) (tgt := 38) dX10_cellAfter_31 (by decide) ?_ ?_
  · refine e_iload_n G (pc := 38) dX10_cellAfter_38 rfl rfl ?_
    refine e_if_ne G (pc := 39) (tgt := 46) dX10_cellAfter_39 (by decide) ?_ ?_
    · refine e_iconst G (pc := 46) (v := 0) dX10_cellAfter_46 (by decide) ?_
      refine e_wk (L' := [none, none, some (.int v1), none]) (And.intro rfl (trivial)) ?_
      exact t_X10_cellAfter_B47 G w v1 0 (l0 / 12) 
    · refine e_iconst G (pc := 42) (v := (-1)) dX10_cellAfter_42 (by decide) ?_
      refine e_goto G (pc := 43) (tgt := 47) dX10_cellAfter_43 (by decide) ?_
      refine e_wk (L' := [none, none, some (.int v1), none]) (And.intro rfl (trivial)) ?_
      exact t_X10_cellAfter_B47 G w v1 (-1) (l0 / 12) 
  · refine e_iconst G (pc := 34) (v := 1) dX10_cellAfter_34 (by decide) ?_
    refine e_goto G (pc := 35) (tgt := 47) dX10_cellAfter_35 (by decide) ?_
    refine e_wk (L' := [none, none, some (.int v1), none]) (And.intro rfl (trivial)) ?_
    exact t_X10_cellAfter_B47 G w v1 1 (l0 / 12) 
set_option maxRecDepth 100000 in
set_option maxHeartbeats 4000000 in
theorem t_X10_cellAfter {E : qE} {Γ : qC} (G : q_Ok E Γ RX10 cX10_cellAfter 4 (2)) (w : qW) (a1 : Int32) (a2 : Int32) : q_Ev E Γ 4 (q_Fi E Γ cX10_cellAfter) 0 [some (.int a1), some (.int a2), none, none] [] w (f_X10_cellAfter w a1 a2) := by
  unfold f_X10_cellAfter
  refine e_iload_n G (pc := 0) dX10_cellAfter_0 rfl rfl ?_
  refine e_bipush G (pc := 1) (v := 12) dX10_cellAfter_1 (by decide) ?_
  refine e_irem G (pc := 3) dX10_cellAfter_3 (by decide) ?_
  refine e_iload_n G (pc := 4) dX10_cellAfter_4 rfl rfl ?_
  refine e_iconst G (pc := 5) (v := 1) dX10_cellAfter_5 (by decide) ?_
  refine e_icmp_ne G (pc := 6) (tgt := 13) dX10_cellAfter_6 (by decide) ?_ ?_
  · refine e_iload_n G (pc := 13) dX10_cellAfter_13 rfl rfl ?_
    refine e_iconst G (pc := 14) (v := 3) dX10_cellAfter_14 (by decide) ?_
    refine e_icmp_ne G (pc := 15) (tgt := 22) dX10_cellAfter_15 (by decide) ?_ ?_
    · refine e_iconst G (pc := 22) (v := 0) dX10_cellAfter_22 (by decide) ?_
      exact t_X10_cellAfter_B23 G w a1 a2 0 (q_rem a1 12) 
    · refine e_iconst G (pc := 18) (v := (-1)) dX10_cellAfter_18 (by decide) ?_
      refine e_goto G (pc := 19) (tgt := 23) dX10_cellAfter_19 (by decide) ?_
      exact t_X10_cellAfter_B23 G w a1 a2 (-1) (q_rem a1 12) 
  · refine e_iconst G (pc := 9) (v := 1) dX10_cellAfter_9 (by decide) ?_
    refine e_goto G (pc := 10) (tgt := 23) dX10_cellAfter_10 (by decide) ?_
    exact t_X10_cellAfter_B23 G w a1 a2 1 (q_rem a1 12) 
set_option maxRecDepth 100000 in
set_option maxHeartbeats 4000000 in
theorem c_X10_cellAfter (w : qW) (a1 : Int32) (a2 : Int32) : q_AC q_vi (some .int) (2) yX10_cellAfter cX10_cellAfter 4 [.int a1, .int a2] w (f_X10_cellAfter w a1 a2) := q_met_i (k := 2) (by decide +kernel) rfl rfl rfl (fun _ _ G => t_X10_cellAfter G w a1 a2 )
set_option maxRecDepth 100000 in
set_option maxHeartbeats 4000000 in
theorem t_X2_manSteps {E : qE} {Γ : qC} (G : q_Ok E Γ RX2 cX2_manSteps 4 (4)) (w : qW) (a1 : Int32) (a2 : Int32) : q_Ev E Γ 4 (q_Fi E Γ cX2_manSteps) 0 [some (.ref 26), some (.int a1), some (.int a2), none] [] w (f_X2_manSteps w a1 a2) := by
  unfold f_X2_manSteps
  refine e_aload_n G (pc := 0) dX2_manSteps_0 rfl rfl ?_
  refine e_getF G (pc := 1) sh_26 rfl lk_X2_27 dX2_manSteps_1 ?_
  refine e_iload_n G (pc := 4) dX2_manSteps_4 rfl rfl ?_
  refine e_iconst G (pc := 5) (v := 0) dX2_manSteps_5 (by decide) ?_
  refine e_cVi G (pc := 6) (As := [.int a1, .int 0]) (st := []) cv_X2_41 (c_X4_get w a1 0 ) sh_1 (Nat.le_of_ble_eq_true rfl) rfl (Nat.le_of_ble_eq_true rfl) dX2_manSteps_6 (fun r1 w2 => ?_)
  refine e_iload_n G (pc := 9) dX2_manSteps_9 rfl rfl ?_
  refine e_cNi G (pc := 10) (ci := 0) (id := 0) (sl := []) (As := [.int r1, .int a2]) (st := []) cn_X2_45 (c_X10_cellAfter w2 r1 a2 ) (Nat.le_of_ble_eq_true rfl) rfl (Nat.le_of_ble_eq_true rfl) dX2_manSteps_10 (fun r3 w4 => ?_)
  refine e_istore_n G (pc := 13) (L' := [some (.ref 26), some (.int a1), some (.int a2), some (.int r3)]) dX2_manSteps_13 rfl (Nat.le_of_ble_eq_true rfl) rfl ?_
  refine e_iload_n G (pc := 14) dX2_manSteps_14 rfl rfl ?_
  refine e_if_ge G (pc := 15) (tgt := 21) dX2_manSteps_15 (by decide) ?_ ?_
  · refine e_aload_n G (pc := 21) dX2_manSteps_21 rfl rfl ?_
    refine e_getF G (pc := 22) sh_26 rfl lk_X2_27 dX2_manSteps_22 ?_
    refine e_iload_n G (pc := 25) dX2_manSteps_25 rfl rfl ?_
    refine e_iconst G (pc := 26) (v := 0) dX2_manSteps_26 (by decide) ?_
    refine e_iload_n G (pc := 27) dX2_manSteps_27 rfl rfl ?_
    refine e_cVv G (pc := 28) (As := [.int a1, .int 0, .int r3]) (st := []) cv_X2_48 (c_X4_set w4 a1 0 r3 ) sh_1 (Nat.le_of_ble_eq_true rfl) rfl (Nat.le_of_ble_eq_true rfl) dX2_manSteps_28 (fun r5 w6 => ?_)
    refine e_aload_n G (pc := 31) dX2_manSteps_31 rfl rfl ?_
    refine e_getF G (pc := 32) sh_26 rfl lk_X2_9 dX2_manSteps_32 ?_
    refine e_iconst G (pc := 35) (v := 1) dX2_manSteps_35 (by decide) ?_
    refine e_dup2 G (pc := 36) dX2_manSteps_36 rfl rfl ?_
    refine e_iald G (pc := 37) sh_27 dX2_manSteps_37 (fun v7 => ?_)
    refine e_iconst G (pc := 38) (v := 1) dX2_manSteps_38 (by decide) ?_
    refine e_iadd G (pc := 39) dX2_manSteps_39 ?_
    refine e_iast G (pc := 40) sh_27 dX2_manSteps_40 (fun w8 => ?_)
    refine e_iload_n G (pc := 41) dX2_manSteps_41 rfl rfl ?_
    exact e_iret dX2_manSteps_42
  · refine e_bipush G (pc := 18) (v := (-5)) dX2_manSteps_18 (by decide) ?_
    exact e_iret dX2_manSteps_20
set_option maxRecDepth 100000 in
set_option maxHeartbeats 4000000 in
theorem c_X2_manSteps (w : qW) (a1 : Int32) (a2 : Int32) : q_AC q_vi (some .int) (4) yX2_manSteps cX2_manSteps 4 [.ref 26, .int a1, .int a2] w (f_X2_manSteps w a1 a2) := q_met_i (k := 1) (by decide +kernel) rfl rfl rfl (fun _ _ G => t_X2_manSteps G w a1 a2 )
set_option maxRecDepth 100000 in
set_option maxHeartbeats 4000000 in
theorem t_X2_birdGetsIn {E : qE} {Γ : qC} (G : q_Ok E Γ RX2 cX2_birdGetsIn 3 (4)) (w : qW) (a1 : Int32) : q_Ev E Γ 3 (q_Fi E Γ cX2_birdGetsIn) 0 [some (.ref 26), some (.int a1), none] [] w (f_X2_birdGetsIn w a1) := by
  unfold f_X2_birdGetsIn
  refine e_iconst G (pc := 0) (v := 4) dX2_birdGetsIn_0 (by decide) ?_
  refine e_aload_n G (pc := 1) dX2_birdGetsIn_1 rfl rfl ?_
  refine e_getF G (pc := 2) sh_26 rfl lk_X2_27 dX2_birdGetsIn_2 ?_
  refine e_iload_n G (pc := 5) dX2_birdGetsIn_5 rfl rfl ?_
  refine e_iconst G (pc := 6) (v := 2) dX2_birdGetsIn_6 (by decide) ?_
  refine e_cVi G (pc := 7) (As := [.int a1, .int 2]) (st := [.int 4]) cv_X2_41 (c_X4_get w a1 2 ) sh_1 (Nat.le_of_ble_eq_true rfl) rfl (Nat.le_of_ble_eq_true rfl) dX2_birdGetsIn_7 (fun r1 w2 => ?_)
  refine e_iconst G (pc := 10) (v := 1) dX2_birdGetsIn_10 (by decide) ?_
  refine e_iadd G (pc := 11) dX2_birdGetsIn_11 ?_
  refine e_mmin G (pc := 12) mt_X2_52 (Nat.le_of_ble_eq_true rfl) (Nat.le_of_ble_eq_true rfl) dX2_birdGetsIn_12 ?_
  refine e_ti (fun v3 => ?_)
  refine e_istore_n G (pc := 15) (L' := [some (.ref 26), some (.int a1), some (.int v3)]) dX2_birdGetsIn_15 rfl (Nat.le_of_ble_eq_true rfl) rfl ?_
  refine e_aload_n G (pc := 16) dX2_birdGetsIn_16 rfl rfl ?_
  refine e_getF G (pc := 17) sh_26 rfl lk_X2_27 dX2_birdGetsIn_17 ?_
  refine e_iload_n G (pc := 20) dX2_birdGetsIn_20 rfl rfl ?_
  refine e_iconst G (pc := 21) (v := 2) dX2_birdGetsIn_21 (by decide) ?_
  refine e_iload_n G (pc := 22) dX2_birdGetsIn_22 rfl rfl ?_
  refine e_cVv G (pc := 23) (As := [.int a1, .int 2, .int v3]) (st := []) cv_X2_48 (c_X4_set w2 a1 2 v3 ) sh_1 (Nat.le_of_ble_eq_true rfl) rfl (Nat.le_of_ble_eq_true rfl) dX2_birdGetsIn_23 (fun r4 w5 => ?_)
  refine e_aload_n G (pc := 26) dX2_birdGetsIn_26 rfl rfl ?_
  refine e_getF G (pc := 27) sh_26 rfl lk_X2_9 dX2_birdGetsIn_27 ?_
  refine e_iconst G (pc := 30) (v := 2) dX2_birdGetsIn_30 (by decide) ?_
  refine e_dup2 G (pc := 31) dX2_birdGetsIn_31 rfl rfl ?_
  refine e_iald G (pc := 32) sh_27 dX2_birdGetsIn_32 (fun v6 => ?_)
  refine e_iconst G (pc := 33) (v := 1) dX2_birdGetsIn_33 (by decide) ?_
  refine e_iadd G (pc := 34) dX2_birdGetsIn_34 ?_
  refine e_iast G (pc := 35) sh_27 dX2_birdGetsIn_35 (fun w7 => ?_)
  refine e_iload_n G (pc := 36) dX2_birdGetsIn_36 rfl rfl ?_
  exact e_iret dX2_birdGetsIn_37
set_option maxRecDepth 100000 in
set_option maxHeartbeats 4000000 in
theorem c_X2_birdGetsIn (w : qW) (a1 : Int32) : q_AC q_vi (some .int) (4) yX2_birdGetsIn cX2_birdGetsIn 3 [.ref 26, .int a1] w (f_X2_birdGetsIn w a1) := q_met_i (k := 1) (by decide +kernel) rfl rfl rfl (fun _ _ G => t_X2_birdGetsIn G w a1 )
set_option maxRecDepth 100000 in
set_option maxHeartbeats 4000000 in
theorem t_X2_keepImage_B75 {E : qE} {Γ : qC} (G : q_Ok E Γ RX2 cX2_keepImage 2 (4)) (k75 : qW → Int32 → Option (Int32 × qW)) (hk75 : ∀ (w : qW) (l1 : Int32), q_Ev E Γ 2 (q_Fi E Γ cX2_keepImage) 75 [some (.ref 26), some (.int l1)] [] w (k75 w l1)) (w : qW) (l1 : Int32) : q_Ev E Γ 2 (q_Fi E Γ cX2_keepImage) 75 [some (.ref 26), some (.int l1)] [] w (f_X2_keepImage_B75 k75 w l1) := by
  unfold f_X2_keepImage_B75
  refine e_iload_n G (pc := 75) dX2_keepImage_75 rfl rfl ?_
  refine e_aload_n G (pc := 76) dX2_keepImage_76 rfl rfl ?_
  refine e_getI G (pc := 77) sh_26 rfl lk_X2_71 dX2_keepImage_77 ?_
  refine e_icmp_ge G (pc := 80) (tgt := 104) dX2_keepImage_80 (by decide) ?_ ?_
  · refine e_aload_n G (pc := 104) dX2_keepImage_104 rfl rfl ?_
    refine e_getF G (pc := 105) sh_26 rfl lk_X2_9 dX2_keepImage_105 ?_
    refine e_iconst G (pc := 108) (v := 0) dX2_keepImage_108 (by decide) ?_
    refine e_aload_n G (pc := 109) dX2_keepImage_109 rfl rfl ?_
    refine e_getF G (pc := 110) sh_26 rfl lk_X2_24 dX2_keepImage_110 ?_
    refine e_iconst G (pc := 113) (v := 0) dX2_keepImage_113 (by decide) ?_
    refine e_aload_n G (pc := 114) dX2_keepImage_114 rfl rfl ?_
    refine e_getF G (pc := 115) sh_26 rfl lk_X2_9 dX2_keepImage_115 ?_
    refine e_alen G (pc := 118) sh_27 dX2_keepImage_118 ?_
    refine e_copyi G (pc := 119) cp_X2_74 sh_27 sh_31 (Nat.le_of_ble_eq_true rfl) (Nat.le_of_ble_eq_true rfl) dX2_keepImage_119 (fun w1 => ?_)
    refine e_aload_n G (pc := 122) dX2_keepImage_122 rfl rfl ?_
    refine e_getF G (pc := 123) sh_26 rfl lk_X2_9 dX2_keepImage_123 ?_
    refine e_iconst G (pc := 126) (v := 0) dX2_keepImage_126 (by decide) ?_
    refine e_iald G (pc := 127) sh_27 dX2_keepImage_127 (fun v2 => ?_)
    exact e_iret dX2_keepImage_128
  · refine e_aload_n G (pc := 83) dX2_keepImage_83 rfl rfl ?_
    refine e_getF G (pc := 84) sh_26 rfl lk_X2_21 dX2_keepImage_84 ?_
    refine e_iload_n G (pc := 87) dX2_keepImage_87 rfl rfl ?_
    refine e_aload_n G (pc := 88) dX2_keepImage_88 rfl rfl ?_
    refine e_getF G (pc := 89) sh_26 rfl lk_X2_27 dX2_keepImage_89 ?_
    refine e_iload_n G (pc := 92) dX2_keepImage_92 rfl rfl ?_
    refine e_iconst G (pc := 93) (v := 4) dX2_keepImage_93 (by decide) ?_
    refine e_cVi G (pc := 94) (As := [.int l1, .int 4]) (st := [.int l1, .ref 30]) cv_X2_41 (c_X4_get w l1 4 ) sh_1 (Nat.le_of_ble_eq_true rfl) rfl (Nat.le_of_ble_eq_true rfl) dX2_keepImage_94 (fun r3 w4 => ?_)
    refine e_iast G (pc := 97) sh_30 dX2_keepImage_97 (fun w5 => ?_)
    refine e_iinc G (pc := 98) (x := l1) (v := l1 + 1) (L' := fun v6 => [some (.ref 26), some (.int v6)]) dX2_keepImage_98 (Nat.le_of_ble_eq_true rfl) rfl (by rfl) (fun _ => rfl) (fun v6 => ?_)
    refine e_goto G (pc := 101) (tgt := 75) dX2_keepImage_101 (by decide) ?_
    exact hk75 w5 v6 
set_option maxRecDepth 100000 in
set_option maxHeartbeats 4000000 in
theorem t_X2_keepImage_R75 {E : qE} {Γ : qC} (G : q_Ok E Γ RX2 cX2_keepImage 2 (4)) : ∀ (fuel : Nat) (w : qW) (l1 : Int32) , q_Ev E Γ 2 (q_Fi E Γ cX2_keepImage) 75 [some (.ref 26), some (.int l1)] [] w (f_X2_keepImage_R75 fuel w l1) := by
  intro fuel
  induction fuel with
  | zero => intros; exact e_none
  | succ fuel ih =>
    intro w l1 
    exact t_X2_keepImage_B75 G _ ih w l1 
set_option maxRecDepth 100000 in
set_option maxHeartbeats 4000000 in
theorem t_X2_keepImage_B29 {E : qE} {Γ : qC} (G : q_Ok E Γ RX2 cX2_keepImage 2 (4)) (k29 : qW → Int32 → Option (Int32 × qW)) (hk29 : ∀ (w : qW) (l1 : Int32), q_Ev E Γ 2 (q_Fi E Γ cX2_keepImage) 29 [some (.ref 26), some (.int l1)] [] w (k29 w l1)) (w : qW) (l1 : Int32) : q_Ev E Γ 2 (q_Fi E Γ cX2_keepImage) 29 [some (.ref 26), some (.int l1)] [] w (f_X2_keepImage_B29 k29 w l1) := by
  unfold f_X2_keepImage_B29
  refine e_iload_n G (pc := 29) dX2_keepImage_29 rfl rfl ?_
  refine e_aload_n G (pc := 30) dX2_keepImage_30 rfl rfl ?_
  refine e_getI G (pc := 31) sh_26 rfl lk_X2_65 dX2_keepImage_31 ?_
  refine e_icmp_ge G (pc := 34) (tgt := 73) dX2_keepImage_34 (by decide) ?_ ?_
  · refine e_iconst G (pc := 73) (v := 0) dX2_keepImage_73 (by decide) ?_
    refine e_istore_n G (pc := 74) (L' := [some (.ref 26), some (.int 0)]) dX2_keepImage_74 rfl (Nat.le_of_ble_eq_true rfl) rfl ?_
    exact t_X2_keepImage_R75 G  q_fuel w 0 
  · refine e_aload_n G (pc := 37) dX2_keepImage_37 rfl rfl ?_
    refine e_getF G (pc := 38) sh_26 rfl lk_X2_15 dX2_keepImage_38 ?_
    refine e_iload_n G (pc := 41) dX2_keepImage_41 rfl rfl ?_
    refine e_aload_n G (pc := 42) dX2_keepImage_42 rfl rfl ?_
    refine e_getF G (pc := 43) sh_26 rfl lk_X2_27 dX2_keepImage_43 ?_
    refine e_iload_n G (pc := 46) dX2_keepImage_46 rfl rfl ?_
    refine e_iconst G (pc := 47) (v := 0) dX2_keepImage_47 (by decide) ?_
    refine e_cVi G (pc := 48) (As := [.int l1, .int 0]) (st := [.int l1, .ref 28]) cv_X2_41 (c_X4_get w l1 0 ) sh_1 (Nat.le_of_ble_eq_true rfl) rfl (Nat.le_of_ble_eq_true rfl) dX2_keepImage_48 (fun r1 w2 => ?_)
    refine e_iast G (pc := 51) sh_28 dX2_keepImage_51 (fun w3 => ?_)
    refine e_aload_n G (pc := 52) dX2_keepImage_52 rfl rfl ?_
    refine e_getF G (pc := 53) sh_26 rfl lk_X2_18 dX2_keepImage_53 ?_
    refine e_iload_n G (pc := 56) dX2_keepImage_56 rfl rfl ?_
    refine e_aload_n G (pc := 57) dX2_keepImage_57 rfl rfl ?_
    refine e_getF G (pc := 58) sh_26 rfl lk_X2_27 dX2_keepImage_58 ?_
    refine e_iload_n G (pc := 61) dX2_keepImage_61 rfl rfl ?_
    refine e_iconst G (pc := 62) (v := 2) dX2_keepImage_62 (by decide) ?_
    refine e_cVi G (pc := 63) (As := [.int l1, .int 2]) (st := [.int l1, .ref 29]) cv_X2_41 (c_X4_get w3 l1 2 ) sh_1 (Nat.le_of_ble_eq_true rfl) rfl (Nat.le_of_ble_eq_true rfl) dX2_keepImage_63 (fun r4 w5 => ?_)
    refine e_iast G (pc := 66) sh_29 dX2_keepImage_66 (fun w6 => ?_)
    refine e_iinc G (pc := 67) (x := l1) (v := l1 + 1) (L' := fun v7 => [some (.ref 26), some (.int v7)]) dX2_keepImage_67 (Nat.le_of_ble_eq_true rfl) rfl (by rfl) (fun _ => rfl) (fun v7 => ?_)
    refine e_goto G (pc := 70) (tgt := 29) dX2_keepImage_70 (by decide) ?_
    exact hk29 w6 v7 
set_option maxRecDepth 100000 in
set_option maxHeartbeats 4000000 in
theorem t_X2_keepImage_R29 {E : qE} {Γ : qC} (G : q_Ok E Γ RX2 cX2_keepImage 2 (4)) : ∀ (fuel : Nat) (w : qW) (l1 : Int32) , q_Ev E Γ 2 (q_Fi E Γ cX2_keepImage) 29 [some (.ref 26), some (.int l1)] [] w (f_X2_keepImage_R29 fuel w l1) := by
  intro fuel
  induction fuel with
  | zero => intros; exact e_none
  | succ fuel ih =>
    intro w l1 
    exact t_X2_keepImage_B29 G _ ih w l1 
set_option maxRecDepth 100000 in
set_option maxHeartbeats 4000000 in
theorem t_X2_keepImage {E : qE} {Γ : qC} (G : q_Ok E Γ RX2 cX2_keepImage 2 (4)) (w : qW) : q_Ev E Γ 2 (q_Fi E Γ cX2_keepImage) 0 [some (.ref 26), none] [] w (f_X2_keepImage w ) := by
  unfold f_X2_keepImage
  refine e_aload_n G (pc := 0) dX2_keepImage_0 rfl rfl ?_
  refine e_iconst G (pc := 1) (v := 1) dX2_keepImage_1 (by decide) ?_
  refine e_putI G (pc := 2) sh_26 rfl lp_X2_57 (by decide) (by decide) dX2_keepImage_2 (fun w1 => ?_)
  refine e_aload_n G (pc := 5) dX2_keepImage_5 rfl rfl ?_
  refine e_aload_n G (pc := 6) dX2_keepImage_6 rfl rfl ?_
  refine e_getF G (pc := 7) sh_26 rfl lk_X2_27 dX2_keepImage_7 ?_
  refine e_getI G (pc := 10) sh_1 rfl lk_X2_61 dX2_keepImage_10 ?_
  refine e_putI G (pc := 13) sh_26 rfl lp_X2_65 rfl rfl dX2_keepImage_13 (fun w2 => ?_)
  refine e_aload_n G (pc := 16) dX2_keepImage_16 rfl rfl ?_
  refine e_aload_n G (pc := 17) dX2_keepImage_17 rfl rfl ?_
  refine e_getF G (pc := 18) sh_26 rfl lk_X2_27 dX2_keepImage_18 ?_
  refine e_getI G (pc := 21) sh_1 rfl lk_X2_68 dX2_keepImage_21 ?_
  refine e_putI G (pc := 24) sh_26 rfl lp_X2_71 rfl rfl dX2_keepImage_24 (fun w3 => ?_)
  refine e_iconst G (pc := 27) (v := 0) dX2_keepImage_27 (by decide) ?_
  refine e_istore_n G (pc := 28) (L' := [some (.ref 26), some (.int 0)]) dX2_keepImage_28 rfl (Nat.le_of_ble_eq_true rfl) rfl ?_
  exact t_X2_keepImage_R29 G  q_fuel w3 0 
set_option maxRecDepth 100000 in
set_option maxHeartbeats 4000000 in
theorem c_X2_keepImage (w : qW) : q_AC q_vi (some .int) (4) yX2_keepImage cX2_keepImage 2 [.ref 26] w (f_X2_keepImage w ) := q_met_i (k := 1) (by decide +kernel) rfl rfl rfl (fun _ _ G => t_X2_keepImage G w  )
set_option maxRecDepth 100000 in
set_option maxHeartbeats 4000000 in
theorem t_X2_layBack_B58 {E : qE} {Γ : qC} (G : q_Ok E Γ RX2 cX2_layBack 2 (4)) (k58 : qW → Int32 → Option (Int32 × qW)) (hk58 : ∀ (w : qW) (l1 : Int32), q_Ev E Γ 2 (q_Fi E Γ cX2_layBack) 58 [some (.ref 26), some (.int l1)] [] w (k58 w l1)) (w : qW) (l1 : Int32) : q_Ev E Γ 2 (q_Fi E Γ cX2_layBack) 58 [some (.ref 26), some (.int l1)] [] w (f_X2_layBack_B58 k58 w l1) := by
  unfold f_X2_layBack_B58
  refine e_iload_n G (pc := 58) dX2_layBack_58 rfl rfl ?_
  refine e_aload_n G (pc := 59) dX2_layBack_59 rfl rfl ?_
  refine e_getI G (pc := 60) sh_26 rfl lk_X2_71 dX2_layBack_60 ?_
  refine e_icmp_ge G (pc := 63) (tgt := 87) dX2_layBack_63 (by decide) ?_ ?_
  · refine e_aload_n G (pc := 87) dX2_layBack_87 rfl rfl ?_
    refine e_getF G (pc := 88) sh_26 rfl lk_X2_24 dX2_layBack_88 ?_
    refine e_iconst G (pc := 91) (v := 0) dX2_layBack_91 (by decide) ?_
    refine e_aload_n G (pc := 92) dX2_layBack_92 rfl rfl ?_
    refine e_getF G (pc := 93) sh_26 rfl lk_X2_9 dX2_layBack_93 ?_
    refine e_iconst G (pc := 96) (v := 0) dX2_layBack_96 (by decide) ?_
    refine e_aload_n G (pc := 97) dX2_layBack_97 rfl rfl ?_
    refine e_getF G (pc := 98) sh_26 rfl lk_X2_9 dX2_layBack_98 ?_
    refine e_alen G (pc := 101) sh_27 dX2_layBack_101 ?_
    refine e_copyi G (pc := 102) cp_X2_74 sh_31 sh_27 (Nat.le_of_ble_eq_true rfl) (Nat.le_of_ble_eq_true rfl) dX2_layBack_102 (fun w1 => ?_)
    refine e_aload_n G (pc := 105) dX2_layBack_105 rfl rfl ?_
    refine e_getF G (pc := 106) sh_26 rfl lk_X2_9 dX2_layBack_106 ?_
    refine e_iconst G (pc := 109) (v := 0) dX2_layBack_109 (by decide) ?_
    refine e_iald G (pc := 110) sh_27 dX2_layBack_110 (fun v2 => ?_)
    exact e_iret dX2_layBack_111
  · refine e_aload_n G (pc := 66) dX2_layBack_66 rfl rfl ?_
    refine e_getF G (pc := 67) sh_26 rfl lk_X2_27 dX2_layBack_67 ?_
    refine e_iload_n G (pc := 70) dX2_layBack_70 rfl rfl ?_
    refine e_iconst G (pc := 71) (v := 4) dX2_layBack_71 (by decide) ?_
    refine e_aload_n G (pc := 72) dX2_layBack_72 rfl rfl ?_
    refine e_getF G (pc := 73) sh_26 rfl lk_X2_21 dX2_layBack_73 ?_
    refine e_iload_n G (pc := 76) dX2_layBack_76 rfl rfl ?_
    refine e_iald G (pc := 77) sh_30 dX2_layBack_77 (fun v3 => ?_)
    refine e_cVv G (pc := 78) (As := [.int l1, .int 4, .int v3]) (st := []) cv_X2_48 (c_X4_set w l1 4 v3 ) sh_1 (Nat.le_of_ble_eq_true rfl) rfl (Nat.le_of_ble_eq_true rfl) dX2_layBack_78 (fun r4 w5 => ?_)
    refine e_iinc G (pc := 81) (x := l1) (v := l1 + 1) (L' := fun v6 => [some (.ref 26), some (.int v6)]) dX2_layBack_81 (Nat.le_of_ble_eq_true rfl) rfl (by rfl) (fun _ => rfl) (fun v6 => ?_)
    refine e_goto G (pc := 84) (tgt := 58) dX2_layBack_84 (by decide) ?_
    exact hk58 w5 v6 
set_option maxRecDepth 100000 in
set_option maxHeartbeats 4000000 in
theorem t_X2_layBack_R58 {E : qE} {Γ : qC} (G : q_Ok E Γ RX2 cX2_layBack 2 (4)) : ∀ (fuel : Nat) (w : qW) (l1 : Int32) , q_Ev E Γ 2 (q_Fi E Γ cX2_layBack) 58 [some (.ref 26), some (.int l1)] [] w (f_X2_layBack_R58 fuel w l1) := by
  intro fuel
  induction fuel with
  | zero => intros; exact e_none
  | succ fuel ih =>
    intro w l1 
    exact t_X2_layBack_B58 G _ ih w l1 
set_option maxRecDepth 100000 in
set_option maxHeartbeats 4000000 in
theorem t_X2_layBack_B12 {E : qE} {Γ : qC} (G : q_Ok E Γ RX2 cX2_layBack 2 (4)) (k12 : qW → Int32 → Option (Int32 × qW)) (hk12 : ∀ (w : qW) (l1 : Int32), q_Ev E Γ 2 (q_Fi E Γ cX2_layBack) 12 [some (.ref 26), some (.int l1)] [] w (k12 w l1)) (w : qW) (l1 : Int32) : q_Ev E Γ 2 (q_Fi E Γ cX2_layBack) 12 [some (.ref 26), some (.int l1)] [] w (f_X2_layBack_B12 k12 w l1) := by
  unfold f_X2_layBack_B12
  refine e_iload_n G (pc := 12) dX2_layBack_12 rfl rfl ?_
  refine e_aload_n G (pc := 13) dX2_layBack_13 rfl rfl ?_
  refine e_getI G (pc := 14) sh_26 rfl lk_X2_65 dX2_layBack_14 ?_
  refine e_icmp_ge G (pc := 17) (tgt := 56) dX2_layBack_17 (by decide) ?_ ?_
  · refine e_iconst G (pc := 56) (v := 0) dX2_layBack_56 (by decide) ?_
    refine e_istore_n G (pc := 57) (L' := [some (.ref 26), some (.int 0)]) dX2_layBack_57 rfl (Nat.le_of_ble_eq_true rfl) rfl ?_
    exact t_X2_layBack_R58 G  q_fuel w 0 
  · refine e_aload_n G (pc := 20) dX2_layBack_20 rfl rfl ?_
    refine e_getF G (pc := 21) sh_26 rfl lk_X2_27 dX2_layBack_21 ?_
    refine e_iload_n G (pc := 24) dX2_layBack_24 rfl rfl ?_
    refine e_iconst G (pc := 25) (v := 0) dX2_layBack_25 (by decide) ?_
    refine e_aload_n G (pc := 26) dX2_layBack_26 rfl rfl ?_
    refine e_getF G (pc := 27) sh_26 rfl lk_X2_15 dX2_layBack_27 ?_
    refine e_iload_n G (pc := 30) dX2_layBack_30 rfl rfl ?_
    refine e_iald G (pc := 31) sh_28 dX2_layBack_31 (fun v1 => ?_)
    refine e_cVv G (pc := 32) (As := [.int l1, .int 0, .int v1]) (st := []) cv_X2_48 (c_X4_set w l1 0 v1 ) sh_1 (Nat.le_of_ble_eq_true rfl) rfl (Nat.le_of_ble_eq_true rfl) dX2_layBack_32 (fun r2 w3 => ?_)
    refine e_aload_n G (pc := 35) dX2_layBack_35 rfl rfl ?_
    refine e_getF G (pc := 36) sh_26 rfl lk_X2_27 dX2_layBack_36 ?_
    refine e_iload_n G (pc := 39) dX2_layBack_39 rfl rfl ?_
    refine e_iconst G (pc := 40) (v := 2) dX2_layBack_40 (by decide) ?_
    refine e_aload_n G (pc := 41) dX2_layBack_41 rfl rfl ?_
    refine e_getF G (pc := 42) sh_26 rfl lk_X2_18 dX2_layBack_42 ?_
    refine e_iload_n G (pc := 45) dX2_layBack_45 rfl rfl ?_
    refine e_iald G (pc := 46) sh_29 dX2_layBack_46 (fun v4 => ?_)
    refine e_cVv G (pc := 47) (As := [.int l1, .int 2, .int v4]) (st := []) cv_X2_48 (c_X4_set w3 l1 2 v4 ) sh_1 (Nat.le_of_ble_eq_true rfl) rfl (Nat.le_of_ble_eq_true rfl) dX2_layBack_47 (fun r5 w6 => ?_)
    refine e_iinc G (pc := 50) (x := l1) (v := l1 + 1) (L' := fun v7 => [some (.ref 26), some (.int v7)]) dX2_layBack_50 (Nat.le_of_ble_eq_true rfl) rfl (by rfl) (fun _ => rfl) (fun v7 => ?_)
    refine e_goto G (pc := 53) (tgt := 12) dX2_layBack_53 (by decide) ?_
    exact hk12 w6 v7 
set_option maxRecDepth 100000 in
set_option maxHeartbeats 4000000 in
theorem t_X2_layBack_R12 {E : qE} {Γ : qC} (G : q_Ok E Γ RX2 cX2_layBack 2 (4)) : ∀ (fuel : Nat) (w : qW) (l1 : Int32) , q_Ev E Γ 2 (q_Fi E Γ cX2_layBack) 12 [some (.ref 26), some (.int l1)] [] w (f_X2_layBack_R12 fuel w l1) := by
  intro fuel
  induction fuel with
  | zero => intros; exact e_none
  | succ fuel ih =>
    intro w l1 
    exact t_X2_layBack_B12 G _ ih w l1 
set_option maxRecDepth 100000 in
set_option maxHeartbeats 4000000 in
theorem t_X2_layBack {E : qE} {Γ : qC} (G : q_Ok E Γ RX2 cX2_layBack 2 (4)) (w : qW) : q_Ev E Γ 2 (q_Fi E Γ cX2_layBack) 0 [some (.ref 26), none] [] w (f_X2_layBack w ) := by
  unfold f_X2_layBack
  refine e_aload_n G (pc := 0) dX2_layBack_0 rfl rfl ?_
  refine e_getI G (pc := 1) sh_26 rfl lk_X2_57 dX2_layBack_1 ?_
  refine e_if_ne G (pc := 4) (tgt := 10) dX2_layBack_4 (by decide) ?_ ?_
  · refine e_iconst G (pc := 10) (v := 0) dX2_layBack_10 (by decide) ?_
    refine e_istore_n G (pc := 11) (L' := [some (.ref 26), some (.int 0)]) dX2_layBack_11 rfl (Nat.le_of_ble_eq_true rfl) rfl ?_
    exact t_X2_layBack_R12 G  q_fuel w 0 
  · refine e_bipush G (pc := 7) (v := (-5)) dX2_layBack_7 (by decide) ?_
    exact e_iret dX2_layBack_9
set_option maxRecDepth 100000 in
set_option maxHeartbeats 4000000 in
theorem c_X2_layBack (w : qW) : q_AC q_vi (some .int) (4) yX2_layBack cX2_layBack 2 [.ref 26] w (f_X2_layBack w ) := q_met_i (k := 1) (by decide +kernel) rfl rfl rfl (fun _ _ G => t_X2_layBack G w  )
set_option maxRecDepth 100000 in
set_option maxHeartbeats 4000000 in
theorem t_X10_isHour {E : qE} {Γ : qC} (G : q_Ok E Γ RX10 cX10_isHour 1 (2)) (w : qW) (a1 : Int32) : q_Ev E Γ 1 (q_Fz E Γ cX10_isHour) 0 [some (.int a1)] [] w (f_X10_isHour w a1) := by
  unfold f_X10_isHour
  refine e_iload_n G (pc := 0) dX10_isHour_0 rfl rfl ?_
  refine e_if_lt G (pc := 1) (tgt := 14) dX10_isHour_1 (by decide) ?_ ?_
  · refine e_iconst G (pc := 14) (v := 0) dX10_isHour_14 (by decide) ?_
    exact e_zret dX10_isHour_15
  · refine e_iload_n G (pc := 4) dX10_isHour_4 rfl rfl ?_
    refine e_bipush G (pc := 5) (v := 12) dX10_isHour_5 (by decide) ?_
    refine e_icmp_ge G (pc := 7) (tgt := 14) dX10_isHour_7 (by decide) ?_ ?_
    · refine e_iconst G (pc := 14) (v := 0) dX10_isHour_14 (by decide) ?_
      exact e_zret dX10_isHour_15
    · refine e_iconst G (pc := 10) (v := 1) dX10_isHour_10 (by decide) ?_
      refine e_goto G (pc := 11) (tgt := 15) dX10_isHour_11 (by decide) ?_
      exact e_zret dX10_isHour_15
set_option maxRecDepth 100000 in
set_option maxHeartbeats 4000000 in
theorem c_X10_isHour (w : qW) (a1 : Int32) : q_AC q_vi (some .boolean) (2) yX10_isHour cX10_isHour 1 [.int a1] w (f_X10_isHour w a1) := q_met_z (k := 0) (by decide +kernel) rfl rfl rfl (fun _ _ G => t_X10_isHour G w a1 )
set_option maxRecDepth 100000 in
set_option maxHeartbeats 4000000 in
theorem t_X3_isTold {E : qE} {Γ : qC} (G : q_Ok E Γ RX3 cX3_isTold 1 (2)) (w : qW) : q_Ev E Γ 1 (q_Fz E Γ cX3_isTold) 0 [some (.ref 3)] [] w (f_X3_isTold w ) := by
  unfold f_X3_isTold
  refine e_aload_n G (pc := 0) dX3_isTold_0 rfl rfl ?_
  refine e_getI G (pc := 1) sh_3 rfl lk_X3_44 dX3_isTold_1 ?_
  exact e_zret dX3_isTold_4
set_option maxRecDepth 100000 in
set_option maxHeartbeats 4000000 in
theorem c_X3_isTold (w : qW) : q_AC q_vi (some .boolean) (2) yX3_isTold cX3_isTold 1 [.ref 3] w (f_X3_isTold w ) := q_met_z (k := 0) (by decide +kernel) rfl rfl rfl (fun _ _ G => t_X3_isTold G w  )
set_option maxRecDepth 100000 in
set_option maxHeartbeats 4000000 in
theorem t_X3_valueOf {E : qE} {Γ : qC} (G : q_Ok E Γ RX3 cX3_valueOf 2 (2)) (w : qW) (a1 : Int32) : q_Ev E Γ 2 (q_Fi E Γ cX3_valueOf) 0 [some (.ref 3), some (.int a1)] [] w (f_X3_valueOf w a1) := by
  unfold f_X3_valueOf
  refine e_iload_n G (pc := 0) dX3_valueOf_0 rfl rfl ?_
  refine e_if_lt G (pc := 1) (tgt := 22) dX3_valueOf_1 (by decide) ?_ ?_
  · refine e_iconst G (pc := 22) (v := 0) dX3_valueOf_22 (by decide) ?_
    exact e_iret dX3_valueOf_23
  · refine e_iload_n G (pc := 4) dX3_valueOf_4 rfl rfl ?_
    refine e_aload_n G (pc := 5) dX3_valueOf_5 rfl rfl ?_
    refine e_getF G (pc := 6) sh_3 rfl lk_X3_24 dX3_valueOf_6 ?_
    refine e_alen G (pc := 9) sh_8 dX3_valueOf_9 ?_
    refine e_icmp_ge G (pc := 10) (tgt := 22) dX3_valueOf_10 (by decide) ?_ ?_
    · refine e_iconst G (pc := 22) (v := 0) dX3_valueOf_22 (by decide) ?_
      exact e_iret dX3_valueOf_23
    · refine e_aload_n G (pc := 13) dX3_valueOf_13 rfl rfl ?_
      refine e_getF G (pc := 14) sh_3 rfl lk_X3_24 dX3_valueOf_14 ?_
      refine e_iload_n G (pc := 17) dX3_valueOf_17 rfl rfl ?_
      refine e_iald G (pc := 18) sh_8 dX3_valueOf_18 (fun v1 => ?_)
      refine e_goto G (pc := 19) (tgt := 23) dX3_valueOf_19 (by decide) ?_
      exact e_iret dX3_valueOf_23
set_option maxRecDepth 100000 in
set_option maxHeartbeats 4000000 in
theorem c_X3_valueOf (w : qW) (a1 : Int32) : q_AC q_vi (some .int) (2) yX3_valueOf cX3_valueOf 2 [.ref 3, .int a1] w (f_X3_valueOf w a1) := q_met_i (k := 0) (by decide +kernel) rfl rfl rfl (fun _ _ G => t_X3_valueOf G w a1 )
set_option maxRecDepth 100000 in
set_option maxHeartbeats 4000000 in
theorem t_X3_worked_B60 {E : qE} {Γ : qC} (G : q_Ok E Γ RX3 cX3_worked 3 (2)) (w : qW) : q_Ev E Γ 3 (q_Fi E Γ cX3_worked) 60 [none, none, none] [] w (f_X3_worked_B60 w ) := by
  unfold f_X3_worked_B60
  refine e_iconst G (pc := 60) (v := 1) dX3_worked_60 (by decide) ?_
  refine e_goto G (pc := 61) (tgt := 65) dX3_worked_61 (by decide) ?_
  exact e_iret dX3_worked_65
set_option maxRecDepth 100000 in
set_option maxHeartbeats 4000000 in
theorem t_X3_worked {E : qE} {Γ : qC} (G : q_Ok E Γ RX3 cX3_worked 3 (2)) (w : qW) (a1 : Int32) (a2 : Int32) (a3 : Int32) : q_Ev E Γ 3 (q_Fi E Γ cX3_worked) 0 [some (.int a1), some (.int a2), some (.int a3)] [] w (f_X3_worked w a1 a2 a3) := by
  unfold f_X3_worked
  refine e_iload_n G (pc := 0) dX3_worked_0 rfl rfl ?_
  refine e_ite (fun h1 => ?_) (fun h1 => ?_)
  · refine e_tsIn G (pc := 1) (off := 51) (tgt := 52) dX3_worked_1 (by rw [h1]; decide) (by rw [h1]; decide) (by rw [h1]; rfl) (by decide) ?_
    refine e_iload_n G (pc := 52) dX3_worked_52 rfl rfl ?_
    refine e_if_ne G (pc := 53) (tgt := 60) dX3_worked_53 (by decide) ?_ ?_
    · refine e_wk (L' := [none, none, none]) (trivial) ?_
      exact t_X3_worked_B60 G w  
    · refine e_iload_n G (pc := 56) dX3_worked_56 rfl rfl ?_
      refine e_if_eq G (pc := 57) (tgt := 64) dX3_worked_57 (by decide) ?_ ?_
      · refine e_iconst G (pc := 64) (v := 0) dX3_worked_64 (by decide) ?_
        exact e_iret dX3_worked_65
      · refine e_wk (L' := [none, none, none]) (trivial) ?_
        exact t_X3_worked_B60 G w  
  refine e_ite (fun h2 => ?_) (fun h2 => ?_)
  · refine e_tsIn G (pc := 1) (off := 65) (tgt := 66) dX3_worked_1 (by rw [h2]; decide) (by rw [h2]; decide) (by rw [h2]; rfl) (by decide) ?_
    refine e_iload_n G (pc := 66) dX3_worked_66 rfl rfl ?_
    refine e_if_eq G (pc := 67) (tgt := 78) dX3_worked_67 (by decide) ?_ ?_
    · refine e_iconst G (pc := 78) (v := 0) dX3_worked_78 (by decide) ?_
      exact e_iret dX3_worked_79
    · refine e_iload_n G (pc := 70) dX3_worked_70 rfl rfl ?_
      refine e_if_eq G (pc := 71) (tgt := 78) dX3_worked_71 (by decide) ?_ ?_
      · refine e_iconst G (pc := 78) (v := 0) dX3_worked_78 (by decide) ?_
        exact e_iret dX3_worked_79
      · refine e_iconst G (pc := 74) (v := 1) dX3_worked_74 (by decide) ?_
        refine e_goto G (pc := 75) (tgt := 79) dX3_worked_75 (by decide) ?_
        exact e_iret dX3_worked_79
  refine e_ite (fun h3 => ?_) (fun h3 => ?_)
  · refine e_tsIn G (pc := 1) (off := 79) (tgt := 80) dX3_worked_1 (by rw [h3]; decide) (by rw [h3]; decide) (by rw [h3]; rfl) (by decide) ?_
    refine e_iload_n G (pc := 80) dX3_worked_80 rfl rfl ?_
    refine e_iload_n G (pc := 81) dX3_worked_81 rfl rfl ?_
    refine e_icmp_ge G (pc := 82) (tgt := 89) dX3_worked_82 (by decide) ?_ ?_
    · refine e_iconst G (pc := 89) (v := 0) dX3_worked_89 (by decide) ?_
      exact e_iret dX3_worked_90
    · refine e_iconst G (pc := 85) (v := 1) dX3_worked_85 (by decide) ?_
      refine e_goto G (pc := 86) (tgt := 90) dX3_worked_86 (by decide) ?_
      exact e_iret dX3_worked_90
  refine e_ite (fun h4 => ?_) (fun h4 => ?_)
  · refine e_tsIn G (pc := 1) (off := 90) (tgt := 91) dX3_worked_1 (by rw [h4]; decide) (by rw [h4]; decide) (by rw [h4]; rfl) (by decide) ?_
    refine e_iload_n G (pc := 91) dX3_worked_91 rfl rfl ?_
    refine e_iload_n G (pc := 92) dX3_worked_92 rfl rfl ?_
    refine e_icmp_ne G (pc := 93) (tgt := 100) dX3_worked_93 (by decide) ?_ ?_
    · refine e_iconst G (pc := 100) (v := 0) dX3_worked_100 (by decide) ?_
      exact e_iret dX3_worked_101
    · refine e_iconst G (pc := 96) (v := 1) dX3_worked_96 (by decide) ?_
      refine e_goto G (pc := 97) (tgt := 101) dX3_worked_97 (by decide) ?_
      exact e_iret dX3_worked_101
  refine e_ite (fun h5 => ?_) (fun h5 => ?_)
  · refine e_tsIn G (pc := 1) (off := 101) (tgt := 102) dX3_worked_1 (by rw [h5]; decide) (by rw [h5]; decide) (by rw [h5]; rfl) (by decide) ?_
    refine e_iload_n G (pc := 102) dX3_worked_102 rfl rfl ?_
    refine e_iload_n G (pc := 103) dX3_worked_103 rfl rfl ?_
    refine e_icmp_le G (pc := 104) (tgt := 111) dX3_worked_104 (by decide) ?_ ?_
    · refine e_iconst G (pc := 111) (v := 0) dX3_worked_111 (by decide) ?_
      exact e_iret dX3_worked_112
    · refine e_iconst G (pc := 107) (v := 1) dX3_worked_107 (by decide) ?_
      refine e_goto G (pc := 108) (tgt := 112) dX3_worked_108 (by decide) ?_
      exact e_iret dX3_worked_112
  refine e_ite (fun h6 => ?_) (fun h6 => ?_)
  · refine e_tsIn G (pc := 1) (off := 112) (tgt := 113) dX3_worked_1 (by rw [h6]; decide) (by rw [h6]; decide) (by rw [h6]; rfl) (by decide) ?_
    refine e_iload_n G (pc := 113) dX3_worked_113 rfl rfl ?_
    refine e_iload_n G (pc := 114) dX3_worked_114 rfl rfl ?_
    refine e_iadd G (pc := 115) dX3_worked_115 ?_
    exact e_iret dX3_worked_116
  refine e_ite (fun h7 => ?_) (fun h7 => ?_)
  · refine e_tsIn G (pc := 1) (off := 116) (tgt := 117) dX3_worked_1 (by rw [h7]; decide) (by rw [h7]; decide) (by rw [h7]; rfl) (by decide) ?_
    refine e_iload_n G (pc := 117) dX3_worked_117 rfl rfl ?_
    refine e_iload_n G (pc := 118) dX3_worked_118 rfl rfl ?_
    refine e_isub G (pc := 119) dX3_worked_119 ?_
    exact e_iret dX3_worked_120
  refine e_ite (fun h8 => ?_) (fun h8 => ?_)
  · refine e_tsIn G (pc := 1) (off := 120) (tgt := 121) dX3_worked_1 (by rw [h8]; decide) (by rw [h8]; decide) (by rw [h8]; rfl) (by decide) ?_
    refine e_iload_n G (pc := 121) dX3_worked_121 rfl rfl ?_
    refine e_iload_n G (pc := 122) dX3_worked_122 rfl rfl ?_
    refine e_imul G (pc := 123) dX3_worked_123 ?_
    exact e_iret dX3_worked_124
  refine e_ite (fun h9 => ?_) (fun h9 => ?_)
  · refine e_tsIn G (pc := 1) (off := 124) (tgt := 125) dX3_worked_1 (by rw [h9]; decide) (by rw [h9]; decide) (by rw [h9]; rfl) (by decide) ?_
    refine e_iload_n G (pc := 125) dX3_worked_125 rfl rfl ?_
    refine e_if_ne G (pc := 126) (tgt := 133) dX3_worked_126 (by decide) ?_ ?_
    · refine e_iload_n G (pc := 133) dX3_worked_133 rfl rfl ?_
      refine e_iload_n G (pc := 134) dX3_worked_134 rfl rfl ?_
      refine e_idiv_z G (pc := 135) dX3_worked_135 ?_
      exact e_iret dX3_worked_136
    · refine e_iconst G (pc := 129) (v := 0) dX3_worked_129 (by decide) ?_
      refine e_goto G (pc := 130) (tgt := 136) dX3_worked_130 (by decide) ?_
      exact e_iret dX3_worked_136
  have h1 := lv_neT h1 (show (6 : Int32).toInt = 6 by decide)
  have h2 := lv_neT h2 (show (7 : Int32).toInt = 7 by decide)
  have h3 := lv_neT h3 (show (8 : Int32).toInt = 8 by decide)
  have h4 := lv_neT h4 (show (9 : Int32).toInt = 9 by decide)
  have h5 := lv_neT h5 (show (10 : Int32).toInt = 10 by decide)
  have h6 := lv_neT h6 (show (11 : Int32).toInt = 11 by decide)
  have h7 := lv_neT h7 (show (12 : Int32).toInt = 12 by decide)
  have h8 := lv_neT h8 (show (13 : Int32).toInt = 13 by decide)
  have h9 := lv_neT h9 (show (14 : Int32).toInt = 14 by decide)
  refine e_tsOut G (pc := 1) (tgt := 137) dX3_worked_1 (by omega) (by decide) ?_
  refine e_iload_n G (pc := 137) dX3_worked_137 rfl rfl ?_
  refine e_if_ne G (pc := 138) (tgt := 145) dX3_worked_138 (by decide) ?_ ?_
  · refine e_iload_n G (pc := 145) dX3_worked_145 rfl rfl ?_
    refine e_iload_n G (pc := 146) dX3_worked_146 rfl rfl ?_
    refine e_irem_z G (pc := 147) dX3_worked_147 ?_
    exact e_iret dX3_worked_148
  · refine e_iconst G (pc := 141) (v := 0) dX3_worked_141 (by decide) ?_
    refine e_goto G (pc := 142) (tgt := 148) dX3_worked_142 (by decide) ?_
    exact e_iret dX3_worked_148
set_option maxRecDepth 100000 in
set_option maxHeartbeats 4000000 in
theorem c_X3_worked (w : qW) (a1 : Int32) (a2 : Int32) (a3 : Int32) : q_AC q_vi (some .int) (2) yX3_worked cX3_worked 3 [.int a1, .int a2, .int a3] w (f_X3_worked w a1 a2 a3) := q_met_i (k := 0) (by decide +kernel) rfl rfl rfl (fun _ _ G => t_X3_worked G w a1 a2 a3 )
set_option maxRecDepth 100000 in
set_option maxHeartbeats 4000000 in
theorem t_X3_value_B311 {E : qE} {Γ : qC} (G : q_Ok E Γ RX3 cX3_value 13 (3)) (k54 : qW → Int32 → Int32 → Int32 → Option (Int32 × qW)) (hk54 : ∀ (w : qW) (l7 : Int32) (l8 : Int32) (l9 : Int32), q_Ev E Γ 13 (q_Fi E Γ cX3_value) 54 [some (.ref 3), none, none, none, none, none, none, some (.int l7), some (.int l8), some (.int l9), none, none, none] [] w (k54 w l7 l8 l9)) (w : qW) (l7 : Int32) (l8 : Int32) (l9 : Int32) : q_Ev E Γ 13 (q_Fi E Γ cX3_value) 311 [some (.ref 3), none, none, none, none, none, none, some (.int l7), some (.int l8), some (.int l9), none, none, none] [] w (f_X3_value_B311 k54 w l7 l8 l9) := by
  unfold f_X3_value_B311
  refine e_iinc G (pc := 311) (x := l9) (v := l9 + 1) (L' := fun v1 => [some (.ref 3), none, none, none, none, none, none, some (.int l7), some (.int l8), some (.int v1), none, none, none]) dX3_value_311 (Nat.le_of_ble_eq_true rfl) rfl (by rfl) (fun _ => rfl) (fun v1 => ?_)
  refine e_goto G (pc := 314) (tgt := 54) dX3_value_314 (by decide) ?_
  exact hk54 w l7 l8 v1 
set_option maxRecDepth 100000 in
set_option maxHeartbeats 4000000 in
theorem t_X3_value_B274 {E : qE} {Γ : qC} (G : q_Ok E Γ RX3 cX3_value 13 (3)) (k54 : qW → Int32 → Int32 → Int32 → Option (Int32 × qW)) (hk54 : ∀ (w : qW) (l7 : Int32) (l8 : Int32) (l9 : Int32), q_Ev E Γ 13 (q_Fi E Γ cX3_value) 54 [some (.ref 3), none, none, none, none, none, none, some (.int l7), some (.int l8), some (.int l9), none, none, none] [] w (k54 w l7 l8 l9)) (w : qW) (l7 : Int32) (l8 : Int32) (l9 : Int32) (s0 : Int32) (s1 : Int32) : q_Ev E Γ 13 (q_Fi E Γ cX3_value) 274 [some (.ref 3), none, none, none, none, none, none, some (.int l7), some (.int l8), some (.int l9), none, none, none] [.int s0, .int s1, .ref 7] w (f_X3_value_B274 k54 w l7 l8 l9 s0 s1) := by
  unfold f_X3_value_B274
  refine e_iast G (pc := 274) sh_7 dX3_value_274 (fun w1 => ?_)
  refine e_goto G (pc := 275) (tgt := 311) dX3_value_275 (by decide) ?_
  exact t_X3_value_B311 G k54 hk54 w1 l7 l8 l9 
set_option maxRecDepth 100000 in
set_option maxHeartbeats 4000000 in
theorem t_X3_value_B221 {E : qE} {Γ : qC} (G : q_Ok E Γ RX3 cX3_value 13 (3)) (k54 : qW → Int32 → Int32 → Int32 → Option (Int32 × qW)) (hk54 : ∀ (w : qW) (l7 : Int32) (l8 : Int32) (l9 : Int32), q_Ev E Γ 13 (q_Fi E Γ cX3_value) 54 [some (.ref 3), none, none, none, none, none, none, some (.int l7), some (.int l8), some (.int l9), none, none, none] [] w (k54 w l7 l8 l9)) (w : qW) (l7 : Int32) (l9 : Int32) (s0 : Int32) : q_Ev E Γ 13 (q_Fi E Γ cX3_value) 221 [some (.ref 3), none, none, none, none, none, none, some (.int l7), none, some (.int l9), none, none, none] [.int s0] w (f_X3_value_B221 k54 w l7 l9 s0) := by
  unfold f_X3_value_B221
  refine e_istore G (pc := 221) (L' := [some (.ref 3), none, none, none, none, none, none, some (.int l7), some (.int s0), some (.int l9), none, none, none]) dX3_value_221 (Nat.le_of_ble_eq_true rfl) rfl ?_
  refine e_goto G (pc := 223) (tgt := 311) dX3_value_223 (by decide) ?_
  exact t_X3_value_B311 G k54 hk54 w l7 s0 l9 
set_option maxRecDepth 100000 in
set_option maxHeartbeats 4000000 in
theorem t_X3_value_B190 {E : qE} {Γ : qC} (G : q_Ok E Γ RX3 cX3_value 13 (3)) (k54 : qW → Int32 → Int32 → Int32 → Option (Int32 × qW)) (hk54 : ∀ (w : qW) (l7 : Int32) (l8 : Int32) (l9 : Int32), q_Ev E Γ 13 (q_Fi E Γ cX3_value) 54 [some (.ref 3), none, none, none, none, none, none, some (.int l7), some (.int l8), some (.int l9), none, none, none] [] w (k54 w l7 l8 l9)) (w : qW) (l7 : Int32) (l8 : Int32) (l9 : Int32) (l10 : Int32) (l11 : Int32) (s0 : Int32) (s1 : Int32) : q_Ev E Γ 13 (q_Fi E Γ cX3_value) 190 [some (.ref 3), none, none, none, none, none, none, some (.int l7), some (.int l8), some (.int l9), some (.int l10), some (.int l11), none] [.int s0, .int s1] w (f_X3_value_B190 k54 w l7 l8 l9 l10 l11 s0 s1) := by
  unfold f_X3_value_B190
  refine e_icmp_ge G (pc := 190) (tgt := 195) dX3_value_190 (by decide) ?_ ?_
  · refine e_iload G (pc := 195) dX3_value_195 rfl ?_
    refine e_iconst G (pc := 197) (v := 3) dX3_value_197 (by decide) ?_
    refine e_icmp_ne G (pc := 198) (tgt := 226) dX3_value_198 (by decide) ?_ ?_
    · refine e_iload G (pc := 226) dX3_value_226 rfl ?_
      refine e_bipush G (pc := 228) (v := 6) dX3_value_228 (by decide) ?_
      refine e_icmp_ge G (pc := 230) (tgt := 278) dX3_value_230 (by decide) ?_ ?_
      · refine e_iinc G (pc := 278) (x := l7) (v := l7 + (-1)) (L' := fun v1 => [some (.ref 3), none, none, none, none, none, none, some (.int v1), some (.int l8), some (.int l9), some (.int l10), some (.int l11), none]) dX3_value_278 (Nat.le_of_ble_eq_true rfl) rfl (by rfl) (fun _ => rfl) (fun v1 => ?_)
        refine e_aload_n G (pc := 281) dX3_value_281 rfl rfl ?_
        refine e_getF G (pc := 282) sh_3 rfl lk_X3_21 dX3_value_282 ?_
        refine e_iload G (pc := 285) dX3_value_285 rfl ?_
        refine e_iconst G (pc := 287) (v := 1) dX3_value_287 (by decide) ?_
        refine e_isub G (pc := 288) dX3_value_288 ?_
        refine e_iload G (pc := 289) dX3_value_289 rfl ?_
        refine e_aload_n G (pc := 291) dX3_value_291 rfl rfl ?_
        refine e_getF G (pc := 292) sh_3 rfl lk_X3_21 dX3_value_292 ?_
        refine e_iload G (pc := 295) dX3_value_295 rfl ?_
        refine e_iconst G (pc := 297) (v := 1) dX3_value_297 (by decide) ?_
        refine e_isub G (pc := 298) dX3_value_298 ?_
        refine e_iald G (pc := 299) sh_7 dX3_value_299 (fun v2 => ?_)
        refine e_aload_n G (pc := 300) dX3_value_300 rfl rfl ?_
        refine e_getF G (pc := 301) sh_3 rfl lk_X3_21 dX3_value_301 ?_
        refine e_iload G (pc := 304) dX3_value_304 rfl ?_
        refine e_iald G (pc := 306) sh_7 dX3_value_306 (fun v3 => ?_)
        refine e_cSi G (pc := 307) (ci := 0) (id := 0) (sl := []) (As := [.int l10, .int v2, .int v3]) (st := [.int (v1 - 1), .ref 7]) cs_X3_52 (c_X3_worked w l10 v2 v3 ) (Nat.le_of_ble_eq_true rfl) rfl (Nat.le_of_ble_eq_true rfl) dX3_value_307 (fun r4 w5 => ?_)
        refine e_iast G (pc := 310) sh_7 dX3_value_310 (fun w6 => ?_)
        refine e_wk (L' := [some (.ref 3), none, none, none, none, none, none, some (.int v1), some (.int l8), some (.int l9), none, none, none]) (And.intro rfl (And.intro rfl (And.intro rfl (And.intro rfl (trivial))))) ?_
        exact t_X3_value_B311 G k54 hk54 w6 v1 l8 l9 
      · refine e_aload_n G (pc := 233) dX3_value_233 rfl rfl ?_
        refine e_getF G (pc := 234) sh_3 rfl lk_X3_21 dX3_value_234 ?_
        refine e_iload G (pc := 237) dX3_value_237 rfl ?_
        refine e_iconst G (pc := 239) (v := 1) dX3_value_239 (by decide) ?_
        refine e_isub G (pc := 240) dX3_value_240 ?_
        refine e_iald G (pc := 241) sh_7 dX3_value_241 (fun v7 => ?_)
        refine e_istore G (pc := 242) (L' := [some (.ref 3), none, none, none, none, none, none, some (.int l7), some (.int l8), some (.int l9), some (.int l10), some (.int l11), some (.int v7)]) dX3_value_242 (Nat.le_of_ble_eq_true rfl) rfl ?_
        refine e_aload_n G (pc := 244) dX3_value_244 rfl rfl ?_
        refine e_getF G (pc := 245) sh_3 rfl lk_X3_21 dX3_value_245 ?_
        refine e_iload G (pc := 248) dX3_value_248 rfl ?_
        refine e_iconst G (pc := 250) (v := 1) dX3_value_250 (by decide) ?_
        refine e_isub G (pc := 251) dX3_value_251 ?_
        refine e_iload G (pc := 252) dX3_value_252 rfl ?_
        refine e_iconst G (pc := 254) (v := 5) dX3_value_254 (by decide) ?_
        refine e_icmp_ne G (pc := 255) (tgt := 264) dX3_value_255 (by decide) ?_ ?_
        · refine e_iload G (pc := 264) dX3_value_264 rfl ?_
          refine e_if_ne G (pc := 266) (tgt := 273) dX3_value_266 (by decide) ?_ ?_
          · refine e_iconst G (pc := 273) (v := 0) dX3_value_273 (by decide) ?_
            refine e_wk (L' := [some (.ref 3), none, none, none, none, none, none, some (.int l7), some (.int l8), some (.int l9), none, none, none]) (And.intro rfl (And.intro rfl (And.intro rfl (And.intro rfl (trivial))))) ?_
            exact t_X3_value_B274 G k54 hk54 w l7 l8 l9 0 (l7 - 1) 
          · refine e_iconst G (pc := 269) (v := 1) dX3_value_269 (by decide) ?_
            refine e_goto G (pc := 270) (tgt := 274) dX3_value_270 (by decide) ?_
            refine e_wk (L' := [some (.ref 3), none, none, none, none, none, none, some (.int l7), some (.int l8), some (.int l9), none, none, none]) (And.intro rfl (And.intro rfl (And.intro rfl (And.intro rfl (trivial))))) ?_
            exact t_X3_value_B274 G k54 hk54 w l7 l8 l9 1 (l7 - 1) 
        · refine e_iload G (pc := 258) dX3_value_258 rfl ?_
          refine e_ineg G (pc := 260) dX3_value_260 ?_
          refine e_goto G (pc := 261) (tgt := 274) dX3_value_261 (by decide) ?_
          refine e_wk (L' := [some (.ref 3), none, none, none, none, none, none, some (.int l7), some (.int l8), some (.int l9), none, none, none]) (And.intro rfl (And.intro rfl (And.intro rfl (And.intro rfl (trivial))))) ?_
          exact t_X3_value_B274 G k54 hk54 w l7 l8 l9 (-v7) (l7 - 1) 
    · refine e_iinc G (pc := 201) (x := l7) (v := l7 + (-1)) (L' := fun v8 => [some (.ref 3), none, none, none, none, none, none, some (.int v8), some (.int l8), some (.int l9), some (.int l10), some (.int l11), none]) dX3_value_201 (Nat.le_of_ble_eq_true rfl) rfl (by rfl) (fun _ => rfl) (fun v8 => ?_)
      refine e_aload_n G (pc := 204) dX3_value_204 rfl rfl ?_
      refine e_getF G (pc := 205) sh_3 rfl lk_X3_21 dX3_value_205 ?_
      refine e_iload G (pc := 208) dX3_value_208 rfl ?_
      refine e_iald G (pc := 210) sh_7 dX3_value_210 (fun v9 => ?_)
      refine e_if_ne G (pc := 211) (tgt := 219) dX3_value_211 (by decide) ?_ ?_
      · refine e_iload G (pc := 219) dX3_value_219 rfl ?_
        refine e_wk (L' := [some (.ref 3), none, none, none, none, none, none, some (.int v8), none, some (.int l9), none, none, none]) (And.intro rfl (And.intro rfl (And.intro rfl (trivial)))) ?_
        exact t_X3_value_B221 G k54 hk54 w v8 l9 l8 
      · refine e_iload G (pc := 214) dX3_value_214 rfl ?_
        refine e_goto G (pc := 216) (tgt := 221) dX3_value_216 (by decide) ?_
        refine e_wk (L' := [some (.ref 3), none, none, none, none, none, none, some (.int v8), none, some (.int l9), none, none, none]) (And.intro rfl (And.intro rfl (And.intro rfl (trivial)))) ?_
        exact t_X3_value_B221 G k54 hk54 w v8 l9 l11 
  · refine e_iconst G (pc := 193) (v := 0) dX3_value_193 (by decide) ?_
    exact e_iret dX3_value_194
set_option maxRecDepth 100000 in
set_option maxHeartbeats 4000000 in
theorem t_X3_value_B169 {E : qE} {Γ : qC} (G : q_Ok E Γ RX3 cX3_value 13 (3)) (k54 : qW → Int32 → Int32 → Int32 → Option (Int32 × qW)) (hk54 : ∀ (w : qW) (l7 : Int32) (l8 : Int32) (l9 : Int32), q_Ev E Γ 13 (q_Fi E Γ cX3_value) 54 [some (.ref 3), none, none, none, none, none, none, some (.int l7), some (.int l8), some (.int l9), none, none, none] [] w (k54 w l7 l8 l9)) (w : qW) (l7 : Int32) (l8 : Int32) (l9 : Int32) (s0 : Int32) (s1 : Int32) : q_Ev E Γ 13 (q_Fi E Γ cX3_value) 169 [some (.ref 3), none, none, none, none, none, none, some (.int l7), some (.int l8), some (.int l9), none, none, none] [.int s0, .int s1, .ref 7] w (f_X3_value_B169 k54 w l7 l8 l9 s0 s1) := by
  unfold f_X3_value_B169
  refine e_iast G (pc := 169) sh_7 dX3_value_169 (fun w1 => ?_)
  refine e_iinc G (pc := 170) (x := l7) (v := l7 + 1) (L' := fun v2 => [some (.ref 3), none, none, none, none, none, none, some (.int v2), some (.int l8), some (.int l9), none, none, none]) dX3_value_170 (Nat.le_of_ble_eq_true rfl) rfl (by rfl) (fun _ => rfl) (fun v2 => ?_)
  refine e_goto G (pc := 173) (tgt := 311) dX3_value_173 (by decide) ?_
  exact t_X3_value_B311 G k54 hk54 w1 v2 l8 l9 
set_option maxRecDepth 100000 in
set_option maxHeartbeats 4000000 in
theorem t_X3_value_B54 {E : qE} {Γ : qC} (G : q_Ok E Γ RX3 cX3_value 13 (3)) (k54 : qW → Int32 → Int32 → Int32 → Option (Int32 × qW)) (hk54 : ∀ (w : qW) (l7 : Int32) (l8 : Int32) (l9 : Int32), q_Ev E Γ 13 (q_Fi E Γ cX3_value) 54 [some (.ref 3), none, none, none, none, none, none, some (.int l7), some (.int l8), some (.int l9), none, none, none] [] w (k54 w l7 l8 l9)) (w : qW) (l7 : Int32) (l8 : Int32) (l9 : Int32) : q_Ev E Γ 13 (q_Fi E Γ cX3_value) 54 [some (.ref 3), none, none, none, none, none, none, some (.int l7), some (.int l8), some (.int l9), none, none, none] [] w (f_X3_value_B54 k54 w l7 l8 l9) := by
  unfold f_X3_value_B54
  refine e_iload G (pc := 54) dX3_value_54 rfl ?_
  refine e_aload_n G (pc := 56) dX3_value_56 rfl rfl ?_
  refine e_getD G (pc := 57) (n := 128) sh_3 rfl lk_X3_15 dX3_value_57 (fun id1 hs2 => ?_)
  refine e_alen G (pc := 60) hs2 dX3_value_60 ?_
  refine e_icmp_ge G (pc := 61) (tgt := 317) dX3_value_61 (by decide) ?_ ?_
  · refine e_iconst G (pc := 317) (v := 0) dX3_value_317 (by decide) ?_
    exact e_iret dX3_value_318
  · refine e_iload G (pc := 64) dX3_value_64 rfl ?_
    refine e_if_lt G (pc := 66) (tgt := 317) dX3_value_66 (by decide) ?_ ?_
    · refine e_iconst G (pc := 317) (v := 0) dX3_value_317 (by decide) ?_
      exact e_iret dX3_value_318
    · refine e_iload G (pc := 69) dX3_value_69 rfl ?_
      refine e_aload_n G (pc := 71) dX3_value_71 rfl rfl ?_
      refine e_getI G (pc := 72) sh_3 rfl lk_X3_41 dX3_value_72 ?_
      refine e_icmp_ge G (pc := 75) (tgt := 317) dX3_value_75 (by decide) ?_ ?_
      · refine e_iconst G (pc := 317) (v := 0) dX3_value_317 (by decide) ?_
        exact e_iret dX3_value_318
      · refine e_aload_n G (pc := 78) dX3_value_78 rfl rfl ?_
        refine e_getD G (pc := 79) (n := 128) sh_3 rfl lk_X3_15 dX3_value_79 (fun id3 hs4 => ?_)
        refine e_iload G (pc := 82) dX3_value_82 rfl ?_
        refine e_iald G (pc := 84) hs4 dX3_value_84 (fun v5 => ?_)
        refine e_bipush G (pc := 85) (v := 31) dX3_value_85 (by decide) ?_
        refine e_iand G (pc := 87) dX3_value_87 ?_
        refine e_ti (fun v6 => ?_)
        refine e_istore G (pc := 88) (L' := [some (.ref 3), none, none, none, none, none, none, some (.int l7), some (.int l8), some (.int l9), some (.int v6), none, none]) dX3_value_88 (Nat.le_of_ble_eq_true rfl) rfl ?_
        refine e_aload_n G (pc := 90) dX3_value_90 rfl rfl ?_
        refine e_getD G (pc := 91) (n := 128) sh_3 rfl lk_X3_15 dX3_value_91 (fun id7 hs8 => ?_)
        refine e_iload G (pc := 94) dX3_value_94 rfl ?_
        refine e_iald G (pc := 96) hs8 dX3_value_96 (fun v9 => ?_)
        refine e_iconst G (pc := 97) (v := 5) dX3_value_97 (by decide) ?_
        refine e_ishr G (pc := 98) dX3_value_98 ?_
        refine e_ti (fun v10 => ?_)
        refine e_istore G (pc := 99) (L' := [some (.ref 3), none, none, none, none, none, none, some (.int l7), some (.int l8), some (.int l9), some (.int v6), some (.int v10), none]) dX3_value_99 (Nat.le_of_ble_eq_true rfl) rfl ?_
        refine e_iinc G (pc := 101) (x := l8) (v := l8 + 1) (L' := fun v11 => [some (.ref 3), none, none, none, none, none, none, some (.int l7), some (.int v11), some (.int l9), some (.int v6), some (.int v10), none]) dX3_value_101 (Nat.le_of_ble_eq_true rfl) rfl (by rfl) (fun _ => rfl) (fun v11 => ?_)
        refine e_iload G (pc := 104) dX3_value_104 rfl ?_
        refine e_iconst G (pc := 106) (v := 2) dX3_value_106 (by decide) ?_
        refine e_icmp_ne G (pc := 107) (tgt := 129) dX3_value_107 (by decide) ?_ ?_
        · refine e_iload G (pc := 129) dX3_value_129 rfl ?_
          refine e_iconst G (pc := 131) (v := 1) dX3_value_131 (by decide) ?_
          refine e_icmp_gt G (pc := 132) (tgt := 176) dX3_value_132 (by decide) ?_ ?_
          · refine e_iload G (pc := 176) dX3_value_176 rfl ?_
            refine e_iload G (pc := 178) dX3_value_178 rfl ?_
            refine e_bipush G (pc := 180) (v := 6) dX3_value_180 (by decide) ?_
            refine e_icmp_ge G (pc := 182) (tgt := 189) dX3_value_182 (by decide) ?_ ?_
            · refine e_iconst G (pc := 189) (v := 2) dX3_value_189 (by decide) ?_
              exact t_X3_value_B190 G k54 hk54 w l7 v11 l9 v6 v10 2 l7 
            · refine e_iconst G (pc := 185) (v := 1) dX3_value_185 (by decide) ?_
              refine e_goto G (pc := 186) (tgt := 190) dX3_value_186 (by decide) ?_
              exact t_X3_value_B190 G k54 hk54 w l7 v11 l9 v6 v10 1 l7 
          · refine e_iload G (pc := 135) dX3_value_135 rfl ?_
            refine e_aload_n G (pc := 137) dX3_value_137 rfl rfl ?_
            refine e_getF G (pc := 138) sh_3 rfl lk_X3_21 dX3_value_138 ?_
            refine e_alen G (pc := 141) sh_7 dX3_value_141 ?_
            refine e_icmp_lt G (pc := 142) (tgt := 147) dX3_value_142 (by decide) ?_ ?_
            · refine e_aload_n G (pc := 147) dX3_value_147 rfl rfl ?_
              refine e_getF G (pc := 148) sh_3 rfl lk_X3_21 dX3_value_148 ?_
              refine e_iload G (pc := 151) dX3_value_151 rfl ?_
              refine e_iload G (pc := 153) dX3_value_153 rfl ?_
              refine e_if_ne G (pc := 155) (tgt := 163) dX3_value_155 (by decide) ?_ ?_
              · refine e_aload_n G (pc := 163) dX3_value_163 rfl rfl ?_
                refine e_iload G (pc := 164) dX3_value_164 rfl ?_
                refine e_cVi G (pc := 166) (As := [.int v10]) (st := [.int l7, .ref 7]) cv_X3_48 (c_X3_valueOf w v10 ) sh_3 (Nat.le_of_ble_eq_true rfl) rfl (Nat.le_of_ble_eq_true rfl) dX3_value_166 (fun r12 w13 => ?_)
                refine e_wk (L' := [some (.ref 3), none, none, none, none, none, none, some (.int l7), some (.int v11), some (.int l9), none, none, none]) (And.intro rfl (And.intro rfl (And.intro rfl (And.intro rfl (trivial))))) ?_
                exact t_X3_value_B169 G k54 hk54 w13 l7 v11 l9 r12 l7 
              · refine e_iload G (pc := 158) dX3_value_158 rfl ?_
                refine e_goto G (pc := 160) (tgt := 169) dX3_value_160 (by decide) ?_
                refine e_wk (L' := [some (.ref 3), none, none, none, none, none, none, some (.int l7), some (.int v11), some (.int l9), none, none, none]) (And.intro rfl (And.intro rfl (And.intro rfl (And.intro rfl (trivial))))) ?_
                exact t_X3_value_B169 G k54 hk54 w l7 v11 l9 v10 l7 
            · refine e_iconst G (pc := 145) (v := 0) dX3_value_145 (by decide) ?_
              exact e_iret dX3_value_146
        · refine e_iload G (pc := 110) dX3_value_110 rfl ?_
          refine e_if_le G (pc := 112) (tgt := 127) dX3_value_112 (by decide) ?_ ?_
          · refine e_iconst G (pc := 127) (v := 0) dX3_value_127 (by decide) ?_
            exact e_iret dX3_value_128
          · refine e_aload_n G (pc := 115) dX3_value_115 rfl rfl ?_
            refine e_getF G (pc := 116) sh_3 rfl lk_X3_21 dX3_value_116 ?_
            refine e_iload G (pc := 119) dX3_value_119 rfl ?_
            refine e_iconst G (pc := 121) (v := 1) dX3_value_121 (by decide) ?_
            refine e_isub G (pc := 122) dX3_value_122 ?_
            refine e_iald G (pc := 123) sh_7 dX3_value_123 (fun v14 => ?_)
            refine e_goto G (pc := 124) (tgt := 128) dX3_value_124 (by decide) ?_
            exact e_iret dX3_value_128
set_option maxRecDepth 100000 in
set_option maxHeartbeats 4000000 in
theorem t_X3_value_R54 {E : qE} {Γ : qC} (G : q_Ok E Γ RX3 cX3_value 13 (3)) : ∀ (fuel : Nat) (w : qW) (l7 : Int32) (l8 : Int32) (l9 : Int32) , q_Ev E Γ 13 (q_Fi E Γ cX3_value) 54 [some (.ref 3), none, none, none, none, none, none, some (.int l7), some (.int l8), some (.int l9), none, none, none] [] w (f_X3_value_R54 fuel w l7 l8 l9) := by
  intro fuel
  induction fuel with
  | zero => intros; exact e_none
  | succ fuel ih =>
    intro w l7 l8 l9 
    exact t_X3_value_B54 G _ ih w l7 l8 l9 
set_option maxRecDepth 100000 in
set_option maxHeartbeats 4000000 in
theorem t_X3_value {E : qE} {Γ : qC} (G : q_Ok E Γ RX3 cX3_value 13 (3)) (w : qW) (a1 : Int32) (a2 : Int32) (a3 : Int32) (a4 : Int32) (a5 : Int32) (a6 : Int32) : q_Ev E Γ 13 (q_Fi E Γ cX3_value) 0 [some (.ref 3), some (.int a1), some (.int a2), some (.int a3), some (.int a4), some (.int a5), some (.int a6), none, none, none, none, none, none] [] w (f_X3_value w a1 a2 a3 a4 a5 a6) := by
  unfold f_X3_value
  refine e_aload_n G (pc := 0) dX3_value_0 rfl rfl ?_
  refine e_getF G (pc := 1) sh_3 rfl lk_X3_24 dX3_value_1 ?_
  refine e_iconst G (pc := 4) (v := 0) dX3_value_4 (by decide) ?_
  refine e_iload_n G (pc := 5) dX3_value_5 rfl rfl ?_
  refine e_iast G (pc := 6) sh_8 dX3_value_6 (fun w1 => ?_)
  refine e_aload_n G (pc := 7) dX3_value_7 rfl rfl ?_
  refine e_getF G (pc := 8) sh_3 rfl lk_X3_24 dX3_value_8 ?_
  refine e_iconst G (pc := 11) (v := 1) dX3_value_11 (by decide) ?_
  refine e_iload_n G (pc := 12) dX3_value_12 rfl rfl ?_
  refine e_iast G (pc := 13) sh_8 dX3_value_13 (fun w2 => ?_)
  refine e_aload_n G (pc := 14) dX3_value_14 rfl rfl ?_
  refine e_getF G (pc := 15) sh_3 rfl lk_X3_24 dX3_value_15 ?_
  refine e_iconst G (pc := 18) (v := 2) dX3_value_18 (by decide) ?_
  refine e_iload_n G (pc := 19) dX3_value_19 rfl rfl ?_
  refine e_iast G (pc := 20) sh_8 dX3_value_20 (fun w3 => ?_)
  refine e_aload_n G (pc := 21) dX3_value_21 rfl rfl ?_
  refine e_getF G (pc := 22) sh_3 rfl lk_X3_24 dX3_value_22 ?_
  refine e_iconst G (pc := 25) (v := 3) dX3_value_25 (by decide) ?_
  refine e_iload G (pc := 26) dX3_value_26 rfl ?_
  refine e_iast G (pc := 28) sh_8 dX3_value_28 (fun w4 => ?_)
  refine e_aload_n G (pc := 29) dX3_value_29 rfl rfl ?_
  refine e_getF G (pc := 30) sh_3 rfl lk_X3_24 dX3_value_30 ?_
  refine e_iconst G (pc := 33) (v := 4) dX3_value_33 (by decide) ?_
  refine e_iload G (pc := 34) dX3_value_34 rfl ?_
  refine e_iast G (pc := 36) sh_8 dX3_value_36 (fun w5 => ?_)
  refine e_aload_n G (pc := 37) dX3_value_37 rfl rfl ?_
  refine e_getF G (pc := 38) sh_3 rfl lk_X3_24 dX3_value_38 ?_
  refine e_iconst G (pc := 41) (v := 5) dX3_value_41 (by decide) ?_
  refine e_iload G (pc := 42) dX3_value_42 rfl ?_
  refine e_iast G (pc := 44) sh_8 dX3_value_44 (fun w6 => ?_)
  refine e_iconst G (pc := 45) (v := 0) dX3_value_45 (by decide) ?_
  refine e_istore G (pc := 46) (L' := [some (.ref 3), some (.int a1), some (.int a2), some (.int a3), some (.int a4), some (.int a5), some (.int a6), some (.int 0), none, none, none, none, none]) dX3_value_46 (Nat.le_of_ble_eq_true rfl) rfl ?_
  refine e_iconst G (pc := 48) (v := 0) dX3_value_48 (by decide) ?_
  refine e_istore G (pc := 49) (L' := [some (.ref 3), some (.int a1), some (.int a2), some (.int a3), some (.int a4), some (.int a5), some (.int a6), some (.int 0), some (.int 0), none, none, none, none]) dX3_value_49 (Nat.le_of_ble_eq_true rfl) rfl ?_
  refine e_iconst G (pc := 51) (v := 0) dX3_value_51 (by decide) ?_
  refine e_istore G (pc := 52) (L' := [some (.ref 3), some (.int a1), some (.int a2), some (.int a3), some (.int a4), some (.int a5), some (.int a6), some (.int 0), some (.int 0), some (.int 0), none, none, none]) dX3_value_52 (Nat.le_of_ble_eq_true rfl) rfl ?_
  refine e_wk (L' := [some (.ref 3), none, none, none, none, none, none, some (.int 0), some (.int 0), some (.int 0), none, none, none]) (And.intro rfl (And.intro rfl (And.intro rfl (And.intro rfl (trivial))))) ?_
  exact t_X3_value_R54 G  q_fuel w6 0 0 0 
set_option maxRecDepth 100000 in
set_option maxHeartbeats 4000000 in
theorem c_X3_value (w : qW) (a1 : Int32) (a2 : Int32) (a3 : Int32) (a4 : Int32) (a5 : Int32) (a6 : Int32) : q_AC q_vi (some .int) (3) yX3_value cX3_value 13 [.ref 3, .int a1, .int a2, .int a3, .int a4, .int a5, .int a6] w (f_X3_value w a1 a2 a3 a4 a5 a6) := q_met_i (k := 6) (by decide +kernel) rfl rfl rfl (fun _ _ G => t_X3_value G w a1 a2 a3 a4 a5 a6 )
set_option maxRecDepth 100000 in
set_option maxHeartbeats 4000000 in
theorem t_X5_cast_B193 {E : qE} {Γ : qC} (G : q_Ok E Γ RX5 cX5_cast 14 (4)) (w : qW) (l13 : Int32) : q_Ev E Γ 14 (q_Fi E Γ cX5_cast) 193 [none, none, none, none, none, none, none, none, none, none, none, none, none, some (.int l13)] [] w (f_X5_cast_B193 w l13) := by
  unfold f_X5_cast_B193
  refine e_iconst G (pc := 193) (v := 0) dX5_cast_193 (by decide) ?_
  refine e_bipush G (pc := 194) (v := 12) dX5_cast_194 (by decide) ?_
  refine e_iload G (pc := 196) dX5_cast_196 rfl ?_
  refine e_mmin G (pc := 198) mt_X5_52 (Nat.le_of_ble_eq_true rfl) (Nat.le_of_ble_eq_true rfl) dX5_cast_198 ?_
  refine e_ti (fun v1 => ?_)
  refine e_mmax G (pc := 201) mt_X5_55 (Nat.le_of_ble_eq_true rfl) (Nat.le_of_ble_eq_true rfl) dX5_cast_201 ?_
  refine e_ti (fun v2 => ?_)
  exact e_iret dX5_cast_204
set_option maxRecDepth 100000 in
set_option maxHeartbeats 4000000 in
theorem t_X5_cast_B122 {E : qE} {Γ : qC} (G : q_Ok E Γ RX5 cX5_cast 14 (4)) (w : qW) (l2 : Int32) (l3 : Int32) (l4 : Int32) (l6 : Int32) (l10 : Int32) (l11 : Int32) (s0 : Int32) (s1 : Int32) (s2 : Int32) : q_Ev E Γ 14 (q_Fi E Γ cX5_cast) 122 [some (.ref 9), none, some (.int l2), some (.int l3), some (.int l4), none, some (.int l6), none, none, none, some (.int l10), some (.int l11), none, none] [.int s0, .int s1, .int s2] w (f_X5_cast_B122 w l2 l3 l4 l6 l10 l11 s0 s1 s2) := by
  unfold f_X5_cast_B122
  refine e_iadd G (pc := 122) dX5_cast_122 ?_
  refine e_icmp_gt G (pc := 123) (tgt := 132) dX5_cast_123 (by decide) ?_ ?_
  · refine e_iconst G (pc := 132) (v := 0) dX5_cast_132 (by decide) ?_
    exact e_iret dX5_cast_133
  · refine e_iload G (pc := 126) dX5_cast_126 rfl ?_
    refine e_iload_n G (pc := 128) dX5_cast_128 rfl rfl ?_
    refine e_icmp_le G (pc := 129) (tgt := 134) dX5_cast_129 (by decide) ?_ ?_
    · refine e_aload_n G (pc := 134) dX5_cast_134 rfl rfl ?_
      refine e_getF G (pc := 135) sh_9 rfl lk_X5_9 dX5_cast_135 ?_
      refine e_iconst G (pc := 138) (v := 0) dX5_cast_138 (by decide) ?_
      refine e_bipush G (pc := 139) (v := 7) dX5_cast_139 (by decide) ?_
      refine e_cVi G (pc := 141) (As := [.int 0, .int 7]) (st := []) cv_X5_19 (c_X4_get w 0 7 ) sh_1 (Nat.le_of_ble_eq_true rfl) rfl (Nat.le_of_ble_eq_true rfl) dX5_cast_141 (fun r1 w2 => ?_)
      refine e_istore G (pc := 144) (L' := [some (.ref 9), none, some (.int l2), some (.int l3), some (.int l4), none, some (.int l6), none, none, none, some (.int l10), some (.int l11), some (.int r1), none]) dX5_cast_144 (Nat.le_of_ble_eq_true rfl) rfl ?_
      refine e_bipush G (pc := 146) (v := 6) dX5_cast_146 (by decide) ?_
      refine e_iconst G (pc := 148) (v := 2) dX5_cast_148 (by decide) ?_
      refine e_iload_n G (pc := 149) dX5_cast_149 rfl rfl ?_
      refine e_imul G (pc := 150) dX5_cast_150 ?_
      refine e_iadd G (pc := 151) dX5_cast_151 ?_
      refine e_iload G (pc := 152) dX5_cast_152 rfl ?_
      refine e_isub G (pc := 154) dX5_cast_154 ?_
      refine e_iload G (pc := 155) dX5_cast_155 rfl ?_
      refine e_isub G (pc := 157) dX5_cast_157 ?_
      refine e_iload G (pc := 158) dX5_cast_158 rfl ?_
      refine e_isub G (pc := 160) dX5_cast_160 ?_
      refine e_ti (fun v3 => ?_)
      refine e_istore G (pc := 161) (L' := [some (.ref 9), none, some (.int l2), some (.int l3), some (.int l4), none, some (.int l6), none, none, none, some (.int l10), some (.int l11), some (.int r1), some (.int v3)]) dX5_cast_161 (Nat.le_of_ble_eq_true rfl) rfl ?_
      refine e_aload_n G (pc := 163) dX5_cast_163 rfl rfl ?_
      refine e_getF G (pc := 164) sh_9 rfl lk_X5_15 dX5_cast_164 ?_
      refine e_cVi G (pc := 167) (As := []) (st := []) cv_X5_43 (c_X3_isTold w2  ) sh_3 (Nat.le_of_ble_eq_true rfl) rfl (Nat.le_of_ble_eq_true rfl) dX5_cast_167 (fun r4 w5 => ?_)
      refine e_if_eq G (pc := 170) (tgt := 193) dX5_cast_170 (by decide) ?_ ?_
      · refine e_wk (L' := [none, none, none, none, none, none, none, none, none, none, none, none, none, some (.int v3)]) (And.intro rfl (trivial)) ?_
        exact t_X5_cast_B193 G w5 v3 
      · refine e_aload_n G (pc := 173) dX5_cast_173 rfl rfl ?_
        refine e_getF G (pc := 174) sh_9 rfl lk_X5_15 dX5_cast_174 ?_
        refine e_iload_n G (pc := 177) dX5_cast_177 rfl rfl ?_
        refine e_iload G (pc := 178) dX5_cast_178 rfl ?_
        refine e_iload G (pc := 180) dX5_cast_180 rfl ?_
        refine e_iload G (pc := 182) dX5_cast_182 rfl ?_
        refine e_iload G (pc := 184) dX5_cast_184 rfl ?_
        refine e_iload G (pc := 186) dX5_cast_186 rfl ?_
        refine e_cVi G (pc := 188) (As := [.int l2, .int l10, .int l11, .int r1, .int l6, .int l4]) (st := []) cv_X5_49 (c_X3_value w5 l2 l10 l11 r1 l6 l4 ) sh_3 (Nat.le_of_ble_eq_true rfl) rfl (Nat.le_of_ble_eq_true rfl) dX5_cast_188 (fun r6 w7 => ?_)
        refine e_istore G (pc := 191) (L' := [some (.ref 9), none, some (.int l2), some (.int l3), some (.int l4), none, some (.int l6), none, none, none, some (.int l10), some (.int l11), some (.int r1), some (.int r6)]) dX5_cast_191 (Nat.le_of_ble_eq_true rfl) rfl ?_
        refine e_wk (L' := [none, none, none, none, none, none, none, none, none, none, none, none, none, some (.int r6)]) (And.intro rfl (trivial)) ?_
        exact t_X5_cast_B193 G w7 r6 
    · refine e_iconst G (pc := 132) (v := 0) dX5_cast_132 (by decide) ?_
      exact e_iret dX5_cast_133
set_option maxRecDepth 100000 in
set_option maxHeartbeats 4000000 in
theorem t_X5_cast_B93 {E : qE} {Γ : qC} (G : q_Ok E Γ RX5 cX5_cast 14 (4)) (w : qW) (l2 : Int32) (l3 : Int32) (l4 : Int32) (l6 : Int32) (l10 : Int32) (s0 : Int32) : q_Ev E Γ 14 (q_Fi E Γ cX5_cast) 93 [some (.ref 9), none, some (.int l2), some (.int l3), some (.int l4), none, some (.int l6), none, none, none, some (.int l10), none, none, none] [.int s0] w (f_X5_cast_B93 w l2 l3 l4 l6 l10 s0) := by
  unfold f_X5_cast_B93
  refine e_mabs G (pc := 93) mt_X5_33 (Nat.le_of_ble_eq_true rfl) (Nat.le_of_ble_eq_true rfl) dX5_cast_93 ?_
  refine e_ti (fun v1 => ?_)
  refine e_istore G (pc := 96) (L' := [some (.ref 9), none, some (.int l2), some (.int l3), some (.int l4), none, some (.int l6), none, none, none, some (.int l10), some (.int v1), none, none]) dX5_cast_96 (Nat.le_of_ble_eq_true rfl) rfl ?_
  refine e_iload G (pc := 98) dX5_cast_98 rfl ?_
  refine e_iconst G (pc := 100) (v := 1) dX5_cast_100 (by decide) ?_
  refine e_icmp_lt G (pc := 101) (tgt := 132) dX5_cast_101 (by decide) ?_ ?_
  · refine e_iconst G (pc := 132) (v := 0) dX5_cast_132 (by decide) ?_
    exact e_iret dX5_cast_133
  · refine e_iload G (pc := 104) dX5_cast_104 rfl ?_
    refine e_gets G (pc := 106) (id := 103) rfl ls_X5_39 dX5_cast_106 ?_
    refine e_iload G (pc := 109) dX5_cast_109 rfl ?_
    refine e_tald G (pc := 111) (k := 3) rfl (by decide) dX5_cast_111 (fun v2 => ?_)
    refine e_iload_n G (pc := 112) dX5_cast_112 rfl rfl ?_
    refine e_iconst G (pc := 113) (v := 2) dX5_cast_113 (by decide) ?_
    refine e_icmp_ne G (pc := 114) (tgt := 121) dX5_cast_114 (by decide) ?_ ?_
    · refine e_iconst G (pc := 121) (v := 0) dX5_cast_121 (by decide) ?_
      exact t_X5_cast_B122 G w l2 l3 l4 l6 l10 v1 0 v2 l10 
    · refine e_iconst G (pc := 117) (v := 1) dX5_cast_117 (by decide) ?_
      refine e_goto G (pc := 118) (tgt := 122) dX5_cast_118 (by decide) ?_
      exact t_X5_cast_B122 G w l2 l3 l4 l6 l10 v1 1 v2 l10 
set_option maxRecDepth 100000 in
set_option maxHeartbeats 4000000 in
theorem t_X5_cast_B79 {E : qE} {Γ : qC} (G : q_Ok E Γ RX5 cX5_cast 14 (4)) (w : qW) (l2 : Int32) (l3 : Int32) (l4 : Int32) (l6 : Int32) (l7 : Int32) (l8 : Int32) (l9 : Int32) (s0 : Int32) : q_Ev E Γ 14 (q_Fi E Γ cX5_cast) 79 [some (.ref 9), none, some (.int l2), some (.int l3), some (.int l4), none, some (.int l6), some (.int l7), some (.int l8), some (.int l9), none, none, none, none] [.int s0] w (f_X5_cast_B79 w l2 l3 l4 l6 l7 l8 l9 s0) := by
  unfold f_X5_cast_B79
  refine e_istore G (pc := 79) (L' := [some (.ref 9), none, some (.int l2), some (.int l3), some (.int l4), none, some (.int l6), some (.int l7), some (.int l8), some (.int l9), some (.int s0), none, none, none]) dX5_cast_79 (Nat.le_of_ble_eq_true rfl) rfl ?_
  refine e_iload G (pc := 81) dX5_cast_81 rfl ?_
  refine e_if_eq G (pc := 83) (tgt := 91) dX5_cast_83 (by decide) ?_ ?_
  · refine e_iload G (pc := 91) dX5_cast_91 rfl ?_
    refine e_wk (L' := [some (.ref 9), none, some (.int l2), some (.int l3), some (.int l4), none, some (.int l6), none, none, none, some (.int s0), none, none, none]) (And.intro rfl (And.intro rfl (And.intro rfl (And.intro rfl (And.intro rfl (And.intro rfl (trivial))))))) ?_
    exact t_X5_cast_B93 G w l2 l3 l4 l6 s0 l8 
  · refine e_iload G (pc := 86) dX5_cast_86 rfl ?_
    refine e_goto G (pc := 88) (tgt := 93) dX5_cast_88 (by decide) ?_
    refine e_wk (L' := [some (.ref 9), none, some (.int l2), some (.int l3), some (.int l4), none, some (.int l6), none, none, none, some (.int s0), none, none, none]) (And.intro rfl (And.intro rfl (And.intro rfl (And.intro rfl (And.intro rfl (And.intro rfl (trivial))))))) ?_
    exact t_X5_cast_B93 G w l2 l3 l4 l6 s0 l7 
set_option maxRecDepth 100000 in
set_option maxHeartbeats 4000000 in
theorem t_X5_cast_B52 {E : qE} {Γ : qC} (G : q_Ok E Γ RX5 cX5_cast 14 (4)) (w : qW) (l2 : Int32) (l3 : Int32) (l4 : Int32) (l6 : Int32) (l7 : Int32) (l8 : Int32) (s0 : Int32) : q_Ev E Γ 14 (q_Fi E Γ cX5_cast) 52 [some (.ref 9), none, some (.int l2), some (.int l3), some (.int l4), none, some (.int l6), some (.int l7), some (.int l8), none, none, none, none, none] [.int s0] w (f_X5_cast_B52 w l2 l3 l4 l6 l7 l8 s0) := by
  unfold f_X5_cast_B52
  refine e_istore G (pc := 52) (L' := [some (.ref 9), none, some (.int l2), some (.int l3), some (.int l4), none, some (.int l6), some (.int l7), some (.int l8), some (.int s0), none, none, none, none]) dX5_cast_52 (Nat.le_of_ble_eq_true rfl) rfl ?_
  refine e_iload G (pc := 54) dX5_cast_54 rfl ?_
  refine e_if_eq G (pc := 56) (tgt := 65) dX5_cast_56 (by decide) ?_ ?_
  · refine e_iload G (pc := 65) dX5_cast_65 rfl ?_
    refine e_iconst G (pc := 67) (v := 4) dX5_cast_67 (by decide) ?_
    refine e_icmp_ge G (pc := 68) (tgt := 77) dX5_cast_68 (by decide) ?_ ?_
    · refine e_iload G (pc := 77) dX5_cast_77 rfl ?_
      exact t_X5_cast_B79 G w l2 l3 l4 l6 l7 l8 s0 l7 
    · refine e_iload G (pc := 71) dX5_cast_71 rfl ?_
      refine e_ineg G (pc := 73) dX5_cast_73 ?_
      refine e_goto G (pc := 74) (tgt := 79) dX5_cast_74 (by decide) ?_
      exact t_X5_cast_B79 G w l2 l3 l4 l6 l7 l8 s0 (-l7) 
  · refine e_iload G (pc := 59) dX5_cast_59 rfl ?_
    refine e_ineg G (pc := 61) dX5_cast_61 ?_
    refine e_goto G (pc := 62) (tgt := 79) dX5_cast_62 (by decide) ?_
    exact t_X5_cast_B79 G w l2 l3 l4 l6 l7 l8 s0 (-l8) 
set_option maxRecDepth 100000 in
set_option maxHeartbeats 4000000 in
theorem t_X5_cast_B51 {E : qE} {Γ : qC} (G : q_Ok E Γ RX5 cX5_cast 14 (4)) (w : qW) (l2 : Int32) (l3 : Int32) (l4 : Int32) (l6 : Int32) (l7 : Int32) (l8 : Int32) : q_Ev E Γ 14 (q_Fi E Γ cX5_cast) 51 [some (.ref 9), none, some (.int l2), some (.int l3), some (.int l4), none, some (.int l6), some (.int l7), some (.int l8), none, none, none, none, none] [] w (f_X5_cast_B51 w l2 l3 l4 l6 l7 l8) := by
  unfold f_X5_cast_B51
  refine e_iconst G (pc := 51) (v := 0) dX5_cast_51 (by decide) ?_
  exact t_X5_cast_B52 G w l2 l3 l4 l6 l7 l8 0 
set_option maxRecDepth 100000 in
set_option maxHeartbeats 4000000 in
theorem t_X5_cast {E : qE} {Γ : qC} (G : q_Ok E Γ RX5 cX5_cast 14 (4)) (w : qW) (a1 : Int32) (a2 : Int32) (a3 : Int32) (a4 : Int32) (a5 : Int32) (a6 : Int32) : q_Ev E Γ 14 (q_Fi E Γ cX5_cast) 0 [some (.ref 9), some (.int a1), some (.int a2), some (.int a3), some (.int a4), some (.int a5), some (.int a6), none, none, none, none, none, none, none] [] w (f_X5_cast w a1 a2 a3 a4 a5 a6) := by
  unfold f_X5_cast
  refine e_iload G (pc := 0) dX5_cast_0 rfl ?_
  refine e_cNi G (pc := 2) (ci := 0) (id := 0) (sl := []) (As := [.int a6]) (st := []) cn_X5_29 (c_X10_isHour w a6 ) (Nat.le_of_ble_eq_true rfl) rfl (Nat.le_of_ble_eq_true rfl) dX5_cast_2 (fun r1 w2 => ?_)
  refine e_if_ne G (pc := 5) (tgt := 10) dX5_cast_5 (by decide) ?_ ?_
  · refine e_iload G (pc := 10) dX5_cast_10 rfl ?_
    refine e_bipush G (pc := 12) (v := 12) dX5_cast_12 (by decide) ?_
    refine e_irem G (pc := 14) dX5_cast_14 (by decide) ?_
    refine e_iload_n G (pc := 15) dX5_cast_15 rfl rfl ?_
    refine e_bipush G (pc := 16) (v := 12) dX5_cast_16 (by decide) ?_
    refine e_irem G (pc := 18) dX5_cast_18 (by decide) ?_
    refine e_isub G (pc := 19) dX5_cast_19 ?_
    refine e_ti (fun v3 => ?_)
    refine e_istore G (pc := 20) (L' := [some (.ref 9), some (.int a1), some (.int a2), some (.int a3), some (.int a4), some (.int a5), some (.int a6), some (.int v3), none, none, none, none, none, none]) dX5_cast_20 (Nat.le_of_ble_eq_true rfl) rfl ?_
    refine e_iload G (pc := 22) dX5_cast_22 rfl ?_
    refine e_bipush G (pc := 24) (v := 12) dX5_cast_24 (by decide) ?_
    refine e_idiv G (pc := 26) dX5_cast_26 (by decide) ?_
    refine e_iload_n G (pc := 27) dX5_cast_27 rfl rfl ?_
    refine e_bipush G (pc := 28) (v := 12) dX5_cast_28 (by decide) ?_
    refine e_idiv G (pc := 30) dX5_cast_30 (by decide) ?_
    refine e_isub G (pc := 31) dX5_cast_31 ?_
    refine e_ti (fun v4 => ?_)
    refine e_istore G (pc := 32) (L' := [some (.ref 9), some (.int a1), some (.int a2), some (.int a3), some (.int a4), some (.int a5), some (.int a6), some (.int v3), some (.int v4), none, none, none, none, none]) dX5_cast_32 (Nat.le_of_ble_eq_true rfl) rfl ?_
    refine e_iload G (pc := 34) dX5_cast_34 rfl ?_
    refine e_iconst G (pc := 36) (v := 4) dX5_cast_36 (by decide) ?_
    refine e_icmp_lt G (pc := 37) (tgt := 51) dX5_cast_37 (by decide) ?_ ?_
    · refine e_wk (L' := [some (.ref 9), none, some (.int a2), some (.int a3), some (.int a4), none, some (.int a6), some (.int v3), some (.int v4), none, none, none, none, none]) (And.intro rfl (And.intro rfl (And.intro rfl (And.intro rfl (And.intro rfl (And.intro rfl (And.intro rfl (trivial)))))))) ?_
      exact t_X5_cast_B51 G w2 a2 a3 a4 a6 v3 v4 
    · refine e_iload G (pc := 40) dX5_cast_40 rfl ?_
      refine e_bipush G (pc := 42) (v := 8) dX5_cast_42 (by decide) ?_
      refine e_icmp_ge G (pc := 44) (tgt := 51) dX5_cast_44 (by decide) ?_ ?_
      · refine e_wk (L' := [some (.ref 9), none, some (.int a2), some (.int a3), some (.int a4), none, some (.int a6), some (.int v3), some (.int v4), none, none, none, none, none]) (And.intro rfl (And.intro rfl (And.intro rfl (And.intro rfl (And.intro rfl (And.intro rfl (And.intro rfl (trivial)))))))) ?_
        exact t_X5_cast_B51 G w2 a2 a3 a4 a6 v3 v4 
      · refine e_iconst G (pc := 47) (v := 1) dX5_cast_47 (by decide) ?_
        refine e_goto G (pc := 48) (tgt := 52) dX5_cast_48 (by decide) ?_
        refine e_wk (L' := [some (.ref 9), none, some (.int a2), some (.int a3), some (.int a4), none, some (.int a6), some (.int v3), some (.int v4), none, none, none, none, none]) (And.intro rfl (And.intro rfl (And.intro rfl (And.intro rfl (And.intro rfl (And.intro rfl (And.intro rfl (trivial)))))))) ?_
        exact t_X5_cast_B52 G w2 a2 a3 a4 a6 v3 v4 1 
  · refine e_iconst G (pc := 8) (v := 0) dX5_cast_8 (by decide) ?_
    exact e_iret dX5_cast_9
set_option maxRecDepth 100000 in
set_option maxHeartbeats 4000000 in
theorem c_X5_cast (w : qW) (a1 : Int32) (a2 : Int32) (a3 : Int32) (a4 : Int32) (a5 : Int32) (a6 : Int32) : q_AC q_vi (some .int) (4) yX5_cast cX5_cast 14 [.ref 9, .int a1, .int a2, .int a3, .int a4, .int a5, .int a6] w (f_X5_cast w a1 a2 a3 a4 a5 a6) := q_met_i (k := 7) (by decide +kernel) rfl rfl rfl (fun _ _ G => t_X5_cast G w a1 a2 a3 a4 a5 a6 )
set_option maxRecDepth 100000 in
set_option maxHeartbeats 4000000 in
theorem t_X5_ifHe {E : qE} {Γ : qC} (G : q_Ok E Γ RX5 cX5_ifHe 6 (5)) (w : qW) (a1 : Int32) (a2 : Int32) (a3 : Int32) (a4 : Int32) (a5 : Int32) : q_Ev E Γ 6 (q_Fi E Γ cX5_ifHe) 0 [some (.ref 9), some (.int a1), some (.int a2), some (.int a3), some (.int a4), some (.int a5)] [] w (f_X5_ifHe w a1 a2 a3 a4 a5) := by
  unfold f_X5_ifHe
  refine e_aload_n G (pc := 0) dX5_ifHe_0 rfl rfl ?_
  refine e_iload_n G (pc := 1) dX5_ifHe_1 rfl rfl ?_
  refine e_iload_n G (pc := 2) dX5_ifHe_2 rfl rfl ?_
  refine e_aload_n G (pc := 3) dX5_ifHe_3 rfl rfl ?_
  refine e_getF G (pc := 4) sh_9 rfl lk_X5_9 dX5_ifHe_4 ?_
  refine e_iload_n G (pc := 7) dX5_ifHe_7 rfl rfl ?_
  refine e_iconst G (pc := 8) (v := 2) dX5_ifHe_8 (by decide) ?_
  refine e_cVi G (pc := 9) (As := [.int a1, .int 2]) (st := [.int a3, .int a2, .ref 9]) cv_X5_19 (c_X4_get w a1 2 ) sh_1 (Nat.le_of_ble_eq_true rfl) rfl (Nat.le_of_ble_eq_true rfl) dX5_ifHe_9 (fun r1 w2 => ?_)
  refine e_iload_n G (pc := 12) dX5_ifHe_12 rfl rfl ?_
  refine e_iload G (pc := 13) dX5_ifHe_13 rfl ?_
  refine e_iload G (pc := 15) dX5_ifHe_15 rfl ?_
  refine e_cVi G (pc := 17) (As := [.int a2, .int a3, .int r1, .int a1, .int a4, .int a5]) (st := []) cv_X5_25 (c_X5_cast w2 a2 a3 r1 a1 a4 a5 ) sh_9 (Nat.le_of_ble_eq_true rfl) rfl (Nat.le_of_ble_eq_true rfl) dX5_ifHe_17 (fun r3 w4 => ?_)
  exact e_iret dX5_ifHe_20
set_option maxRecDepth 100000 in
set_option maxHeartbeats 4000000 in
theorem c_X5_ifHe (w : qW) (a1 : Int32) (a2 : Int32) (a3 : Int32) (a4 : Int32) (a5 : Int32) : q_AC q_vi (some .int) (5) yX5_ifHe cX5_ifHe 6 [.ref 9, .int a1, .int a2, .int a3, .int a4, .int a5] w (f_X5_ifHe w a1 a2 a3 a4 a5) := q_met_i (k := 0) (by decide +kernel) rfl rfl rfl (fun _ _ G => t_X5_ifHe G w a1 a2 a3 a4 a5 )
set_option maxRecDepth 100000 in
set_option maxHeartbeats 4000000 in
theorem t_X5_byMan {E : qE} {Γ : qC} (G : q_Ok E Γ RX5 cX5_byMan 5 (5)) (w : qW) (a1 : Int32) (a2 : Int32) (a3 : Int32) : q_Ev E Γ 5 (q_Fi E Γ cX5_byMan) 0 [some (.ref 9), some (.int a1), some (.int a2), some (.int a3), none] [] w (f_X5_byMan w a1 a2 a3) := by
  unfold f_X5_byMan
  refine e_iload_n G (pc := 0) dX5_byMan_0 rfl rfl ?_
  refine e_aload_n G (pc := 1) dX5_byMan_1 rfl rfl ?_
  refine e_getF G (pc := 2) sh_9 rfl lk_X5_9 dX5_byMan_2 ?_
  refine e_getI G (pc := 5) sh_1 rfl lk_X5_58 dX5_byMan_5 ?_
  refine e_icmp_lt G (pc := 8) (tgt := 13) dX5_byMan_8 (by decide) ?_ ?_
  · refine e_aload_n G (pc := 13) dX5_byMan_13 rfl rfl ?_
    refine e_getF G (pc := 14) sh_9 rfl lk_X5_9 dX5_byMan_14 ?_
    refine e_iload_n G (pc := 17) dX5_byMan_17 rfl rfl ?_
    refine e_iconst G (pc := 18) (v := 0) dX5_byMan_18 (by decide) ?_
    refine e_cVi G (pc := 19) (As := [.int a1, .int 0]) (st := []) cv_X5_19 (c_X4_get w a1 0 ) sh_1 (Nat.le_of_ble_eq_true rfl) rfl (Nat.le_of_ble_eq_true rfl) dX5_byMan_19 (fun r1 w2 => ?_)
    refine e_istore G (pc := 22) (L' := [some (.ref 9), some (.int a1), some (.int a2), some (.int a3), some (.int r1)]) dX5_byMan_22 (Nat.le_of_ble_eq_true rfl) rfl ?_
    refine e_aload_n G (pc := 24) dX5_byMan_24 rfl rfl ?_
    refine e_iload G (pc := 25) dX5_byMan_25 rfl ?_
    refine e_aload_n G (pc := 27) dX5_byMan_27 rfl rfl ?_
    refine e_getF G (pc := 28) sh_9 rfl lk_X5_9 dX5_byMan_28 ?_
    refine e_iload_n G (pc := 31) dX5_byMan_31 rfl rfl ?_
    refine e_iconst G (pc := 32) (v := 1) dX5_byMan_32 (by decide) ?_
    refine e_cVi G (pc := 33) (As := [.int a1, .int 1]) (st := [.int r1, .ref 9]) cv_X5_19 (c_X4_get w2 a1 1 ) sh_1 (Nat.le_of_ble_eq_true rfl) rfl (Nat.le_of_ble_eq_true rfl) dX5_byMan_33 (fun r3 w4 => ?_)
    refine e_aload_n G (pc := 36) dX5_byMan_36 rfl rfl ?_
    refine e_getF G (pc := 37) sh_9 rfl lk_X5_9 dX5_byMan_37 ?_
    refine e_iload_n G (pc := 40) dX5_byMan_40 rfl rfl ?_
    refine e_iconst G (pc := 41) (v := 2) dX5_byMan_41 (by decide) ?_
    refine e_cVi G (pc := 42) (As := [.int a1, .int 2]) (st := [.int r3, .int r1, .ref 9]) cv_X5_19 (c_X4_get w4 a1 2 ) sh_1 (Nat.le_of_ble_eq_true rfl) rfl (Nat.le_of_ble_eq_true rfl) dX5_byMan_42 (fun r5 w6 => ?_)
    refine e_iload_n G (pc := 45) dX5_byMan_45 rfl rfl ?_
    refine e_iload_n G (pc := 46) dX5_byMan_46 rfl rfl ?_
    refine e_iload_n G (pc := 47) dX5_byMan_47 rfl rfl ?_
    refine e_cVi G (pc := 48) (As := [.int r1, .int r3, .int r5, .int a1, .int a2, .int a3]) (st := []) cv_X5_25 (c_X5_cast w6 r1 r3 r5 a1 a2 a3 ) sh_9 (Nat.le_of_ble_eq_true rfl) rfl (Nat.le_of_ble_eq_true rfl) dX5_byMan_48 (fun r7 w8 => ?_)
    exact e_iret dX5_byMan_51
  · refine e_iconst G (pc := 11) (v := 0) dX5_byMan_11 (by decide) ?_
    exact e_iret dX5_byMan_12
set_option maxRecDepth 100000 in
set_option maxHeartbeats 4000000 in
theorem c_X5_byMan (w : qW) (a1 : Int32) (a2 : Int32) (a3 : Int32) : q_AC q_vi (some .int) (5) yX5_byMan cX5_byMan 5 [.ref 9, .int a1, .int a2, .int a3] w (f_X5_byMan w a1 a2 a3) := q_met_i (k := 1) (by decide +kernel) rfl rfl rfl (fun _ _ G => t_X5_byMan G w a1 a2 a3 )
set_option maxRecDepth 100000 in
set_option maxHeartbeats 4000000 in
theorem t_X5_byAll_B5 {E : qE} {Γ : qC} (G : q_Ok E Γ RX5 cX5_byAll 5 (6)) (k5 : qW → Int32 → Int32 → Int32 → Int32 → Option (Int32 × qW)) (hk5 : ∀ (w : qW) (l1 : Int32) (l2 : Int32) (l3 : Int32) (l4 : Int32), q_Ev E Γ 5 (q_Fi E Γ cX5_byAll) 5 [some (.ref 9), some (.int l1), some (.int l2), some (.int l3), some (.int l4)] [] w (k5 w l1 l2 l3 l4)) (w : qW) (l1 : Int32) (l2 : Int32) (l3 : Int32) (l4 : Int32) : q_Ev E Γ 5 (q_Fi E Γ cX5_byAll) 5 [some (.ref 9), some (.int l1), some (.int l2), some (.int l3), some (.int l4)] [] w (f_X5_byAll_B5 k5 w l1 l2 l3 l4) := by
  unfold f_X5_byAll_B5
  refine e_iload G (pc := 5) dX5_byAll_5 rfl ?_
  refine e_aload_n G (pc := 7) dX5_byAll_7 rfl rfl ?_
  refine e_getF G (pc := 8) sh_9 rfl lk_X5_9 dX5_byAll_8 ?_
  refine e_getI G (pc := 11) sh_1 rfl lk_X5_58 dX5_byAll_11 ?_
  refine e_icmp_ge G (pc := 14) (tgt := 34) dX5_byAll_14 (by decide) ?_ ?_
  · refine e_iload_n G (pc := 34) dX5_byAll_34 rfl rfl ?_
    exact e_iret dX5_byAll_35
  · refine e_iload_n G (pc := 17) dX5_byAll_17 rfl rfl ?_
    refine e_aload_n G (pc := 18) dX5_byAll_18 rfl rfl ?_
    refine e_iload G (pc := 19) dX5_byAll_19 rfl ?_
    refine e_iload_n G (pc := 21) dX5_byAll_21 rfl rfl ?_
    refine e_iload_n G (pc := 22) dX5_byAll_22 rfl rfl ?_
    refine e_cVi G (pc := 23) (As := [.int l4, .int l1, .int l2]) (st := [.int l3]) cv_X5_62 (c_X5_byMan w l4 l1 l2 ) sh_9 (Nat.le_of_ble_eq_true rfl) rfl (Nat.le_of_ble_eq_true rfl) dX5_byAll_23 (fun r1 w2 => ?_)
    refine e_iadd G (pc := 26) dX5_byAll_26 ?_
    refine e_ti (fun v3 => ?_)
    refine e_istore_n G (pc := 27) (L' := [some (.ref 9), some (.int l1), some (.int l2), some (.int v3), some (.int l4)]) dX5_byAll_27 rfl (Nat.le_of_ble_eq_true rfl) rfl ?_
    refine e_iinc G (pc := 28) (x := l4) (v := l4 + 1) (L' := fun v4 => [some (.ref 9), some (.int l1), some (.int l2), some (.int v3), some (.int v4)]) dX5_byAll_28 (Nat.le_of_ble_eq_true rfl) rfl (by rfl) (fun _ => rfl) (fun v4 => ?_)
    refine e_goto G (pc := 31) (tgt := 5) dX5_byAll_31 (by decide) ?_
    exact hk5 w2 l1 l2 v3 v4 
set_option maxRecDepth 100000 in
set_option maxHeartbeats 4000000 in
theorem t_X5_byAll_R5 {E : qE} {Γ : qC} (G : q_Ok E Γ RX5 cX5_byAll 5 (6)) : ∀ (fuel : Nat) (w : qW) (l1 : Int32) (l2 : Int32) (l3 : Int32) (l4 : Int32) , q_Ev E Γ 5 (q_Fi E Γ cX5_byAll) 5 [some (.ref 9), some (.int l1), some (.int l2), some (.int l3), some (.int l4)] [] w (f_X5_byAll_R5 fuel w l1 l2 l3 l4) := by
  intro fuel
  induction fuel with
  | zero => intros; exact e_none
  | succ fuel ih =>
    intro w l1 l2 l3 l4 
    exact t_X5_byAll_B5 G _ ih w l1 l2 l3 l4 
set_option maxRecDepth 100000 in
set_option maxHeartbeats 4000000 in
theorem t_X5_byAll {E : qE} {Γ : qC} (G : q_Ok E Γ RX5 cX5_byAll 5 (6)) (w : qW) (a1 : Int32) (a2 : Int32) : q_Ev E Γ 5 (q_Fi E Γ cX5_byAll) 0 [some (.ref 9), some (.int a1), some (.int a2), none, none] [] w (f_X5_byAll w a1 a2) := by
  unfold f_X5_byAll
  refine e_iconst G (pc := 0) (v := 0) dX5_byAll_0 (by decide) ?_
  refine e_istore_n G (pc := 1) (L' := [some (.ref 9), some (.int a1), some (.int a2), some (.int 0), none]) dX5_byAll_1 rfl (Nat.le_of_ble_eq_true rfl) rfl ?_
  refine e_iconst G (pc := 2) (v := 0) dX5_byAll_2 (by decide) ?_
  refine e_istore G (pc := 3) (L' := [some (.ref 9), some (.int a1), some (.int a2), some (.int 0), some (.int 0)]) dX5_byAll_3 (Nat.le_of_ble_eq_true rfl) rfl ?_
  exact t_X5_byAll_R5 G  q_fuel w a1 a2 0 0 
set_option maxRecDepth 100000 in
set_option maxHeartbeats 4000000 in
theorem c_X5_byAll (w : qW) (a1 : Int32) (a2 : Int32) : q_AC q_vi (some .int) (6) yX5_byAll cX5_byAll 5 [.ref 9, .int a1, .int a2] w (f_X5_byAll w a1 a2) := q_met_i (k := 2) (by decide +kernel) rfl rfl rfl (fun _ _ G => t_X5_byAll G w a1 a2 )
set_option maxRecDepth 100000 in
set_option maxHeartbeats 4000000 in
theorem t_X3_take {E : qE} {Γ : qC} (G : q_Ok E Γ RX3 cX3_take 2 (2)) (w : qW) (a1 : Int32) : q_Ev E Γ 2 (q_Fi E Γ cX3_take) 0 [some (.ref 3), some (.int a1)] [] w (f_X3_take w a1) := by
  unfold f_X3_take
  refine e_aload_n G (pc := 0) dX3_take_0 rfl rfl ?_
  refine e_getI G (pc := 1) sh_3 rfl lk_X3_27 dX3_take_1 ?_
  refine e_bipush G (pc := 4) (v := 120) dX3_take_4 (by decide) ?_
  refine e_icmp_lt G (pc := 6) (tgt := 12) dX3_take_6 (by decide) ?_ ?_
  · refine e_aload_n G (pc := 12) dX3_take_12 rfl rfl ?_
    refine e_getF G (pc := 13) sh_3 rfl lk_X3_11 dX3_take_13 ?_
    refine e_aload_n G (pc := 16) dX3_take_16 rfl rfl ?_
    refine e_getI G (pc := 17) sh_3 rfl lk_X3_27 dX3_take_17 ?_
    refine e_iload_n G (pc := 20) dX3_take_20 rfl rfl ?_
    refine e_iast G (pc := 21) sh_4 dX3_take_21 (fun w1 => ?_)
    refine e_aload_n G (pc := 22) dX3_take_22 rfl rfl ?_
    refine e_dup G (pc := 23) dX3_take_23 rfl ?_
    refine e_getI G (pc := 24) sh_3 rfl lk_X3_27 dX3_take_24 ?_
    refine e_iconst G (pc := 27) (v := 1) dX3_take_27 (by decide) ?_
    refine e_iadd G (pc := 28) dX3_take_28 ?_
    refine e_putI G (pc := 29) sh_3 rfl lp_X3_27 rfl rfl dX3_take_29 (fun w2 => ?_)
    refine e_aload_n G (pc := 32) dX3_take_32 rfl rfl ?_
    refine e_getI G (pc := 33) sh_3 rfl lk_X3_27 dX3_take_33 ?_
    exact e_iret dX3_take_36
  · refine e_bipush G (pc := 9) (v := (-3)) dX3_take_9 (by decide) ?_
    exact e_iret dX3_take_11
set_option maxRecDepth 100000 in
set_option maxHeartbeats 4000000 in
theorem c_X3_take (w : qW) (a1 : Int32) : q_AC q_vi (some .int) (2) yX3_take cX3_take 2 [.ref 3, .int a1] w (f_X3_take w a1) := q_met_i (k := 0) (by decide +kernel) rfl rfl rfl (fun _ _ G => t_X3_take G w a1 )
set_option maxRecDepth 100000 in
set_option maxHeartbeats 4000000 in
theorem t_X3_next {E : qE} {Γ : qC} (G : q_Ok E Γ RX3 cX3_next 1 (2)) (w : qW) : q_Ev E Γ 1 (q_Fi E Γ cX3_next) 0 [some (.ref 3)] [] w (f_X3_next w ) := by
  unfold f_X3_next
  refine e_aload_n G (pc := 0) dX3_next_0 rfl rfl ?_
  refine e_getI G (pc := 1) sh_3 rfl lk_X3_31 dX3_next_1 ?_
  refine e_aload_n G (pc := 4) dX3_next_4 rfl rfl ?_
  refine e_getI G (pc := 5) sh_3 rfl lk_X3_27 dX3_next_5 ?_
  refine e_icmp_ge G (pc := 8) (tgt := 32) dX3_next_8 (by decide) ?_ ?_
  · refine e_iconst G (pc := 32) (v := (-1)) dX3_next_32 (by decide) ?_
    exact e_iret dX3_next_33
  · refine e_aload_n G (pc := 11) dX3_next_11 rfl rfl ?_
    refine e_getI G (pc := 12) sh_3 rfl lk_X3_31 dX3_next_12 ?_
    refine e_bipush G (pc := 15) (v := 120) dX3_next_15 (by decide) ?_
    refine e_icmp_ge G (pc := 17) (tgt := 32) dX3_next_17 (by decide) ?_ ?_
    · refine e_iconst G (pc := 32) (v := (-1)) dX3_next_32 (by decide) ?_
      exact e_iret dX3_next_33
    · refine e_aload_n G (pc := 20) dX3_next_20 rfl rfl ?_
      refine e_getF G (pc := 21) sh_3 rfl lk_X3_11 dX3_next_21 ?_
      refine e_aload_n G (pc := 24) dX3_next_24 rfl rfl ?_
      refine e_getI G (pc := 25) sh_3 rfl lk_X3_31 dX3_next_25 ?_
      refine e_iald G (pc := 28) sh_4 dX3_next_28 (fun v1 => ?_)
      refine e_goto G (pc := 29) (tgt := 33) dX3_next_29 (by decide) ?_
      exact e_iret dX3_next_33
set_option maxRecDepth 100000 in
set_option maxHeartbeats 4000000 in
theorem c_X3_next (w : qW) : q_AC q_vi (some .int) (2) yX3_next cX3_next 1 [.ref 3] w (f_X3_next w ) := q_met_i (k := 0) (by decide +kernel) rfl rfl rfl (fun _ _ G => t_X3_next G w  )
set_option maxRecDepth 100000 in
set_option maxHeartbeats 4000000 in
theorem t_X3_isDigit {E : qE} {Γ : qC} (G : q_Ok E Γ RX3 cX3_isDigit 1 (2)) (w : qW) (a1 : Int32) : q_Ev E Γ 1 (q_Fz E Γ cX3_isDigit) 0 [some (.int a1)] [] w (f_X3_isDigit w a1) := by
  unfold f_X3_isDigit
  refine e_iload_n G (pc := 0) dX3_isDigit_0 rfl rfl ?_
  refine e_bipush G (pc := 1) (v := 48) dX3_isDigit_1 (by decide) ?_
  refine e_icmp_lt G (pc := 3) (tgt := 16) dX3_isDigit_3 (by decide) ?_ ?_
  · refine e_iconst G (pc := 16) (v := 0) dX3_isDigit_16 (by decide) ?_
    exact e_zret dX3_isDigit_17
  · refine e_iload_n G (pc := 6) dX3_isDigit_6 rfl rfl ?_
    refine e_bipush G (pc := 7) (v := 57) dX3_isDigit_7 (by decide) ?_
    refine e_icmp_gt G (pc := 9) (tgt := 16) dX3_isDigit_9 (by decide) ?_ ?_
    · refine e_iconst G (pc := 16) (v := 0) dX3_isDigit_16 (by decide) ?_
      exact e_zret dX3_isDigit_17
    · refine e_iconst G (pc := 12) (v := 1) dX3_isDigit_12 (by decide) ?_
      refine e_goto G (pc := 13) (tgt := 17) dX3_isDigit_13 (by decide) ?_
      exact e_zret dX3_isDigit_17
set_option maxRecDepth 100000 in
set_option maxHeartbeats 4000000 in
theorem c_X3_isDigit (w : qW) (a1 : Int32) : q_AC q_vi (some .boolean) (2) yX3_isDigit cX3_isDigit 1 [.int a1] w (f_X3_isDigit w a1) := q_met_z (k := 0) (by decide +kernel) rfl rfl rfl (fun _ _ G => t_X3_isDigit G w a1 )
set_option maxRecDepth 100000 in
set_option maxHeartbeats 4000000 in
theorem t_X3_write {E : qE} {Γ : qC} (G : q_Ok E Γ RX3 cX3_write 3 (2)) (w : qW) (a1 : Int32) (a2 : Int32) : q_Ev E Γ 3 (q_Fv E Γ cX3_write) 0 [some (.ref 3), some (.int a1), some (.int a2)] [] w (f_X3_write w a1 a2) := by
  unfold f_X3_write
  refine e_aload_n G (pc := 0) dX3_write_0 rfl rfl ?_
  refine e_getI G (pc := 1) sh_3 rfl lk_X3_34 dX3_write_1 ?_
  refine e_aload_n G (pc := 4) dX3_write_4 rfl rfl ?_
  refine e_getD G (pc := 5) (n := 128) sh_3 rfl lk_X3_18 dX3_write_5 (fun id1 hs2 => ?_)
  refine e_alen G (pc := 8) hs2 dX3_write_8 ?_
  refine e_icmp_ge G (pc := 9) (tgt := 36) dX3_write_9 (by decide) ?_ ?_
  · exact e_vret dX3_write_36
  · refine e_aload_n G (pc := 12) dX3_write_12 rfl rfl ?_
    refine e_getD G (pc := 13) (n := 128) sh_3 rfl lk_X3_18 dX3_write_13 (fun id3 hs4 => ?_)
    refine e_aload_n G (pc := 16) dX3_write_16 rfl rfl ?_
    refine e_getI G (pc := 17) sh_3 rfl lk_X3_34 dX3_write_17 ?_
    refine e_iload_n G (pc := 20) dX3_write_20 rfl rfl ?_
    refine e_iload_n G (pc := 21) dX3_write_21 rfl rfl ?_
    refine e_iconst G (pc := 22) (v := 5) dX3_write_22 (by decide) ?_
    refine e_ishl G (pc := 23) dX3_write_23 ?_
    refine e_ior G (pc := 24) dX3_write_24 ?_
    refine e_iast G (pc := 25) hs4 dX3_write_25 (fun w5 => ?_)
    refine e_aload_n G (pc := 26) dX3_write_26 rfl rfl ?_
    refine e_dup G (pc := 27) dX3_write_27 rfl ?_
    refine e_getI G (pc := 28) sh_3 rfl lk_X3_34 dX3_write_28 ?_
    refine e_iconst G (pc := 31) (v := 1) dX3_write_31 (by decide) ?_
    refine e_iadd G (pc := 32) dX3_write_32 ?_
    refine e_putI G (pc := 33) sh_3 rfl lp_X3_34 rfl rfl dX3_write_33 (fun w6 => ?_)
    exact e_vret dX3_write_36
set_option maxRecDepth 100000 in
set_option maxHeartbeats 4000000 in
theorem c_X3_write (w : qW) (a1 : Int32) (a2 : Int32) : q_AC q_vv none (2) yX3_write cX3_write 3 [.ref 3, .int a1, .int a2] w (f_X3_write w a1 a2) := q_met_v (k := 0) (by decide +kernel) rfl rfl rfl (fun _ _ G => t_X3_write G w a1 a2 )
set_option maxRecDepth 100000 in
set_option maxHeartbeats 4000000 in
theorem t_X3_readNumber_B48 {E : qE} {Γ : qC} (G : q_Ok E Γ RX3 cX3_readNumber 3 (3)) (w : qW) (l1 : Int32) : q_Ev E Γ 3 (q_Fv E Γ cX3_readNumber) 48 [some (.ref 3), some (.int l1), none] [] w (f_X3_readNumber_B48 w l1) := by
  unfold f_X3_readNumber_B48
  refine e_aload_n G (pc := 48) dX3_readNumber_48 rfl rfl ?_
  refine e_iconst G (pc := 49) (v := 0) dX3_readNumber_49 (by decide) ?_
  refine e_iload_n G (pc := 50) dX3_readNumber_50 rfl rfl ?_
  refine e_cVv G (pc := 51) (As := [.int 0, .int l1]) (st := []) cv_X3_67 (c_X3_write w 0 l1 ) sh_3 (Nat.le_of_ble_eq_true rfl) rfl (Nat.le_of_ble_eq_true rfl) dX3_readNumber_51 (fun r1 w2 => ?_)
  exact e_vret dX3_readNumber_54
set_option maxRecDepth 100000 in
set_option maxHeartbeats 4000000 in
theorem t_X3_readNumber_B4 {E : qE} {Γ : qC} (G : q_Ok E Γ RX3 cX3_readNumber 3 (3)) (k4 : qW → Int32 → Int32 → Option (Unit × qW)) (hk4 : ∀ (w : qW) (l1 : Int32) (l2 : Int32), q_Ev E Γ 3 (q_Fv E Γ cX3_readNumber) 4 [some (.ref 3), some (.int l1), some (.int l2)] [] w (k4 w l1 l2)) (w : qW) (l1 : Int32) (l2 : Int32) : q_Ev E Γ 3 (q_Fv E Γ cX3_readNumber) 4 [some (.ref 3), some (.int l1), some (.int l2)] [] w (f_X3_readNumber_B4 k4 w l1 l2) := by
  unfold f_X3_readNumber_B4
  refine e_iload_n G (pc := 4) dX3_readNumber_4 rfl rfl ?_
  refine e_iconst G (pc := 5) (v := 4) dX3_readNumber_5 (by decide) ?_
  refine e_icmp_ge G (pc := 6) (tgt := 48) dX3_readNumber_6 (by decide) ?_ ?_
  · refine e_wk (L' := [some (.ref 3), some (.int l1), none]) (And.intro rfl (And.intro rfl (trivial))) ?_
    exact t_X3_readNumber_B48 G w l1 
  · refine e_aload_n G (pc := 9) dX3_readNumber_9 rfl rfl ?_
    refine e_cVi G (pc := 10) (As := []) (st := []) cv_X3_59 (c_X3_next w  ) sh_3 (Nat.le_of_ble_eq_true rfl) rfl (Nat.le_of_ble_eq_true rfl) dX3_readNumber_10 (fun r1 w2 => ?_)
    refine e_cSi G (pc := 13) (ci := 0) (id := 0) (sl := []) (As := [.int r1]) (st := []) cs_X3_79 (c_X3_isDigit w2 r1 ) (Nat.le_of_ble_eq_true rfl) rfl (Nat.le_of_ble_eq_true rfl) dX3_readNumber_13 (fun r3 w4 => ?_)
    refine e_if_eq G (pc := 16) (tgt := 48) dX3_readNumber_16 (by decide) ?_ ?_
    · refine e_wk (L' := [some (.ref 3), some (.int l1), none]) (And.intro rfl (And.intro rfl (trivial))) ?_
      exact t_X3_readNumber_B48 G w4 l1 
    · refine e_bipush G (pc := 19) (v := 10) dX3_readNumber_19 (by decide) ?_
      refine e_iload_n G (pc := 21) dX3_readNumber_21 rfl rfl ?_
      refine e_imul G (pc := 22) dX3_readNumber_22 ?_
      refine e_aload_n G (pc := 23) dX3_readNumber_23 rfl rfl ?_
      refine e_cVi G (pc := 24) (As := []) (st := [.int ((10 : Int32) * l1)]) cv_X3_59 (c_X3_next w4  ) sh_3 (Nat.le_of_ble_eq_true rfl) rfl (Nat.le_of_ble_eq_true rfl) dX3_readNumber_24 (fun r5 w6 => ?_)
      refine e_iadd G (pc := 27) dX3_readNumber_27 ?_
      refine e_bipush G (pc := 28) (v := 48) dX3_readNumber_28 (by decide) ?_
      refine e_isub G (pc := 30) dX3_readNumber_30 ?_
      refine e_ti (fun v7 => ?_)
      refine e_istore_n G (pc := 31) (L' := [some (.ref 3), some (.int v7), some (.int l2)]) dX3_readNumber_31 rfl (Nat.le_of_ble_eq_true rfl) rfl ?_
      refine e_aload_n G (pc := 32) dX3_readNumber_32 rfl rfl ?_
      refine e_dup G (pc := 33) dX3_readNumber_33 rfl ?_
      refine e_getI G (pc := 34) sh_3 rfl lk_X3_31 dX3_readNumber_34 ?_
      refine e_iconst G (pc := 37) (v := 1) dX3_readNumber_37 (by decide) ?_
      refine e_iadd G (pc := 38) dX3_readNumber_38 ?_
      refine e_putI G (pc := 39) sh_3 rfl lp_X3_31 rfl rfl dX3_readNumber_39 (fun w8 => ?_)
      refine e_iinc G (pc := 42) (x := l2) (v := l2 + 1) (L' := fun v9 => [some (.ref 3), some (.int v7), some (.int v9)]) dX3_readNumber_42 (Nat.le_of_ble_eq_true rfl) rfl (by rfl) (fun _ => rfl) (fun v9 => ?_)
      refine e_goto G (pc := 45) (tgt := 4) dX3_readNumber_45 (by decide) ?_
      exact hk4 w8 v7 v9 
set_option maxRecDepth 100000 in
set_option maxHeartbeats 4000000 in
theorem t_X3_readNumber_R4 {E : qE} {Γ : qC} (G : q_Ok E Γ RX3 cX3_readNumber 3 (3)) : ∀ (fuel : Nat) (w : qW) (l1 : Int32) (l2 : Int32) , q_Ev E Γ 3 (q_Fv E Γ cX3_readNumber) 4 [some (.ref 3), some (.int l1), some (.int l2)] [] w (f_X3_readNumber_R4 fuel w l1 l2) := by
  intro fuel
  induction fuel with
  | zero => intros; exact e_none
  | succ fuel ih =>
    intro w l1 l2 
    exact t_X3_readNumber_B4 G _ ih w l1 l2 
set_option maxRecDepth 100000 in
set_option maxHeartbeats 4000000 in
theorem t_X3_readNumber {E : qE} {Γ : qC} (G : q_Ok E Γ RX3 cX3_readNumber 3 (3)) (w : qW) : q_Ev E Γ 3 (q_Fv E Γ cX3_readNumber) 0 [some (.ref 3), none, none] [] w (f_X3_readNumber w ) := by
  unfold f_X3_readNumber
  refine e_iconst G (pc := 0) (v := 0) dX3_readNumber_0 (by decide) ?_
  refine e_istore_n G (pc := 1) (L' := [some (.ref 3), some (.int 0), none]) dX3_readNumber_1 rfl (Nat.le_of_ble_eq_true rfl) rfl ?_
  refine e_iconst G (pc := 2) (v := 0) dX3_readNumber_2 (by decide) ?_
  refine e_istore_n G (pc := 3) (L' := [some (.ref 3), some (.int 0), some (.int 0)]) dX3_readNumber_3 rfl (Nat.le_of_ble_eq_true rfl) rfl ?_
  exact t_X3_readNumber_R4 G  q_fuel w 0 0 
set_option maxRecDepth 100000 in
set_option maxHeartbeats 4000000 in
theorem c_X3_readNumber (w : qW) : q_AC q_vv none (3) yX3_readNumber cX3_readNumber 3 [.ref 3] w (f_X3_readNumber w ) := q_met_v (k := 2) (by decide +kernel) rfl rfl rfl (fun _ _ G => t_X3_readNumber G w  )
set_option maxRecDepth 100000 in
set_option maxHeartbeats 4000000 in
theorem t_X3_nameOf {E : qE} {Γ : qC} (G : q_Ok E Γ RX3 cX3_nameOf 1 (2)) (w : qW) (a1 : Int32) : q_Ev E Γ 1 (q_Fi E Γ cX3_nameOf) 0 [some (.int a1)] [] w (f_X3_nameOf w a1) := by
  unfold f_X3_nameOf
  refine e_iload_n G (pc := 0) dX3_nameOf_0 rfl rfl ?_
  refine e_ite (fun h1 => ?_) (fun h1 => ?_)
  · refine e_tsIn G (pc := 1) (off := 95) (tgt := 96) dX3_nameOf_1 (by rw [h1]; decide) (by rw [h1]; decide) (by rw [h1]; rfl) (by decide) ?_
    refine e_iconst G (pc := 96) (v := 2) dX3_nameOf_96 (by decide) ?_
    exact e_iret dX3_nameOf_97
  refine e_ite (fun h2 => ?_) (fun h2 => ?_)
  · refine e_tsIn G (pc := 1) (off := 97) (tgt := 98) dX3_nameOf_1 (by rw [h2]; decide) (by rw [h2]; decide) (by rw [h2]; rfl) (by decide) ?_
    refine e_iconst G (pc := 98) (v := 3) dX3_nameOf_98 (by decide) ?_
    exact e_iret dX3_nameOf_99
  refine e_ite (fun h3 => ?_) (fun h3 => ?_)
  · refine e_tsIn G (pc := 1) (off := 99) (tgt := 100) dX3_nameOf_1 (by rw [h3]; decide) (by rw [h3]; decide) (by rw [h3]; rfl) (by decide) ?_
    refine e_iconst G (pc := 100) (v := 4) dX3_nameOf_100 (by decide) ?_
    exact e_iret dX3_nameOf_101
  refine e_ite (fun h4 => ?_) (fun h4 => ?_)
  · refine e_tsIn G (pc := 1) (off := 91) (tgt := 92) dX3_nameOf_1 (by rw [h4]; decide) (by rw [h4]; decide) (by rw [h4]; rfl) (by decide) ?_
    refine e_iconst G (pc := 92) (v := 0) dX3_nameOf_92 (by decide) ?_
    exact e_iret dX3_nameOf_93
  refine e_ite (fun h5 => ?_) (fun h5 => ?_)
  · refine e_tsIn G (pc := 1) (off := 101) (tgt := 102) dX3_nameOf_1 (by rw [h5]; decide) (by rw [h5]; decide) (by rw [h5]; rfl) (by decide) ?_
    refine e_iconst G (pc := 102) (v := 5) dX3_nameOf_102 (by decide) ?_
    exact e_iret dX3_nameOf_103
  refine e_ite (fun h6 => ?_) (fun h6 => ?_)
  · refine e_tsIn G (pc := 1) (off := 93) (tgt := 94) dX3_nameOf_1 (by rw [h6]; decide) (by rw [h6]; decide) (by rw [h6]; rfl) (by decide) ?_
    refine e_iconst G (pc := 94) (v := 1) dX3_nameOf_94 (by decide) ?_
    exact e_iret dX3_nameOf_95
  have h1 := lv_neT h1 (show (97 : Int32).toInt = 97 by decide)
  have h2 := lv_neT h2 (show (98 : Int32).toInt = 98 by decide)
  have h3 := lv_neT h3 (show (104 : Int32).toInt = 104 by decide)
  have h4 := lv_neT h4 (show (107 : Int32).toInt = 107 by decide)
  have h5 := lv_neT h5 (show (109 : Int32).toInt = 109 by decide)
  have h6 := lv_neT h6 (show (115 : Int32).toInt = 115 by decide)
  rcases (show a1.toInt < 97 ∨ 115 < a1.toInt ∨ a1.toInt = 99 ∨ a1.toInt = 100 ∨ a1.toInt = 101 ∨ a1.toInt = 102 ∨ a1.toInt = 103 ∨ a1.toInt = 105 ∨ a1.toInt = 106 ∨ a1.toInt = 108 ∨ a1.toInt = 110 ∨ a1.toInt = 111 ∨ a1.toInt = 112 ∨ a1.toInt = 113 ∨ a1.toInt = 114 by omega) with hd | hd | hd | hd | hd | hd | hd | hd | hd | hd | hd | hd | hd | hd | hd
  · refine e_tsOut G (pc := 1) (tgt := 104) dX3_nameOf_1 (Or.inl hd) (by decide) ?_
    refine e_iconst G (pc := 104) (v := (-1)) dX3_nameOf_104 (by decide) ?_
    exact e_iret dX3_nameOf_105
  · refine e_tsOut G (pc := 1) (tgt := 104) dX3_nameOf_1 (Or.inr hd) (by decide) ?_
    refine e_iconst G (pc := 104) (v := (-1)) dX3_nameOf_104 (by decide) ?_
    exact e_iret dX3_nameOf_105
  · refine e_tsIn G (pc := 1) (off := 103) (tgt := 104) dX3_nameOf_1 (by omega) (by omega) (by rw [hd]; rfl) (by decide) ?_
    refine e_iconst G (pc := 104) (v := (-1)) dX3_nameOf_104 (by decide) ?_
    exact e_iret dX3_nameOf_105
  · refine e_tsIn G (pc := 1) (off := 103) (tgt := 104) dX3_nameOf_1 (by omega) (by omega) (by rw [hd]; rfl) (by decide) ?_
    refine e_iconst G (pc := 104) (v := (-1)) dX3_nameOf_104 (by decide) ?_
    exact e_iret dX3_nameOf_105
  · refine e_tsIn G (pc := 1) (off := 103) (tgt := 104) dX3_nameOf_1 (by omega) (by omega) (by rw [hd]; rfl) (by decide) ?_
    refine e_iconst G (pc := 104) (v := (-1)) dX3_nameOf_104 (by decide) ?_
    exact e_iret dX3_nameOf_105
  · refine e_tsIn G (pc := 1) (off := 103) (tgt := 104) dX3_nameOf_1 (by omega) (by omega) (by rw [hd]; rfl) (by decide) ?_
    refine e_iconst G (pc := 104) (v := (-1)) dX3_nameOf_104 (by decide) ?_
    exact e_iret dX3_nameOf_105
  · refine e_tsIn G (pc := 1) (off := 103) (tgt := 104) dX3_nameOf_1 (by omega) (by omega) (by rw [hd]; rfl) (by decide) ?_
    refine e_iconst G (pc := 104) (v := (-1)) dX3_nameOf_104 (by decide) ?_
    exact e_iret dX3_nameOf_105
  · refine e_tsIn G (pc := 1) (off := 103) (tgt := 104) dX3_nameOf_1 (by omega) (by omega) (by rw [hd]; rfl) (by decide) ?_
    refine e_iconst G (pc := 104) (v := (-1)) dX3_nameOf_104 (by decide) ?_
    exact e_iret dX3_nameOf_105
  · refine e_tsIn G (pc := 1) (off := 103) (tgt := 104) dX3_nameOf_1 (by omega) (by omega) (by rw [hd]; rfl) (by decide) ?_
    refine e_iconst G (pc := 104) (v := (-1)) dX3_nameOf_104 (by decide) ?_
    exact e_iret dX3_nameOf_105
  · refine e_tsIn G (pc := 1) (off := 103) (tgt := 104) dX3_nameOf_1 (by omega) (by omega) (by rw [hd]; rfl) (by decide) ?_
    refine e_iconst G (pc := 104) (v := (-1)) dX3_nameOf_104 (by decide) ?_
    exact e_iret dX3_nameOf_105
  · refine e_tsIn G (pc := 1) (off := 103) (tgt := 104) dX3_nameOf_1 (by omega) (by omega) (by rw [hd]; rfl) (by decide) ?_
    refine e_iconst G (pc := 104) (v := (-1)) dX3_nameOf_104 (by decide) ?_
    exact e_iret dX3_nameOf_105
  · refine e_tsIn G (pc := 1) (off := 103) (tgt := 104) dX3_nameOf_1 (by omega) (by omega) (by rw [hd]; rfl) (by decide) ?_
    refine e_iconst G (pc := 104) (v := (-1)) dX3_nameOf_104 (by decide) ?_
    exact e_iret dX3_nameOf_105
  · refine e_tsIn G (pc := 1) (off := 103) (tgt := 104) dX3_nameOf_1 (by omega) (by omega) (by rw [hd]; rfl) (by decide) ?_
    refine e_iconst G (pc := 104) (v := (-1)) dX3_nameOf_104 (by decide) ?_
    exact e_iret dX3_nameOf_105
  · refine e_tsIn G (pc := 1) (off := 103) (tgt := 104) dX3_nameOf_1 (by omega) (by omega) (by rw [hd]; rfl) (by decide) ?_
    refine e_iconst G (pc := 104) (v := (-1)) dX3_nameOf_104 (by decide) ?_
    exact e_iret dX3_nameOf_105
  · refine e_tsIn G (pc := 1) (off := 103) (tgt := 104) dX3_nameOf_1 (by omega) (by omega) (by rw [hd]; rfl) (by decide) ?_
    refine e_iconst G (pc := 104) (v := (-1)) dX3_nameOf_104 (by decide) ?_
    exact e_iret dX3_nameOf_105
set_option maxRecDepth 100000 in
set_option maxHeartbeats 4000000 in
theorem c_X3_nameOf (w : qW) (a1 : Int32) : q_AC q_vi (some .int) (2) yX3_nameOf cX3_nameOf 1 [.int a1] w (f_X3_nameOf w a1) := q_met_i (k := 0) (by decide +kernel) rfl rfl rfl (fun _ _ G => t_X3_nameOf G w a1 )
set_option maxRecDepth 100000 in
set_option maxHeartbeats 4000000 in
theorem t_X3_operator {E : qE} {Γ : qC} (G : q_Ok E Γ RX3 cX3_operator 2 (2)) (w : qW) (a1 : Int32) (a2 : Int32) : q_Ev E Γ 2 (q_Fi E Γ cX3_operator) 0 [some (.int a1), some (.int a2)] [] w (f_X3_operator w a1 a2) := by
  unfold f_X3_operator
  refine e_iload_n G (pc := 0) dX3_operator_0 rfl rfl ?_
  refine e_ite (fun h1 => ?_) (fun h1 => ?_)
  · refine e_lsw G (pc := 1) (off := 198) (tgt := 199) dX3_operator_1 (by decide) (by rw [h1]; rfl) (by decide) ?_
    refine e_iload_n G (pc := 199) dX3_operator_199 rfl rfl ?_
    refine e_iconst G (pc := 200) (v := 4) dX3_operator_200 (by decide) ?_
    refine e_icmp_ne G (pc := 201) (tgt := 209) dX3_operator_201 (by decide) ?_ ?_
    · refine e_iconst G (pc := 209) (v := (-1)) dX3_operator_209 (by decide) ?_
      exact e_iret dX3_operator_210
    · refine e_bipush G (pc := 204) (v := 15) dX3_operator_204 (by decide) ?_
      refine e_goto G (pc := 206) (tgt := 210) dX3_operator_206 (by decide) ?_
      exact e_iret dX3_operator_210
  refine e_ite (fun h2 => ?_) (fun h2 => ?_)
  · refine e_lsw G (pc := 1) (off := 102) (tgt := 103) dX3_operator_1 (by decide) (by rw [h2]; rfl) (by decide) ?_
    refine e_iload_n G (pc := 103) dX3_operator_103 rfl rfl ?_
    refine e_iconst G (pc := 104) (v := 1) dX3_operator_104 (by decide) ?_
    refine e_icmp_ne G (pc := 105) (tgt := 113) dX3_operator_105 (by decide) ?_ ?_
    · refine e_iconst G (pc := 113) (v := (-1)) dX3_operator_113 (by decide) ?_
      exact e_iret dX3_operator_114
    · refine e_bipush G (pc := 108) (v := 7) dX3_operator_108 (by decide) ?_
      refine e_goto G (pc := 110) (tgt := 114) dX3_operator_110 (by decide) ?_
      exact e_iret dX3_operator_114
  refine e_ite (fun h3 => ?_) (fun h3 => ?_)
  · refine e_lsw G (pc := 1) (off := 174) (tgt := 175) dX3_operator_1 (by decide) (by rw [h3]; rfl) (by decide) ?_
    refine e_iload_n G (pc := 175) dX3_operator_175 rfl rfl ?_
    refine e_iconst G (pc := 176) (v := 4) dX3_operator_176 (by decide) ?_
    refine e_icmp_ne G (pc := 177) (tgt := 185) dX3_operator_177 (by decide) ?_ ?_
    · refine e_iconst G (pc := 185) (v := (-1)) dX3_operator_185 (by decide) ?_
      exact e_iret dX3_operator_186
    · refine e_bipush G (pc := 180) (v := 13) dX3_operator_180 (by decide) ?_
      refine e_goto G (pc := 182) (tgt := 186) dX3_operator_182 (by decide) ?_
      exact e_iret dX3_operator_186
  refine e_ite (fun h4 => ?_) (fun h4 => ?_)
  · refine e_lsw G (pc := 1) (off := 150) (tgt := 151) dX3_operator_1 (by decide) (by rw [h4]; rfl) (by decide) ?_
    refine e_iload_n G (pc := 151) dX3_operator_151 rfl rfl ?_
    refine e_iconst G (pc := 152) (v := 3) dX3_operator_152 (by decide) ?_
    refine e_icmp_ne G (pc := 153) (tgt := 161) dX3_operator_153 (by decide) ?_ ?_
    · refine e_iconst G (pc := 161) (v := (-1)) dX3_operator_161 (by decide) ?_
      exact e_iret dX3_operator_162
    · refine e_bipush G (pc := 156) (v := 11) dX3_operator_156 (by decide) ?_
      refine e_goto G (pc := 158) (tgt := 162) dX3_operator_158 (by decide) ?_
      exact e_iret dX3_operator_162
  refine e_ite (fun h5 => ?_) (fun h5 => ?_)
  · refine e_lsw G (pc := 1) (off := 162) (tgt := 163) dX3_operator_1 (by decide) (by rw [h5]; rfl) (by decide) ?_
    refine e_iload_n G (pc := 163) dX3_operator_163 rfl rfl ?_
    refine e_iconst G (pc := 164) (v := 3) dX3_operator_164 (by decide) ?_
    refine e_icmp_ne G (pc := 165) (tgt := 173) dX3_operator_165 (by decide) ?_ ?_
    · refine e_iconst G (pc := 173) (v := (-1)) dX3_operator_173 (by decide) ?_
      exact e_iret dX3_operator_174
    · refine e_bipush G (pc := 168) (v := 12) dX3_operator_168 (by decide) ?_
      refine e_goto G (pc := 170) (tgt := 174) dX3_operator_170 (by decide) ?_
      exact e_iret dX3_operator_174
  refine e_ite (fun h6 => ?_) (fun h6 => ?_)
  · refine e_lsw G (pc := 1) (off := 186) (tgt := 187) dX3_operator_1 (by decide) (by rw [h6]; rfl) (by decide) ?_
    refine e_iload_n G (pc := 187) dX3_operator_187 rfl rfl ?_
    refine e_iconst G (pc := 188) (v := 4) dX3_operator_188 (by decide) ?_
    refine e_icmp_ne G (pc := 189) (tgt := 197) dX3_operator_189 (by decide) ?_ ?_
    · refine e_iconst G (pc := 197) (v := (-1)) dX3_operator_197 (by decide) ?_
      exact e_iret dX3_operator_198
    · refine e_bipush G (pc := 192) (v := 14) dX3_operator_192 (by decide) ?_
      refine e_goto G (pc := 194) (tgt := 198) dX3_operator_194 (by decide) ?_
      exact e_iret dX3_operator_198
  refine e_ite (fun h7 => ?_) (fun h7 => ?_)
  · refine e_lsw G (pc := 1) (off := 114) (tgt := 115) dX3_operator_1 (by decide) (by rw [h7]; rfl) (by decide) ?_
    refine e_iload_n G (pc := 115) dX3_operator_115 rfl rfl ?_
    refine e_iconst G (pc := 116) (v := 2) dX3_operator_116 (by decide) ?_
    refine e_icmp_ne G (pc := 117) (tgt := 125) dX3_operator_117 (by decide) ?_ ?_
    · refine e_iconst G (pc := 125) (v := (-1)) dX3_operator_125 (by decide) ?_
      exact e_iret dX3_operator_126
    · refine e_bipush G (pc := 120) (v := 8) dX3_operator_120 (by decide) ?_
      refine e_goto G (pc := 122) (tgt := 126) dX3_operator_122 (by decide) ?_
      exact e_iret dX3_operator_126
  refine e_ite (fun h8 => ?_) (fun h8 => ?_)
  · refine e_lsw G (pc := 1) (off := 126) (tgt := 127) dX3_operator_1 (by decide) (by rw [h8]; rfl) (by decide) ?_
    refine e_iload_n G (pc := 127) dX3_operator_127 rfl rfl ?_
    refine e_iconst G (pc := 128) (v := 2) dX3_operator_128 (by decide) ?_
    refine e_icmp_ne G (pc := 129) (tgt := 137) dX3_operator_129 (by decide) ?_ ?_
    · refine e_iconst G (pc := 137) (v := (-1)) dX3_operator_137 (by decide) ?_
      exact e_iret dX3_operator_138
    · refine e_bipush G (pc := 132) (v := 9) dX3_operator_132 (by decide) ?_
      refine e_goto G (pc := 134) (tgt := 138) dX3_operator_134 (by decide) ?_
      exact e_iret dX3_operator_138
  refine e_ite (fun h9 => ?_) (fun h9 => ?_)
  · refine e_lsw G (pc := 1) (off := 138) (tgt := 139) dX3_operator_1 (by decide) (by rw [h9]; rfl) (by decide) ?_
    refine e_iload_n G (pc := 139) dX3_operator_139 rfl rfl ?_
    refine e_iconst G (pc := 140) (v := 2) dX3_operator_140 (by decide) ?_
    refine e_icmp_ne G (pc := 141) (tgt := 149) dX3_operator_141 (by decide) ?_ ?_
    · refine e_iconst G (pc := 149) (v := (-1)) dX3_operator_149 (by decide) ?_
      exact e_iret dX3_operator_150
    · refine e_bipush G (pc := 144) (v := 10) dX3_operator_144 (by decide) ?_
      refine e_goto G (pc := 146) (tgt := 150) dX3_operator_146 (by decide) ?_
      exact e_iret dX3_operator_150
  refine e_ite (fun h10 => ?_) (fun h10 => ?_)
  · refine e_lsw G (pc := 1) (off := 91) (tgt := 92) dX3_operator_1 (by decide) (by rw [h10]; rfl) (by decide) ?_
    refine e_iload_n G (pc := 92) dX3_operator_92 rfl rfl ?_
    refine e_if_ne G (pc := 93) (tgt := 101) dX3_operator_93 (by decide) ?_ ?_
    · refine e_iconst G (pc := 101) (v := (-1)) dX3_operator_101 (by decide) ?_
      exact e_iret dX3_operator_102
    · refine e_bipush G (pc := 96) (v := 6) dX3_operator_96 (by decide) ?_
      refine e_goto G (pc := 98) (tgt := 102) dX3_operator_98 (by decide) ?_
      exact e_iret dX3_operator_102
  refine e_lsw G (pc := 1) (off := 210) (tgt := 211) dX3_operator_1 (by decide) ((lv_osw h1 (show (37 : Int32).toInt = 37 by decide)).trans ((lv_osw h2 (show (38 : Int32).toInt = 38 by decide)).trans ((lv_osw h3 (show (42 : Int32).toInt = 42 by decide)).trans ((lv_osw h4 (show (43 : Int32).toInt = 43 by decide)).trans ((lv_osw h5 (show (45 : Int32).toInt = 45 by decide)).trans ((lv_osw h6 (show (47 : Int32).toInt = 47 by decide)).trans ((lv_osw h7 (show (60 : Int32).toInt = 60 by decide)).trans ((lv_osw h8 (show (61 : Int32).toInt = 61 by decide)).trans ((lv_osw h9 (show (62 : Int32).toInt = 62 by decide)).trans ((lv_osw h10 (show (124 : Int32).toInt = 124 by decide)).trans (rfl))))))))))) (by decide) ?_
  refine e_iconst G (pc := 211) (v := (-1)) dX3_operator_211 (by decide) ?_
  exact e_iret dX3_operator_212
set_option maxRecDepth 100000 in
set_option maxHeartbeats 4000000 in
theorem c_X3_operator (w : qW) (a1 : Int32) (a2 : Int32) : q_AC q_vi (some .int) (2) yX3_operator cX3_operator 2 [.int a1, .int a2] w (f_X3_operator w a1 a2) := q_met_i (k := 0) (by decide +kernel) rfl rfl rfl (fun _ _ G => t_X3_operator G w a1 a2 )
