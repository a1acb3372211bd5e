set_option maxRecDepth 100000 in
set_option maxHeartbeats 4000000 in
theorem t_X7_markFails_B113 {E : qE} {Γ : qC} (G : q_Ok E Γ RX7 cX7_markFails 4 (5)) (k77 : qW → Int32 → Int32 → Int32 → Option (Unit × qW)) (hk77 : ∀ (w : qW) (l1 : Int32) (l2 : Int32) (l3 : Int32), q_Ev E Γ 4 (q_Fv E Γ cX7_markFails) 77 [some (.ref 10), some (.int l1), some (.int l2), some (.int l3)] [] w (k77 w l1 l2 l3)) (w : qW) (l1 : Int32) (l2 : Int32) (l3 : Int32) : q_Ev E Γ 4 (q_Fv E Γ cX7_markFails) 113 [some (.ref 10), some (.int l1), some (.int l2), some (.int l3)] [] w (f_X7_markFails_B113 k77 w l1 l2 l3) := by
  unfold f_X7_markFails_B113
  refine e_iinc G (pc := 113) (x := l3) (v := l3 + 1) (L' := fun v1 => [some (.ref 10), some (.int l1), some (.int l2), some (.int v1)]) dX7_markFails_113 (Nat.le_of_ble_eq_true rfl) rfl (by rfl) (fun _ => rfl) (fun v1 => ?_)
  refine e_goto G (pc := 116) (tgt := 77) dX7_markFails_116 (by decide) ?_
  exact hk77 w l1 l2 v1 
set_option maxRecDepth 100000 in
set_option maxHeartbeats 4000000 in
theorem t_X7_markFails_B77 {E : qE} {Γ : qC} (G : q_Ok E Γ RX7 cX7_markFails 4 (5)) (k77 : qW → Int32 → Int32 → Int32 → Option (Unit × qW)) (hk77 : ∀ (w : qW) (l1 : Int32) (l2 : Int32) (l3 : Int32), q_Ev E Γ 4 (q_Fv E Γ cX7_markFails) 77 [some (.ref 10), some (.int l1), some (.int l2), some (.int l3)] [] w (k77 w l1 l2 l3)) (w : qW) (l1 : Int32) (l2 : Int32) (l3 : Int32) : q_Ev E Γ 4 (q_Fv E Γ cX7_markFails) 77 [some (.ref 10), some (.int l1), some (.int l2), some (.int l3)] [] w (f_X7_markFails_B77 k77 w l1 l2 l3) := by
  unfold f_X7_markFails_B77
  refine e_iload_n G (pc := 77) dX7_markFails_77 rfl rfl ?_
  refine e_aload_n G (pc := 78) dX7_markFails_78 rfl rfl ?_
  refine e_getF G (pc := 79) sh_10 rfl lk_X7_27 dX7_markFails_79 ?_
  refine e_cVi G (pc := 82) (As := []) (st := [.int l3]) cv_X7_81 (c_X4_everyone w  ) sh_1 (Nat.le_of_ble_eq_true rfl) rfl (Nat.le_of_ble_eq_true rfl) dX7_markFails_82 (fun r1 w2 => ?_)
  refine e_icmp_gt G (pc := 85) (tgt := 119) dX7_markFails_85 (by decide) ?_ ?_
  · exact e_vret dX7_markFails_119
  · refine e_aload_n G (pc := 88) dX7_markFails_88 rfl rfl ?_
    refine e_getF G (pc := 89) sh_10 rfl lk_X7_18 dX7_markFails_89 ?_
    refine e_iload_n G (pc := 92) dX7_markFails_92 rfl rfl ?_
    refine e_iald G (pc := 93) sh_13 dX7_markFails_93 (fun v3 => ?_)
    refine e_iload_n G (pc := 94) dX7_markFails_94 rfl rfl ?_
    refine e_icmp_ge G (pc := 95) (tgt := 113) dX7_markFails_95 (by decide) ?_ ?_
    · exact t_X7_markFails_B113 G k77 hk77 w2 l1 l2 l3 
    · refine e_aload_n G (pc := 98) dX7_markFails_98 rfl rfl ?_
      refine e_getF G (pc := 99) sh_10 rfl lk_X7_21 dX7_markFails_99 ?_
      refine e_iload_n G (pc := 102) dX7_markFails_102 rfl rfl ?_
      refine e_dup2 G (pc := 103) dX7_markFails_103 rfl rfl ?_
      refine e_iald G (pc := 104) sh_14 dX7_markFails_104 (fun v4 => ?_)
      refine e_iconst G (pc := 105) (v := 1) dX7_markFails_105 (by decide) ?_
      refine e_iload_n G (pc := 106) dX7_markFails_106 rfl rfl ?_
      refine e_bipush G (pc := 107) (v := 12) dX7_markFails_107 (by decide) ?_
      refine e_irem G (pc := 109) dX7_markFails_109 (by decide) ?_
      refine e_ishl G (pc := 110) dX7_markFails_110 ?_
      refine e_ior G (pc := 111) dX7_markFails_111 ?_
      refine e_iast G (pc := 112) sh_14 dX7_markFails_112 (fun w5 => ?_)
      exact t_X7_markFails_B113 G k77 hk77 w5 l1 l2 l3 
set_option maxRecDepth 100000 in
set_option maxHeartbeats 4000000 in
theorem t_X7_markFails_R77 {E : qE} {Γ : qC} (G : q_Ok E Γ RX7 cX7_markFails 4 (5)) : ∀ (fuel : Nat) (w : qW) (l1 : Int32) (l2 : Int32) (l3 : Int32) , q_Ev E Γ 4 (q_Fv E Γ cX7_markFails) 77 [some (.ref 10), some (.int l1), some (.int l2), some (.int l3)] [] w (f_X7_markFails_R77 fuel w l1 l2 l3) := by
  intro fuel
  induction fuel with
  | zero => intros; exact e_none
  | succ fuel ih =>
    intro w l1 l2 l3 
    exact t_X7_markFails_B77 G _ ih w l1 l2 l3 
set_option maxRecDepth 100000 in
set_option maxHeartbeats 4000000 in
theorem t_X7_markFails_B22 {E : qE} {Γ : qC} (G : q_Ok E Γ RX7 cX7_markFails 4 (5)) (k9 : qW → Int32 → Int32 → Option (Unit × qW)) (k22 : qW → Int32 → Int32 → Int32 → Option (Unit × qW)) (hk9 : ∀ (w : qW) (l1 : Int32) (l2 : Int32), q_Ev E Γ 4 (q_Fv E Γ cX7_markFails) 9 [some (.ref 10), some (.int l1), some (.int l2), none] [] w (k9 w l1 l2)) (hk22 : ∀ (w : qW) (l1 : Int32) (l2 : Int32) (l3 : Int32), q_Ev E Γ 4 (q_Fv E Γ cX7_markFails) 22 [some (.ref 10), some (.int l1), some (.int l2), some (.int l3)] [] w (k22 w l1 l2 l3)) (w : qW) (l1 : Int32) (l2 : Int32) (l3 : Int32) : q_Ev E Γ 4 (q_Fv E Γ cX7_markFails) 22 [some (.ref 10), some (.int l1), some (.int l2), some (.int l3)] [] w (f_X7_markFails_B22 k9 k22 w l1 l2 l3) := by
  unfold f_X7_markFails_B22
  refine e_iload_n G (pc := 22) dX7_markFails_22 rfl rfl ?_
  refine e_iconst G (pc := 23) (v := 1) dX7_markFails_23 (by decide) ?_
  refine e_iload_n G (pc := 24) dX7_markFails_24 rfl rfl ?_
  refine e_ishl G (pc := 25) dX7_markFails_25 ?_
  refine e_icmp_ge G (pc := 26) (tgt := 63) dX7_markFails_26 (by decide) ?_ ?_
  · refine e_iinc G (pc := 63) (x := l2) (v := l2 + 1) (L' := fun v1 => [some (.ref 10), some (.int l1), some (.int v1), some (.int l3)]) dX7_markFails_63 (Nat.le_of_ble_eq_true rfl) rfl (by rfl) (fun _ => rfl) (fun v1 => ?_)
    refine e_goto G (pc := 66) (tgt := 9) dX7_markFails_66 (by decide) ?_
    refine e_wk (L' := [some (.ref 10), some (.int l1), some (.int v1), none]) (And.intro rfl (And.intro rfl (And.intro rfl (trivial)))) ?_
    exact hk9 w l1 v1 
  · refine e_aload_n G (pc := 29) dX7_markFails_29 rfl rfl ?_
    refine e_getF G (pc := 30) sh_10 rfl lk_X7_18 dX7_markFails_30 ?_
    refine e_iconst G (pc := 33) (v := 1) dX7_markFails_33 (by decide) ?_
    refine e_iload_n G (pc := 34) dX7_markFails_34 rfl rfl ?_
    refine e_ishl G (pc := 35) dX7_markFails_35 ?_
    refine e_iload_n G (pc := 36) dX7_markFails_36 rfl rfl ?_
    refine e_ior G (pc := 37) dX7_markFails_37 ?_
    refine e_aload_n G (pc := 38) dX7_markFails_38 rfl rfl ?_
    refine e_getF G (pc := 39) sh_10 rfl lk_X7_18 dX7_markFails_39 ?_
    refine e_iload_n G (pc := 42) dX7_markFails_42 rfl rfl ?_
    refine e_iald G (pc := 43) sh_13 dX7_markFails_43 (fun v2 => ?_)
    refine e_aload_n G (pc := 44) dX7_markFails_44 rfl rfl ?_
    refine e_getF G (pc := 45) sh_10 rfl lk_X7_15 dX7_markFails_45 ?_
    refine e_bipush G (pc := 48) (v := 7) dX7_markFails_48 (by decide) ?_
    refine e_iload_n G (pc := 50) dX7_markFails_50 rfl rfl ?_
    refine e_imul G (pc := 51) dX7_markFails_51 ?_
    refine e_iload_n G (pc := 52) dX7_markFails_52 rfl rfl ?_
    refine e_iadd G (pc := 53) dX7_markFails_53 ?_
    refine e_iald G (pc := 54) sh_12 dX7_markFails_54 (fun v3 => ?_)
    refine e_iadd G (pc := 55) dX7_markFails_55 ?_
    refine e_iast G (pc := 56) sh_13 dX7_markFails_56 (fun w4 => ?_)
    refine e_iinc G (pc := 57) (x := l3) (v := l3 + 1) (L' := fun v5 => [some (.ref 10), some (.int l1), some (.int l2), some (.int v5)]) dX7_markFails_57 (Nat.le_of_ble_eq_true rfl) rfl (by rfl) (fun _ => rfl) (fun v5 => ?_)
    refine e_goto G (pc := 60) (tgt := 22) dX7_markFails_60 (by decide) ?_
    exact hk22 w4 l1 l2 v5 
set_option maxRecDepth 100000 in
set_option maxHeartbeats 4000000 in
theorem t_X7_markFails_R22 {E : qE} {Γ : qC} (G : q_Ok E Γ RX7 cX7_markFails 4 (5)) (k9 : qW → Int32 → Int32 → Option (Unit × qW)) (hk9 : ∀ (w : qW) (l1 : Int32) (l2 : Int32), q_Ev E Γ 4 (q_Fv E Γ cX7_markFails) 9 [some (.ref 10), some (.int l1), some (.int l2), none] [] w (k9 w l1 l2)) : ∀ (fuel : Nat) (w : qW) (l1 : Int32) (l2 : Int32) (l3 : Int32) , q_Ev E Γ 4 (q_Fv E Γ cX7_markFails) 22 [some (.ref 10), some (.int l1), some (.int l2), some (.int l3)] [] w (f_X7_markFails_R22 k9 fuel w l1 l2 l3) := by
  intro fuel
  induction fuel with
  | zero => intros; exact e_none
  | succ fuel ih =>
    intro w l1 l2 l3 
    exact t_X7_markFails_B22 G k9 _ hk9 ih w l1 l2 l3 
set_option maxRecDepth 100000 in
set_option maxHeartbeats 4000000 in
theorem t_X7_markFails_B9 {E : qE} {Γ : qC} (G : q_Ok E Γ RX7 cX7_markFails 4 (5)) (k9 : qW → Int32 → Int32 → Option (Unit × qW)) (hk9 : ∀ (w : qW) (l1 : Int32) (l2 : Int32), q_Ev E Γ 4 (q_Fv E Γ cX7_markFails) 9 [some (.ref 10), some (.int l1), some (.int l2), none] [] w (k9 w l1 l2)) (w : qW) (l1 : Int32) (l2 : Int32) : q_Ev E Γ 4 (q_Fv E Γ cX7_markFails) 9 [some (.ref 10), some (.int l1), some (.int l2), none] [] w (f_X7_markFails_B9 k9 w l1 l2) := by
  unfold f_X7_markFails_B9
  refine e_iload_n G (pc := 9) dX7_markFails_9 rfl rfl ?_
  refine e_aload_n G (pc := 10) dX7_markFails_10 rfl rfl ?_
  refine e_getF G (pc := 11) sh_10 rfl lk_X7_27 dX7_markFails_11 ?_
  refine e_getI G (pc := 14) sh_1 rfl lk_X7_89 dX7_markFails_14 ?_
  refine e_icmp_ge G (pc := 17) (tgt := 69) dX7_markFails_17 (by decide) ?_ ?_
  · refine e_aload_n G (pc := 69) dX7_markFails_69 rfl rfl ?_
    refine e_iload_n G (pc := 70) dX7_markFails_70 rfl rfl ?_
    refine e_cVi G (pc := 71) (As := [.int l1]) (st := []) cv_X7_106 (c_X7_leastOf w l1 ) sh_10 (Nat.le_of_ble_eq_true rfl) rfl (Nat.le_of_ble_eq_true rfl) dX7_markFails_71 (fun r1 w2 => ?_)
    refine e_istore_n G (pc := 74) (L' := [some (.ref 10), some (.int l1), some (.int r1), none]) dX7_markFails_74 rfl (Nat.le_of_ble_eq_true rfl) rfl ?_
    refine e_iconst G (pc := 75) (v := 0) dX7_markFails_75 (by decide) ?_
    refine e_istore_n G (pc := 76) (L' := [some (.ref 10), some (.int l1), some (.int r1), some (.int 0)]) dX7_markFails_76 rfl (Nat.le_of_ble_eq_true rfl) rfl ?_
    exact t_X7_markFails_R77 G  q_fuel w2 l1 r1 0 
  · refine e_iconst G (pc := 20) (v := 0) dX7_markFails_20 (by decide) ?_
    refine e_istore_n G (pc := 21) (L' := [some (.ref 10), some (.int l1), some (.int l2), some (.int 0)]) dX7_markFails_21 rfl (Nat.le_of_ble_eq_true rfl) rfl ?_
    exact t_X7_markFails_R22 G k9 hk9  q_fuel w l1 l2 0 
set_option maxRecDepth 100000 in
set_option maxHeartbeats 4000000 in
theorem t_X7_markFails_R9 {E : qE} {Γ : qC} (G : q_Ok E Γ RX7 cX7_markFails 4 (5)) : ∀ (fuel : Nat) (w : qW) (l1 : Int32) (l2 : Int32) , q_Ev E Γ 4 (q_Fv E Γ cX7_markFails) 9 [some (.ref 10), some (.int l1), some (.int l2), none] [] w (f_X7_markFails_R9 fuel w l1 l2) := by
  intro fuel
  induction fuel with
  | zero => intros; exact e_none
  | succ fuel ih =>
    intro w l1 l2 
    exact t_X7_markFails_B9 G _ ih w l1 l2 
set_option maxRecDepth 100000 in
set_option maxHeartbeats 4000000 in
theorem t_X7_markFails {E : qE} {Γ : qC} (G : q_Ok E Γ RX7 cX7_markFails 4 (5)) (w : qW) (a1 : Int32) : q_Ev E Γ 4 (q_Fv E Γ cX7_markFails) 0 [some (.ref 10), some (.int a1), none, none] [] w (f_X7_markFails w a1) := by
  unfold f_X7_markFails
  refine e_aload_n G (pc := 0) dX7_markFails_0 rfl rfl ?_
  refine e_getF G (pc := 1) sh_10 rfl lk_X7_18 dX7_markFails_1 ?_
  refine e_iconst G (pc := 4) (v := 0) dX7_markFails_4 (by decide) ?_
  refine e_iconst G (pc := 5) (v := 0) dX7_markFails_5 (by decide) ?_
  refine e_iast G (pc := 6) sh_13 dX7_markFails_6 (fun w1 => ?_)
  refine e_iconst G (pc := 7) (v := 0) dX7_markFails_7 (by decide) ?_
  refine e_istore_n G (pc := 8) (L' := [some (.ref 10), some (.int a1), some (.int 0), none]) dX7_markFails_8 rfl (Nat.le_of_ble_eq_true rfl) rfl ?_
  exact t_X7_markFails_R9 G  q_fuel w1 a1 0 
set_option maxRecDepth 100000 in
set_option maxHeartbeats 4000000 in
theorem c_X7_markFails (w : qW) (a1 : Int32) : q_AC q_vv none (5) yX7_markFails cX7_markFails 4 [.ref 10, .int a1] w (f_X7_markFails w a1) := q_met_v (k := 2) (by decide +kernel) rfl rfl rfl (fun _ _ G => t_X7_markFails G w a1 )
set_option maxRecDepth 100000 in
set_option maxHeartbeats 4000000 in
theorem t_X7_weighSets_B52 {E : qE} {Γ : qC} (G : q_Ok E Γ RX7 cX7_weighSets 2 (7)) (k17 : qW → Int32 → Option (Unit × qW)) (hk17 : ∀ (w : qW) (l1 : Int32), q_Ev E Γ 2 (q_Fv E Γ cX7_weighSets) 17 [some (.ref 10), some (.int l1)] [] w (k17 w l1)) (w : qW) (l1 : Int32) : q_Ev E Γ 2 (q_Fv E Γ cX7_weighSets) 52 [some (.ref 10), some (.int l1)] [] w (f_X7_weighSets_B52 k17 w l1) := by
  unfold f_X7_weighSets_B52
  refine e_iinc G (pc := 52) (x := l1) (v := l1 + 1) (L' := fun v1 => [some (.ref 10), some (.int v1)]) dX7_weighSets_52 (Nat.le_of_ble_eq_true rfl) rfl (by rfl) (fun _ => rfl) (fun v1 => ?_)
  refine e_goto G (pc := 55) (tgt := 17) dX7_weighSets_55 (by decide) ?_
  exact hk17 w v1 
set_option maxRecDepth 100000 in
set_option maxHeartbeats 4000000 in
theorem t_X7_weighSets_B17 {E : qE} {Γ : qC} (G : q_Ok E Γ RX7 cX7_weighSets 2 (7)) (k17 : qW → Int32 → Option (Unit × qW)) (hk17 : ∀ (w : qW) (l1 : Int32), q_Ev E Γ 2 (q_Fv E Γ cX7_weighSets) 17 [some (.ref 10), some (.int l1)] [] w (k17 w l1)) (w : qW) (l1 : Int32) : q_Ev E Γ 2 (q_Fv E Γ cX7_weighSets) 17 [some (.ref 10), some (.int l1)] [] w (f_X7_weighSets_B17 k17 w l1) := by
  unfold f_X7_weighSets_B17
  refine e_iload_n G (pc := 17) dX7_weighSets_17 rfl rfl ?_
  refine e_bipush G (pc := 18) (v := 12) dX7_weighSets_18 (by decide) ?_
  refine e_aload_n G (pc := 20) dX7_weighSets_20 rfl rfl ?_
  refine e_getF G (pc := 21) sh_10 rfl lk_X7_27 dX7_weighSets_21 ?_
  refine e_getI G (pc := 24) sh_1 rfl lk_X7_68 dX7_weighSets_24 ?_
  refine e_imul G (pc := 27) dX7_weighSets_27 ?_
  refine e_icmp_ge G (pc := 28) (tgt := 58) dX7_weighSets_28 (by decide) ?_ ?_
  · exact e_vret dX7_weighSets_58
  · refine e_aload_n G (pc := 31) dX7_weighSets_31 rfl rfl ?_
    refine e_iload_n G (pc := 32) dX7_weighSets_32 rfl rfl ?_
    refine e_cVi G (pc := 33) (As := [.int l1]) (st := []) cv_X7_72 (c_X7_isWanted w l1 ) sh_10 (Nat.le_of_ble_eq_true rfl) rfl (Nat.le_of_ble_eq_true rfl) dX7_weighSets_33 (fun r1 w2 => ?_)
    refine e_if_eq G (pc := 36) (tgt := 52) dX7_weighSets_36 (by decide) ?_ ?_
    · exact t_X7_weighSets_B52 G k17 hk17 w2 l1 
    · refine e_aload_n G (pc := 39) dX7_weighSets_39 rfl rfl ?_
      refine e_iload_n G (pc := 40) dX7_weighSets_40 rfl rfl ?_
      refine e_cVi G (pc := 41) (As := [.int l1]) (st := []) cv_X7_50 (c_X7_isServed w2 l1 ) sh_10 (Nat.le_of_ble_eq_true rfl) rfl (Nat.le_of_ble_eq_true rfl) dX7_weighSets_41 (fun r3 w4 => ?_)
      refine e_if_eq G (pc := 44) (tgt := 52) dX7_weighSets_44 (by decide) ?_ ?_
      · exact t_X7_weighSets_B52 G k17 hk17 w4 l1 
      · refine e_aload_n G (pc := 47) dX7_weighSets_47 rfl rfl ?_
        refine e_iload_n G (pc := 48) dX7_weighSets_48 rfl rfl ?_
        refine e_cVv G (pc := 49) (As := [.int l1]) (st := []) cv_X7_137 (c_X7_markFails w4 l1 ) sh_10 (Nat.le_of_ble_eq_true rfl) rfl (Nat.le_of_ble_eq_true rfl) dX7_weighSets_49 (fun r5 w6 => ?_)
        exact t_X7_weighSets_B52 G k17 hk17 w6 l1 
set_option maxRecDepth 100000 in
set_option maxHeartbeats 4000000 in
theorem t_X7_weighSets_R17 {E : qE} {Γ : qC} (G : q_Ok E Γ RX7 cX7_weighSets 2 (7)) : ∀ (fuel : Nat) (w : qW) (l1 : Int32) , q_Ev E Γ 2 (q_Fv E Γ cX7_weighSets) 17 [some (.ref 10), some (.int l1)] [] w (f_X7_weighSets_R17 fuel w l1) := by
  intro fuel
  induction fuel with
  | zero => intros; exact e_none
  | succ fuel ih =>
    intro w l1 
    exact t_X7_weighSets_B17 G _ ih w l1 
set_option maxRecDepth 100000 in
set_option maxHeartbeats 4000000 in
theorem t_X7_weighSets {E : qE} {Γ : qC} (G : q_Ok E Γ RX7 cX7_weighSets 2 (7)) (w : qW) : q_Ev E Γ 2 (q_Fv E Γ cX7_weighSets) 0 [some (.ref 10), none] [] w (f_X7_weighSets w ) := by
  unfold f_X7_weighSets
  refine e_aload_n G (pc := 0) dX7_weighSets_0 rfl rfl ?_
  refine e_iconst G (pc := 1) (v := 0) dX7_weighSets_1 (by decide) ?_
  refine e_bipush G (pc := 2) (v := 11) dX7_weighSets_2 (by decide) ?_
  refine e_cVv G (pc := 4) (As := [.int 0, .int 11]) (st := []) cv_X7_46 (c_X7_weigh w 0 11 ) sh_10 (Nat.le_of_ble_eq_true rfl) rfl (Nat.le_of_ble_eq_true rfl) dX7_weighSets_4 (fun r1 w2 => ?_)
  refine e_aload_n G (pc := 7) dX7_weighSets_7 rfl rfl ?_
  refine e_getF G (pc := 8) sh_10 rfl lk_X7_21 dX7_weighSets_8 ?_
  refine e_iconst G (pc := 11) (v := 0) dX7_weighSets_11 (by decide) ?_
  refine e_cSv G (pc := 12) (ci := 0) (id := 0) (sl := []) (As := [.ref 14, .int 0]) (st := []) cs_X7_127 (c_J7_fill_53178 128 w2 14 0 sh_14) (Nat.le_of_ble_eq_true rfl) rfl (Nat.le_of_ble_eq_true rfl) dX7_weighSets_12 (fun r3 w4 => ?_)
  refine e_iconst G (pc := 15) (v := 0) dX7_weighSets_15 (by decide) ?_
  refine e_istore_n G (pc := 16) (L' := [some (.ref 10), some (.int 0)]) dX7_weighSets_16 rfl (Nat.le_of_ble_eq_true rfl) rfl ?_
  exact t_X7_weighSets_R17 G  q_fuel w4 0 
set_option maxRecDepth 100000 in
set_option maxHeartbeats 4000000 in
theorem c_X7_weighSets (w : qW) : q_AC q_vv none (7) yX7_weighSets cX7_weighSets 2 [.ref 10] w (f_X7_weighSets w ) := q_met_v (k := 1) (by decide +kernel) rfl rfl rfl (fun _ _ G => t_X7_weighSets G w  )
set_option maxRecDepth 100000 in
set_option maxHeartbeats 4000000 in
theorem t_X7_fewest_B47 {E : qE} {Γ : qC} (G : q_Ok E Γ RX7 cX7_fewest 3 (8)) (k14 : qW → Int32 → Int32 → Option (Int32 × qW)) (hk14 : ∀ (w : qW) (l1 : Int32) (l2 : Int32), q_Ev E Γ 3 (q_Fi E Γ cX7_fewest) 14 [some (.ref 10), some (.int l1), some (.int l2)] [] w (k14 w l1 l2)) (w : qW) (l1 : Int32) (l2 : Int32) : q_Ev E Γ 3 (q_Fi E Γ cX7_fewest) 47 [some (.ref 10), some (.int l1), some (.int l2)] [] w (f_X7_fewest_B47 k14 w l1 l2) := by
  unfold f_X7_fewest_B47
  refine e_iinc G (pc := 47) (x := l2) (v := l2 + 1) (L' := fun v1 => [some (.ref 10), some (.int l1), some (.int v1)]) dX7_fewest_47 (Nat.le_of_ble_eq_true rfl) rfl (by rfl) (fun _ => rfl) (fun v1 => ?_)
  refine e_goto G (pc := 50) (tgt := 14) dX7_fewest_50 (by decide) ?_
  exact hk14 w l1 v1 
set_option maxRecDepth 100000 in
set_option maxHeartbeats 4000000 in
theorem t_X7_fewest_B14 {E : qE} {Γ : qC} (G : q_Ok E Γ RX7 cX7_fewest 3 (8)) (k14 : qW → Int32 → Int32 → Option (Int32 × qW)) (hk14 : ∀ (w : qW) (l1 : Int32) (l2 : Int32), q_Ev E Γ 3 (q_Fi E Γ cX7_fewest) 14 [some (.ref 10), some (.int l1), some (.int l2)] [] w (k14 w l1 l2)) (w : qW) (l1 : Int32) (l2 : Int32) : q_Ev E Γ 3 (q_Fi E Γ cX7_fewest) 14 [some (.ref 10), some (.int l1), some (.int l2)] [] w (f_X7_fewest_B14 k14 w l1 l2) := by
  unfold f_X7_fewest_B14
  refine e_iload_n G (pc := 14) dX7_fewest_14 rfl rfl ?_
  refine e_aload_n G (pc := 15) dX7_fewest_15 rfl rfl ?_
  refine e_getF G (pc := 16) sh_10 rfl lk_X7_27 dX7_fewest_16 ?_
  refine e_cVi G (pc := 19) (As := []) (st := [.int l2]) cv_X7_81 (c_X4_everyone w  ) sh_1 (Nat.le_of_ble_eq_true rfl) rfl (Nat.le_of_ble_eq_true rfl) dX7_fewest_19 (fun r1 w2 => ?_)
  refine e_icmp_ge G (pc := 22) (tgt := 53) dX7_fewest_22 (by decide) ?_ ?_
  · refine e_iload_n G (pc := 53) dX7_fewest_53 rfl rfl ?_
    exact e_iret dX7_fewest_54
  · refine e_aload_n G (pc := 25) dX7_fewest_25 rfl rfl ?_
    refine e_getF G (pc := 26) sh_10 rfl lk_X7_21 dX7_fewest_26 ?_
    refine e_iload_n G (pc := 29) dX7_fewest_29 rfl rfl ?_
    refine e_iald G (pc := 30) sh_14 dX7_fewest_30 (fun v3 => ?_)
    refine e_if_ne G (pc := 31) (tgt := 47) dX7_fewest_31 (by decide) ?_ ?_
    · exact t_X7_fewest_B47 G k14 hk14 w2 l1 l2 
    · refine e_iload_n G (pc := 34) dX7_fewest_34 rfl rfl ?_
      refine e_cSi G (pc := 35) (ci := 0) (id := 0) (sl := []) (As := [.int l2]) (st := []) cs_X7_63 (c_J6_bitCount_0f7a4 w2 l2 ) (Nat.le_of_ble_eq_true rfl) rfl (Nat.le_of_ble_eq_true rfl) dX7_fewest_35 (fun r4 w5 => ?_)
      refine e_iload_n G (pc := 38) dX7_fewest_38 rfl rfl ?_
      refine e_cSi G (pc := 39) (ci := 0) (id := 0) (sl := []) (As := [.int l1]) (st := [.int r4]) cs_X7_63 (c_J6_bitCount_0f7a4 w5 l1 ) (Nat.le_of_ble_eq_true rfl) rfl (Nat.le_of_ble_eq_true rfl) dX7_fewest_39 (fun r6 w7 => ?_)
      refine e_icmp_ge G (pc := 42) (tgt := 47) dX7_fewest_42 (by decide) ?_ ?_
      · exact t_X7_fewest_B47 G k14 hk14 w7 l1 l2 
      · refine e_iload_n G (pc := 45) dX7_fewest_45 rfl rfl ?_
        refine e_istore_n G (pc := 46) (L' := [some (.ref 10), some (.int l2), some (.int l2)]) dX7_fewest_46 rfl (Nat.le_of_ble_eq_true rfl) rfl ?_
        exact t_X7_fewest_B47 G k14 hk14 w7 l2 l2 
set_option maxRecDepth 100000 in
set_option maxHeartbeats 4000000 in
theorem t_X7_fewest_R14 {E : qE} {Γ : qC} (G : q_Ok E Γ RX7 cX7_fewest 3 (8)) : ∀ (fuel : Nat) (w : qW) (l1 : Int32) (l2 : Int32) , q_Ev E Γ 3 (q_Fi E Γ cX7_fewest) 14 [some (.ref 10), some (.int l1), some (.int l2)] [] w (f_X7_fewest_R14 fuel w l1 l2) := by
  intro fuel
  induction fuel with
  | zero => intros; exact e_none
  | succ fuel ih =>
    intro w l1 l2 
    exact t_X7_fewest_B14 G _ ih w l1 l2 
set_option maxRecDepth 100000 in
set_option maxHeartbeats 4000000 in
theorem t_X7_fewest {E : qE} {Γ : qC} (G : q_Ok E Γ RX7 cX7_fewest 3 (8)) (w : qW) : q_Ev E Γ 3 (q_Fi E Γ cX7_fewest) 0 [some (.ref 10), none, none] [] w (f_X7_fewest w ) := by
  unfold f_X7_fewest
  refine e_aload_n G (pc := 0) dX7_fewest_0 rfl rfl ?_
  refine e_cVv G (pc := 1) (As := []) (st := []) cv_X7_78 (c_X7_weighSets w  ) sh_10 (Nat.le_of_ble_eq_true rfl) rfl (Nat.le_of_ble_eq_true rfl) dX7_fewest_1 (fun r1 w2 => ?_)
  refine e_aload_n G (pc := 4) dX7_fewest_4 rfl rfl ?_
  refine e_getF G (pc := 5) sh_10 rfl lk_X7_27 dX7_fewest_5 ?_
  refine e_cVi G (pc := 8) (As := []) (st := []) cv_X7_81 (c_X4_everyone w2  ) sh_1 (Nat.le_of_ble_eq_true rfl) rfl (Nat.le_of_ble_eq_true rfl) dX7_fewest_8 (fun r3 w4 => ?_)
  refine e_istore_n G (pc := 11) (L' := [some (.ref 10), some (.int r3), none]) dX7_fewest_11 rfl (Nat.le_of_ble_eq_true rfl) rfl ?_
  refine e_iconst G (pc := 12) (v := 0) dX7_fewest_12 (by decide) ?_
  refine e_istore_n G (pc := 13) (L' := [some (.ref 10), some (.int r3), some (.int 0)]) dX7_fewest_13 rfl (Nat.le_of_ble_eq_true rfl) rfl ?_
  exact t_X7_fewest_R14 G  q_fuel w4 r3 0 
set_option maxRecDepth 100000 in
set_option maxHeartbeats 4000000 in
theorem c_X7_fewest (w : qW) : q_AC q_vi (some .int) (8) yX7_fewest cX7_fewest 3 [.ref 10] w (f_X7_fewest w ) := q_met_i (k := 2) (by decide +kernel) rfl rfl rfl (fun _ _ G => t_X7_fewest G w  )
set_option maxRecDepth 100000 in
set_option maxHeartbeats 4000000 in
theorem t_X7_isNicer_B30 {E : qE} {Γ : qC} (G : q_Ok E Γ RX7 cX7_isNicer 4 (3)) (w : qW) (l0 : Int32) (l1 : Int32) : q_Ev E Γ 4 (q_Fz E Γ cX7_isNicer) 30 [some (.int l0), some (.int l1), none, none] [] w (f_X7_isNicer_B30 w l0 l1) := by
  unfold f_X7_isNicer_B30
  refine e_iload_n G (pc := 30) dX7_isNicer_30 rfl rfl ?_
  refine e_iload_n G (pc := 31) dX7_isNicer_31 rfl rfl ?_
  refine e_icmp_ge G (pc := 32) (tgt := 39) dX7_isNicer_32 (by decide) ?_ ?_
  · refine e_iconst G (pc := 39) (v := 0) dX7_isNicer_39 (by decide) ?_
    exact e_zret dX7_isNicer_40
  · refine e_iconst G (pc := 35) (v := 1) dX7_isNicer_35 (by decide) ?_
    refine e_goto G (pc := 36) (tgt := 40) dX7_isNicer_36 (by decide) ?_
    exact e_zret dX7_isNicer_40
set_option maxRecDepth 100000 in
set_option maxHeartbeats 4000000 in
theorem t_X7_isNicer {E : qE} {Γ : qC} (G : q_Ok E Γ RX7 cX7_isNicer 4 (3)) (w : qW) (a1 : Int32) (a2 : Int32) (a3 : Int32) : q_Ev E Γ 4 (q_Fz E Γ cX7_isNicer) 0 [some (.int a1), some (.int a2), some (.int a3), none] [] w (f_X7_isNicer w a1 a2 a3) := by
  unfold f_X7_isNicer
  refine e_iload_n G (pc := 0) dX7_isNicer_0 rfl rfl ?_
  refine e_cSi G (pc := 1) (ci := 0) (id := 0) (sl := []) (As := [.int a2]) (st := []) cs_X7_63 (c_J6_bitCount_0f7a4 w a2 ) (Nat.le_of_ble_eq_true rfl) rfl (Nat.le_of_ble_eq_true rfl) dX7_isNicer_1 (fun r1 w2 => ?_)
  refine e_iload_n G (pc := 4) dX7_isNicer_4 rfl rfl ?_
  refine e_cSi G (pc := 5) (ci := 0) (id := 0) (sl := []) (As := [.int a1]) (st := [.int r1]) cs_X7_63 (c_J6_bitCount_0f7a4 w2 a1 ) (Nat.le_of_ble_eq_true rfl) rfl (Nat.le_of_ble_eq_true rfl) dX7_isNicer_5 (fun r3 w4 => ?_)
  refine e_isub G (pc := 8) dX7_isNicer_8 ?_
  refine e_ti (fun v5 => ?_)
  refine e_istore_n G (pc := 9) (L' := [some (.int a1), some (.int a2), some (.int a3), some (.int v5)]) dX7_isNicer_9 rfl (Nat.le_of_ble_eq_true rfl) rfl ?_
  refine e_iload_n G (pc := 10) dX7_isNicer_10 rfl rfl ?_
  refine e_if_eq G (pc := 11) (tgt := 30) dX7_isNicer_11 (by decide) ?_ ?_
  · refine e_wk (L' := [some (.int a1), some (.int a2), none, none]) (And.intro rfl (And.intro rfl (trivial))) ?_
    exact t_X7_isNicer_B30 G w4 a1 a2 
  · refine e_iload_n G (pc := 14) dX7_isNicer_14 rfl rfl ?_
    refine e_if_eq G (pc := 15) (tgt := 30) dX7_isNicer_15 (by decide) ?_ ?_
    · refine e_wk (L' := [some (.int a1), some (.int a2), none, none]) (And.intro rfl (And.intro rfl (trivial))) ?_
      exact t_X7_isNicer_B30 G w4 a1 a2 
    · refine e_iload_n G (pc := 18) dX7_isNicer_18 rfl rfl ?_
      refine e_if_le G (pc := 19) (tgt := 26) dX7_isNicer_19 (by decide) ?_ ?_
      · refine e_iconst G (pc := 26) (v := 0) dX7_isNicer_26 (by decide) ?_
        refine e_goto G (pc := 27) (tgt := 40) dX7_isNicer_27 (by decide) ?_
        exact e_zret dX7_isNicer_40
      · refine e_iconst G (pc := 22) (v := 1) dX7_isNicer_22 (by decide) ?_
        refine e_goto G (pc := 23) (tgt := 40) dX7_isNicer_23 (by decide) ?_
        exact e_zret dX7_isNicer_40
set_option maxRecDepth 100000 in
set_option maxHeartbeats 4000000 in
theorem c_X7_isNicer (w : qW) (a1 : Int32) (a2 : Int32) (a3 : Int32) : q_AC q_vi (some .boolean) (3) yX7_isNicer cX7_isNicer 4 [.int a1, .int a2, .int a3] w (f_X7_isNicer w a1 a2 a3) := q_met_z (k := 1) (by decide +kernel) rfl rfl rfl (fun _ _ G => t_X7_isNicer G w a1 a2 a3 )
set_option maxRecDepth 100000 in
set_option maxHeartbeats 4000000 in
theorem t_X7_cheapestSet_B90 {E : qE} {Γ : qC} (G : q_Ok E Γ RX7 cX7_cheapestSet 7 (5)) (k21 : qW → Int32 → Int32 → Int32 → Int32 → Int32 → Option (Int32 × qW)) (hk21 : ∀ (w : qW) (l1 : Int32) (l2 : Int32) (l3 : Int32) (l4 : Int32) (l5 : Int32), q_Ev E Γ 7 (q_Fi E Γ cX7_cheapestSet) 21 [some (.ref 10), some (.int l1), some (.int l2), some (.int l3), some (.int l4), some (.int l5), none] [] w (k21 w l1 l2 l3 l4 l5)) (w : qW) (l1 : Int32) (l2 : Int32) (l3 : Int32) (l4 : Int32) (l5 : Int32) : q_Ev E Γ 7 (q_Fi E Γ cX7_cheapestSet) 90 [some (.ref 10), some (.int l1), some (.int l2), some (.int l3), some (.int l4), some (.int l5), none] [] w (f_X7_cheapestSet_B90 k21 w l1 l2 l3 l4 l5) := by
  unfold f_X7_cheapestSet_B90
  refine e_iinc G (pc := 90) (x := l5) (v := l5 + 1) (L' := fun v1 => [some (.ref 10), some (.int l1), some (.int l2), some (.int l3), some (.int l4), some (.int v1), none]) dX7_cheapestSet_90 (Nat.le_of_ble_eq_true rfl) rfl (by rfl) (fun _ => rfl) (fun v1 => ?_)
  refine e_goto G (pc := 93) (tgt := 21) dX7_cheapestSet_93 (by decide) ?_
  exact hk21 w l1 l2 l3 l4 v1 
set_option maxRecDepth 100000 in
set_option maxHeartbeats 4000000 in
theorem t_X7_cheapestSet_B83 {E : qE} {Γ : qC} (G : q_Ok E Γ RX7 cX7_cheapestSet 7 (5)) (k21 : qW → Int32 → Int32 → Int32 → Int32 → Int32 → Option (Int32 × qW)) (hk21 : ∀ (w : qW) (l1 : Int32) (l2 : Int32) (l3 : Int32) (l4 : Int32) (l5 : Int32), q_Ev E Γ 7 (q_Fi E Γ cX7_cheapestSet) 21 [some (.ref 10), some (.int l1), some (.int l2), some (.int l3), some (.int l4), some (.int l5), none] [] w (k21 w l1 l2 l3 l4 l5)) (w : qW) (l1 : Int32) (l2 : Int32) (l5 : Int32) (l6 : Int32) : q_Ev E Γ 7 (q_Fi E Γ cX7_cheapestSet) 83 [some (.ref 10), some (.int l1), some (.int l2), none, none, some (.int l5), some (.int l6)] [] w (f_X7_cheapestSet_B83 k21 w l1 l2 l5 l6) := by
  unfold f_X7_cheapestSet_B83
  refine e_iload G (pc := 83) dX7_cheapestSet_83 rfl ?_
  refine e_istore_n G (pc := 85) (L' := [some (.ref 10), some (.int l1), some (.int l2), some (.int l5), none, some (.int l5), some (.int l6)]) dX7_cheapestSet_85 rfl (Nat.le_of_ble_eq_true rfl) rfl ?_
  refine e_iload G (pc := 86) dX7_cheapestSet_86 rfl ?_
  refine e_istore G (pc := 88) (L' := [some (.ref 10), some (.int l1), some (.int l2), some (.int l5), some (.int l6), some (.int l5), some (.int l6)]) dX7_cheapestSet_88 (Nat.le_of_ble_eq_true rfl) rfl ?_
  refine e_wk (L' := [some (.ref 10), some (.int l1), some (.int l2), some (.int l5), some (.int l6), some (.int l5), none]) (And.intro rfl (And.intro rfl (And.intro rfl (And.intro rfl (And.intro rfl (And.intro rfl (trivial))))))) ?_
  exact t_X7_cheapestSet_B90 G k21 hk21 w l1 l2 l5 l6 l5 
set_option maxRecDepth 100000 in
set_option maxHeartbeats 4000000 in
theorem t_X7_cheapestSet_B21 {E : qE} {Γ : qC} (G : q_Ok E Γ RX7 cX7_cheapestSet 7 (5)) (k21 : qW → Int32 → Int32 → Int32 → Int32 → Int32 → Option (Int32 × qW)) (hk21 : ∀ (w : qW) (l1 : Int32) (l2 : Int32) (l3 : Int32) (l4 : Int32) (l5 : Int32), q_Ev E Γ 7 (q_Fi E Γ cX7_cheapestSet) 21 [some (.ref 10), some (.int l1), some (.int l2), some (.int l3), some (.int l4), some (.int l5), none] [] w (k21 w l1 l2 l3 l4 l5)) (w : qW) (l1 : Int32) (l2 : Int32) (l3 : Int32) (l4 : Int32) (l5 : Int32) : q_Ev E Γ 7 (q_Fi E Γ cX7_cheapestSet) 21 [some (.ref 10), some (.int l1), some (.int l2), some (.int l3), some (.int l4), some (.int l5), none] [] w (f_X7_cheapestSet_B21 k21 w l1 l2 l3 l4 l5) := by
  unfold f_X7_cheapestSet_B21
  refine e_iload G (pc := 21) dX7_cheapestSet_21 rfl ?_
  refine e_aload_n G (pc := 23) dX7_cheapestSet_23 rfl rfl ?_
  refine e_getF G (pc := 24) sh_10 rfl lk_X7_27 dX7_cheapestSet_24 ?_
  refine e_cVi G (pc := 27) (As := []) (st := [.int l5]) cv_X7_81 (c_X4_everyone w  ) sh_1 (Nat.le_of_ble_eq_true rfl) rfl (Nat.le_of_ble_eq_true rfl) dX7_cheapestSet_27 (fun r1 w2 => ?_)
  refine e_icmp_ge G (pc := 30) (tgt := 96) dX7_cheapestSet_30 (by decide) ?_ ?_
  · refine e_iload_n G (pc := 96) dX7_cheapestSet_96 rfl rfl ?_
    exact e_iret dX7_cheapestSet_97
  · refine e_aload_n G (pc := 33) dX7_cheapestSet_33 rfl rfl ?_
    refine e_getF G (pc := 34) sh_10 rfl lk_X7_21 dX7_cheapestSet_34 ?_
    refine e_iload G (pc := 37) dX7_cheapestSet_37 rfl ?_
    refine e_iald G (pc := 39) sh_14 dX7_cheapestSet_39 (fun v3 => ?_)
    refine e_iload_n G (pc := 40) dX7_cheapestSet_40 rfl rfl ?_
    refine e_iand G (pc := 41) dX7_cheapestSet_41 ?_
    refine e_if_eq G (pc := 42) (tgt := 48) dX7_cheapestSet_42 (by decide) ?_ ?_
    · refine e_aload_n G (pc := 48) dX7_cheapestSet_48 rfl rfl ?_
      refine e_getF G (pc := 49) sh_10 rfl lk_X7_27 dX7_cheapestSet_49 ?_
      refine e_iload G (pc := 52) dX7_cheapestSet_52 rfl ?_
      refine e_cVi G (pc := 54) (As := [.int l5]) (st := []) cv_X7_92 (c_X4_payOf w2 l5 ) sh_1 (Nat.le_of_ble_eq_true rfl) rfl (Nat.le_of_ble_eq_true rfl) dX7_cheapestSet_54 (fun r4 w5 => ?_)
      refine e_istore G (pc := 57) (L' := [some (.ref 10), some (.int l1), some (.int l2), some (.int l3), some (.int l4), some (.int l5), some (.int r4)]) dX7_cheapestSet_57 (Nat.le_of_ble_eq_true rfl) rfl ?_
      refine e_iload G (pc := 59) dX7_cheapestSet_59 rfl ?_
      refine e_iload G (pc := 61) dX7_cheapestSet_61 rfl ?_
      refine e_icmp_lt G (pc := 63) (tgt := 83) dX7_cheapestSet_63 (by decide) ?_ ?_
      · refine e_wk (L' := [some (.ref 10), some (.int l1), some (.int l2), none, none, some (.int l5), some (.int r4)]) (And.intro rfl (And.intro rfl (And.intro rfl (And.intro rfl (And.intro rfl (trivial)))))) ?_
        exact t_X7_cheapestSet_B83 G k21 hk21 w5 l1 l2 l5 r4 
      · refine e_iload G (pc := 66) dX7_cheapestSet_66 rfl ?_
        refine e_iload G (pc := 68) dX7_cheapestSet_68 rfl ?_
        refine e_icmp_ne G (pc := 70) (tgt := 90) dX7_cheapestSet_70 (by decide) ?_ ?_
        · refine e_wk (L' := [some (.ref 10), some (.int l1), some (.int l2), some (.int l3), some (.int l4), some (.int l5), none]) (And.intro rfl (And.intro rfl (And.intro rfl (And.intro rfl (And.intro rfl (And.intro rfl (trivial))))))) ?_
          exact t_X7_cheapestSet_B90 G k21 hk21 w5 l1 l2 l3 l4 l5 
        · refine e_iload G (pc := 73) dX7_cheapestSet_73 rfl ?_
          refine e_iload_n G (pc := 75) dX7_cheapestSet_75 rfl rfl ?_
          refine e_iload_n G (pc := 76) dX7_cheapestSet_76 rfl rfl ?_
          refine e_cSi G (pc := 77) (ci := 0) (id := 0) (sl := []) (As := [.int l5, .int l3, .int l2]) (st := []) cs_X7_140 (c_X7_isNicer w5 l5 l3 l2 ) (Nat.le_of_ble_eq_true rfl) rfl (Nat.le_of_ble_eq_true rfl) dX7_cheapestSet_77 (fun r6 w7 => ?_)
          refine e_if_eq G (pc := 80) (tgt := 90) dX7_cheapestSet_80 (by decide) ?_ ?_
          · refine e_wk (L' := [some (.ref 10), some (.int l1), some (.int l2), some (.int l3), some (.int l4), some (.int l5), none]) (And.intro rfl (And.intro rfl (And.intro rfl (And.intro rfl (And.intro rfl (And.intro rfl (trivial))))))) ?_
            exact t_X7_cheapestSet_B90 G k21 hk21 w7 l1 l2 l3 l4 l5 
          · refine e_wk (L' := [some (.ref 10), some (.int l1), some (.int l2), none, none, some (.int l5), some (.int r4)]) (And.intro rfl (And.intro rfl (And.intro rfl (And.intro rfl (And.intro rfl (trivial)))))) ?_
            exact t_X7_cheapestSet_B83 G k21 hk21 w7 l1 l2 l5 r4 
    · refine e_goto G (pc := 45) (tgt := 90) dX7_cheapestSet_45 (by decide) ?_
      exact t_X7_cheapestSet_B90 G k21 hk21 w2 l1 l2 l3 l4 l5 
set_option maxRecDepth 100000 in
set_option maxHeartbeats 4000000 in
theorem t_X7_cheapestSet_R21 {E : qE} {Γ : qC} (G : q_Ok E Γ RX7 cX7_cheapestSet 7 (5)) : ∀ (fuel : Nat) (w : qW) (l1 : Int32) (l2 : Int32) (l3 : Int32) (l4 : Int32) (l5 : Int32) , q_Ev E Γ 7 (q_Fi E Γ cX7_cheapestSet) 21 [some (.ref 10), some (.int l1), some (.int l2), some (.int l3), some (.int l4), some (.int l5), none] [] w (f_X7_cheapestSet_R21 fuel w l1 l2 l3 l4 l5) := by
  intro fuel
  induction fuel with
  | zero => intros; exact e_none
  | succ fuel ih =>
    intro w l1 l2 l3 l4 l5 
    exact t_X7_cheapestSet_B21 G _ ih w l1 l2 l3 l4 l5 
set_option maxRecDepth 100000 in
set_option maxHeartbeats 4000000 in
theorem t_X7_cheapestSet {E : qE} {Γ : qC} (G : q_Ok E Γ RX7 cX7_cheapestSet 7 (5)) (w : qW) (a1 : Int32) (a2 : Int32) : q_Ev E Γ 7 (q_Fi E Γ cX7_cheapestSet) 0 [some (.ref 10), some (.int a1), some (.int a2), none, none, none, none] [] w (f_X7_cheapestSet w a1 a2) := by
  unfold f_X7_cheapestSet
  refine e_aload_n G (pc := 0) dX7_cheapestSet_0 rfl rfl ?_
  refine e_getF G (pc := 1) sh_10 rfl lk_X7_27 dX7_cheapestSet_1 ?_
  refine e_cVi G (pc := 4) (As := []) (st := []) cv_X7_81 (c_X4_everyone w  ) sh_1 (Nat.le_of_ble_eq_true rfl) rfl (Nat.le_of_ble_eq_true rfl) dX7_cheapestSet_4 (fun r1 w2 => ?_)
  refine e_istore_n G (pc := 7) (L' := [some (.ref 10), some (.int a1), some (.int a2), some (.int r1), none, none, none]) dX7_cheapestSet_7 rfl (Nat.le_of_ble_eq_true rfl) rfl ?_
  refine e_aload_n G (pc := 8) dX7_cheapestSet_8 rfl rfl ?_
  refine e_getF G (pc := 9) sh_10 rfl lk_X7_27 dX7_cheapestSet_9 ?_
  refine e_iload_n G (pc := 12) dX7_cheapestSet_12 rfl rfl ?_
  refine e_cVi G (pc := 13) (As := [.int r1]) (st := []) cv_X7_92 (c_X4_payOf w2 r1 ) sh_1 (Nat.le_of_ble_eq_true rfl) rfl (Nat.le_of_ble_eq_true rfl) dX7_cheapestSet_13 (fun r3 w4 => ?_)
  refine e_istore G (pc := 16) (L' := [some (.ref 10), some (.int a1), some (.int a2), some (.int r1), some (.int r3), none, none]) dX7_cheapestSet_16 (Nat.le_of_ble_eq_true rfl) rfl ?_
  refine e_iconst G (pc := 18) (v := 0) dX7_cheapestSet_18 (by decide) ?_
  refine e_istore G (pc := 19) (L' := [some (.ref 10), some (.int a1), some (.int a2), some (.int r1), some (.int r3), some (.int 0), none]) dX7_cheapestSet_19 (Nat.le_of_ble_eq_true rfl) rfl ?_
  exact t_X7_cheapestSet_R21 G  q_fuel w4 a1 a2 r1 r3 0 
set_option maxRecDepth 100000 in
set_option maxHeartbeats 4000000 in
theorem c_X7_cheapestSet (w : qW) (a1 : Int32) (a2 : Int32) : q_AC q_vi (some .int) (5) yX7_cheapestSet cX7_cheapestSet 7 [.ref 10, .int a1, .int a2] w (f_X7_cheapestSet w a1 a2) := q_met_i (k := 4) (by decide +kernel) rfl rfl rfl (fun _ _ G => t_X7_cheapestSet G w a1 a2 )
set_option maxRecDepth 100000 in
set_option maxHeartbeats 4000000 in
theorem t_X7_cheapest {E : qE} {Γ : qC} (G : q_Ok E Γ RX7 cX7_cheapest 1 (8)) (w : qW) : q_Ev E Γ 1 (q_Fi E Γ cX7_cheapest) 0 [some (.ref 10)] [] w (f_X7_cheapest w ) := by
  unfold f_X7_cheapest
  refine e_aload_n G (pc := 0) dX7_cheapest_0 rfl rfl ?_
  refine e_cVv G (pc := 1) (As := []) (st := []) cv_X7_78 (c_X7_weighSets w  ) sh_10 (Nat.le_of_ble_eq_true rfl) rfl (Nat.le_of_ble_eq_true rfl) dX7_cheapest_1 (fun r1 w2 => ?_)
  refine e_aload_n G (pc := 4) dX7_cheapest_4 rfl rfl ?_
  refine e_sipush G (pc := 5) (v := 4095) dX7_cheapest_5 (by decide) ?_
  refine e_iconst G (pc := 8) (v := 1) dX7_cheapest_8 (by decide) ?_
  refine e_cVi G (pc := 9) (As := [.int 4095, .int 1]) (st := []) cv_X7_85 (c_X7_cheapestSet w2 4095 1 ) sh_10 (Nat.le_of_ble_eq_true rfl) rfl (Nat.le_of_ble_eq_true rfl) dX7_cheapest_9 (fun r3 w4 => ?_)
  exact e_iret dX7_cheapest_12
set_option maxRecDepth 100000 in
set_option maxHeartbeats 4000000 in
theorem c_X7_cheapest (w : qW) : q_AC q_vi (some .int) (8) yX7_cheapest cX7_cheapest 1 [.ref 10] w (f_X7_cheapest w ) := q_met_i (k := 0) (by decide +kernel) rfl rfl rfl (fun _ _ G => t_X7_cheapest G w  )
set_option maxRecDepth 100000 in
set_option maxHeartbeats 4000000 in
theorem t_X7_needed_B46 {E : qE} {Γ : qC} (G : q_Ok E Γ RX7 cX7_needed 3 (8)) (k8 : qW → Int32 → Int32 → Option (Int32 × qW)) (hk8 : ∀ (w : qW) (l1 : Int32) (l2 : Int32), q_Ev E Γ 3 (q_Fi E Γ cX7_needed) 8 [some (.ref 10), some (.int l1), some (.int l2)] [] w (k8 w l1 l2)) (w : qW) (l1 : Int32) (l2 : Int32) : q_Ev E Γ 3 (q_Fi E Γ cX7_needed) 46 [some (.ref 10), some (.int l1), some (.int l2)] [] w (f_X7_needed_B46 k8 w l1 l2) := by
  unfold f_X7_needed_B46
  refine e_iinc G (pc := 46) (x := l2) (v := l2 + 1) (L' := fun v1 => [some (.ref 10), some (.int l1), some (.int v1)]) dX7_needed_46 (Nat.le_of_ble_eq_true rfl) rfl (by rfl) (fun _ => rfl) (fun v1 => ?_)
  refine e_goto G (pc := 49) (tgt := 8) dX7_needed_49 (by decide) ?_
  exact hk8 w l1 v1 
set_option maxRecDepth 100000 in
set_option maxHeartbeats 4000000 in
theorem t_X7_needed_B8 {E : qE} {Γ : qC} (G : q_Ok E Γ RX7 cX7_needed 3 (8)) (k8 : qW → Int32 → Int32 → Option (Int32 × qW)) (hk8 : ∀ (w : qW) (l1 : Int32) (l2 : Int32), q_Ev E Γ 3 (q_Fi E Γ cX7_needed) 8 [some (.ref 10), some (.int l1), some (.int l2)] [] w (k8 w l1 l2)) (w : qW) (l1 : Int32) (l2 : Int32) : q_Ev E Γ 3 (q_Fi E Γ cX7_needed) 8 [some (.ref 10), some (.int l1), some (.int l2)] [] w (f_X7_needed_B8 k8 w l1 l2) := by
  unfold f_X7_needed_B8
  refine e_iload_n G (pc := 8) dX7_needed_8 rfl rfl ?_
  refine e_aload_n G (pc := 9) dX7_needed_9 rfl rfl ?_
  refine e_getF G (pc := 10) sh_10 rfl lk_X7_27 dX7_needed_10 ?_
  refine e_getI G (pc := 13) sh_1 rfl lk_X7_89 dX7_needed_13 ?_
  refine e_icmp_ge G (pc := 16) (tgt := 52) dX7_needed_16 (by decide) ?_ ?_
  · refine e_iload_n G (pc := 52) dX7_needed_52 rfl rfl ?_
    exact e_iret dX7_needed_53
  · refine e_aload_n G (pc := 19) dX7_needed_19 rfl rfl ?_
    refine e_getF G (pc := 20) sh_10 rfl lk_X7_21 dX7_needed_20 ?_
    refine e_aload_n G (pc := 23) dX7_needed_23 rfl rfl ?_
    refine e_getF G (pc := 24) sh_10 rfl lk_X7_27 dX7_needed_24 ?_
    refine e_cVi G (pc := 27) (As := []) (st := [.ref 14]) cv_X7_81 (c_X4_everyone w  ) sh_1 (Nat.le_of_ble_eq_true rfl) rfl (Nat.le_of_ble_eq_true rfl) dX7_needed_27 (fun r1 w2 => ?_)
    refine e_iconst G (pc := 30) (v := 1) dX7_needed_30 (by decide) ?_
    refine e_iload_n G (pc := 31) dX7_needed_31 rfl rfl ?_
    refine e_ishl G (pc := 32) dX7_needed_32 ?_
    refine e_iconst G (pc := 33) (v := (-1)) dX7_needed_33 (by decide) ?_
    refine e_ixor G (pc := 34) dX7_needed_34 ?_
    refine e_iand G (pc := 35) dX7_needed_35 ?_
    refine e_iald G (pc := 36) sh_14 dX7_needed_36 (fun v3 => ?_)
    refine e_if_eq G (pc := 37) (tgt := 46) dX7_needed_37 (by decide) ?_ ?_
    · exact t_X7_needed_B46 G k8 hk8 w2 l1 l2 
    · refine e_iload_n G (pc := 40) dX7_needed_40 rfl rfl ?_
      refine e_iconst G (pc := 41) (v := 1) dX7_needed_41 (by decide) ?_
      refine e_iload_n G (pc := 42) dX7_needed_42 rfl rfl ?_
      refine e_ishl G (pc := 43) dX7_needed_43 ?_
      refine e_ior G (pc := 44) dX7_needed_44 ?_
      refine e_ti (fun v4 => ?_)
      refine e_istore_n G (pc := 45) (L' := [some (.ref 10), some (.int v4), some (.int l2)]) dX7_needed_45 rfl (Nat.le_of_ble_eq_true rfl) rfl ?_
      exact t_X7_needed_B46 G k8 hk8 w2 v4 l2 
set_option maxRecDepth 100000 in
set_option maxHeartbeats 4000000 in
theorem t_X7_needed_R8 {E : qE} {Γ : qC} (G : q_Ok E Γ RX7 cX7_needed 3 (8)) : ∀ (fuel : Nat) (w : qW) (l1 : Int32) (l2 : Int32) , q_Ev E Γ 3 (q_Fi E Γ cX7_needed) 8 [some (.ref 10), some (.int l1), some (.int l2)] [] w (f_X7_needed_R8 fuel w l1 l2) := by
  intro fuel
  induction fuel with
  | zero => intros; exact e_none
  | succ fuel ih =>
    intro w l1 l2 
    exact t_X7_needed_B8 G _ ih w l1 l2 
set_option maxRecDepth 100000 in
set_option maxHeartbeats 4000000 in
theorem t_X7_needed {E : qE} {Γ : qC} (G : q_Ok E Γ RX7 cX7_needed 3 (8)) (w : qW) : q_Ev E Γ 3 (q_Fi E Γ cX7_needed) 0 [some (.ref 10), none, none] [] w (f_X7_needed w ) := by
  unfold f_X7_needed
  refine e_aload_n G (pc := 0) dX7_needed_0 rfl rfl ?_
  refine e_cVv G (pc := 1) (As := []) (st := []) cv_X7_78 (c_X7_weighSets w  ) sh_10 (Nat.le_of_ble_eq_true rfl) rfl (Nat.le_of_ble_eq_true rfl) dX7_needed_1 (fun r1 w2 => ?_)
  refine e_iconst G (pc := 4) (v := 0) dX7_needed_4 (by decide) ?_
  refine e_istore_n G (pc := 5) (L' := [some (.ref 10), some (.int 0), none]) dX7_needed_5 rfl (Nat.le_of_ble_eq_true rfl) rfl ?_
  refine e_iconst G (pc := 6) (v := 0) dX7_needed_6 (by decide) ?_
  refine e_istore_n G (pc := 7) (L' := [some (.ref 10), some (.int 0), some (.int 0)]) dX7_needed_7 rfl (Nat.le_of_ble_eq_true rfl) rfl ?_
  exact t_X7_needed_R8 G  q_fuel w2 0 0 
set_option maxRecDepth 100000 in
set_option maxHeartbeats 4000000 in
theorem c_X7_needed (w : qW) : q_AC q_vi (some .int) (8) yX7_needed cX7_needed 3 [.ref 10] w (f_X7_needed w ) := q_met_i (k := 2) (by decide +kernel) rfl rfl rfl (fun _ _ G => t_X7_needed G w  )
set_option maxRecDepth 100000 in
set_option maxHeartbeats 4000000 in
theorem t_X7_rosterAt {E : qE} {Γ : qC} (G : q_Ok E Γ RX7 cX7_rosterAt 2 (8)) (w : qW) (a1 : Int32) : q_Ev E Γ 2 (q_Fi E Γ cX7_rosterAt) 0 [some (.ref 10), some (.int a1)] [] w (f_X7_rosterAt w a1) := by
  unfold f_X7_rosterAt
  refine e_aload_n G (pc := 0) dX7_rosterAt_0 rfl rfl ?_
  refine e_cVv G (pc := 1) (As := []) (st := []) cv_X7_78 (c_X7_weighSets w  ) sh_10 (Nat.le_of_ble_eq_true rfl) rfl (Nat.le_of_ble_eq_true rfl) dX7_rosterAt_1 (fun r1 w2 => ?_)
  refine e_aload_n G (pc := 4) dX7_rosterAt_4 rfl rfl ?_
  refine e_iconst G (pc := 5) (v := 1) dX7_rosterAt_5 (by decide) ?_
  refine e_iload_n G (pc := 6) dX7_rosterAt_6 rfl rfl ?_
  refine e_ishl G (pc := 7) dX7_rosterAt_7 ?_
  refine e_iconst G (pc := 8) (v := 0) dX7_rosterAt_8 (by decide) ?_
  refine e_cVi G (pc := 9) (As := [.int ((1 : Int32) <<< (a1 &&& 31)), .int 0]) (st := []) cv_X7_85 (c_X7_cheapestSet w2 ((1 : Int32) <<< (a1 &&& 31)) 0 ) sh_10 (Nat.le_of_ble_eq_true rfl) rfl (Nat.le_of_ble_eq_true rfl) dX7_rosterAt_9 (fun r3 w4 => ?_)
  exact e_iret dX7_rosterAt_12
set_option maxRecDepth 100000 in
set_option maxHeartbeats 4000000 in
theorem c_X7_rosterAt (w : qW) (a1 : Int32) : q_AC q_vi (some .int) (8) yX7_rosterAt cX7_rosterAt 2 [.ref 10, .int a1] w (f_X7_rosterAt w a1) := q_met_i (k := 0) (by decide +kernel) rfl rfl rfl (fun _ _ G => t_X7_rosterAt G w a1 )
set_option maxRecDepth 100000 in
set_option maxHeartbeats 4000000 in
theorem t_X7_payOfRosters_B8 {E : qE} {Γ : qC} (G : q_Ok E Γ RX7 cX7_payOfRosters 3 (8)) (k8 : qW → Int32 → Int32 → Option (Int32 × qW)) (hk8 : ∀ (w : qW) (l1 : Int32) (l2 : Int32), q_Ev E Γ 3 (q_Fi E Γ cX7_payOfRosters) 8 [some (.ref 10), some (.int l1), some (.int l2)] [] w (k8 w l1 l2)) (w : qW) (l1 : Int32) (l2 : Int32) : q_Ev E Γ 3 (q_Fi E Γ cX7_payOfRosters) 8 [some (.ref 10), some (.int l1), some (.int l2)] [] w (f_X7_payOfRosters_B8 k8 w l1 l2) := by
  unfold f_X7_payOfRosters_B8
  refine e_iload_n G (pc := 8) dX7_payOfRosters_8 rfl rfl ?_
  refine e_bipush G (pc := 9) (v := 12) dX7_payOfRosters_9 (by decide) ?_
  refine e_icmp_ge G (pc := 11) (tgt := 38) dX7_payOfRosters_11 (by decide) ?_ ?_
  · refine e_iload_n G (pc := 38) dX7_payOfRosters_38 rfl rfl ?_
    exact e_iret dX7_payOfRosters_39
  · refine e_iload_n G (pc := 14) dX7_payOfRosters_14 rfl rfl ?_
    refine e_aload_n G (pc := 15) dX7_payOfRosters_15 rfl rfl ?_
    refine e_getF G (pc := 16) sh_10 rfl lk_X7_27 dX7_payOfRosters_16 ?_
    refine e_aload_n G (pc := 19) dX7_payOfRosters_19 rfl rfl ?_
    refine e_iconst G (pc := 20) (v := 1) dX7_payOfRosters_20 (by decide) ?_
    refine e_iload_n G (pc := 21) dX7_payOfRosters_21 rfl rfl ?_
    refine e_ishl G (pc := 22) dX7_payOfRosters_22 ?_
    refine e_iconst G (pc := 23) (v := 0) dX7_payOfRosters_23 (by decide) ?_
    refine e_cVi G (pc := 24) (As := [.int ((1 : Int32) <<< (l2 &&& 31)), .int 0]) (st := [.ref 1, .int l1]) cv_X7_85 (c_X7_cheapestSet w ((1 : Int32) <<< (l2 &&& 31)) 0 ) sh_10 (Nat.le_of_ble_eq_true rfl) rfl (Nat.le_of_ble_eq_true rfl) dX7_payOfRosters_24 (fun r1 w2 => ?_)
    refine e_cVi G (pc := 27) (As := [.int r1]) (st := [.int l1]) cv_X7_92 (c_X4_payOf w2 r1 ) sh_1 (Nat.le_of_ble_eq_true rfl) rfl (Nat.le_of_ble_eq_true rfl) dX7_payOfRosters_27 (fun r3 w4 => ?_)
    refine e_iadd G (pc := 30) dX7_payOfRosters_30 ?_
    refine e_ti (fun v5 => ?_)
    refine e_istore_n G (pc := 31) (L' := [some (.ref 10), some (.int v5), some (.int l2)]) dX7_payOfRosters_31 rfl (Nat.le_of_ble_eq_true rfl) rfl ?_
    refine e_iinc G (pc := 32) (x := l2) (v := l2 + 1) (L' := fun v6 => [some (.ref 10), some (.int v5), some (.int v6)]) dX7_payOfRosters_32 (Nat.le_of_ble_eq_true rfl) rfl (by rfl) (fun _ => rfl) (fun v6 => ?_)
    refine e_goto G (pc := 35) (tgt := 8) dX7_payOfRosters_35 (by decide) ?_
    exact hk8 w4 v5 v6 
set_option maxRecDepth 100000 in
set_option maxHeartbeats 4000000 in
theorem t_X7_payOfRosters_R8 {E : qE} {Γ : qC} (G : q_Ok E Γ RX7 cX7_payOfRosters 3 (8)) : ∀ (fuel : Nat) (w : qW) (l1 : Int32) (l2 : Int32) , q_Ev E Γ 3 (q_Fi E Γ cX7_payOfRosters) 8 [some (.ref 10), some (.int l1), some (.int l2)] [] w (f_X7_payOfRosters_R8 fuel w l1 l2) := by
  intro fuel
  induction fuel with
  | zero => intros; exact e_none
  | succ fuel ih =>
    intro w l1 l2 
    exact t_X7_payOfRosters_B8 G _ ih w l1 l2 
set_option maxRecDepth 100000 in
set_option maxHeartbeats 4000000 in
theorem t_X7_payOfRosters {E : qE} {Γ : qC} (G : q_Ok E Γ RX7 cX7_payOfRosters 3 (8)) (w : qW) : q_Ev E Γ 3 (q_Fi E Γ cX7_payOfRosters) 0 [some (.ref 10), none, none] [] w (f_X7_payOfRosters w ) := by
  unfold f_X7_payOfRosters
  refine e_aload_n G (pc := 0) dX7_payOfRosters_0 rfl rfl ?_
  refine e_cVv G (pc := 1) (As := []) (st := []) cv_X7_78 (c_X7_weighSets w  ) sh_10 (Nat.le_of_ble_eq_true rfl) rfl (Nat.le_of_ble_eq_true rfl) dX7_payOfRosters_1 (fun r1 w2 => ?_)
  refine e_iconst G (pc := 4) (v := 0) dX7_payOfRosters_4 (by decide) ?_
  refine e_istore_n G (pc := 5) (L' := [some (.ref 10), some (.int 0), none]) dX7_payOfRosters_5 rfl (Nat.le_of_ble_eq_true rfl) rfl ?_
  refine e_iconst G (pc := 6) (v := 0) dX7_payOfRosters_6 (by decide) ?_
  refine e_istore_n G (pc := 7) (L' := [some (.ref 10), some (.int 0), some (.int 0)]) dX7_payOfRosters_7 rfl (Nat.le_of_ble_eq_true rfl) rfl ?_
  exact t_X7_payOfRosters_R8 G  q_fuel w2 0 0 
set_option maxRecDepth 100000 in
set_option maxHeartbeats 4000000 in
theorem c_X7_payOfRosters (w : qW) : q_AC q_vi (some .int) (8) yX7_payOfRosters cX7_payOfRosters 3 [.ref 10] w (f_X7_payOfRosters w ) := q_met_i (k := 2) (by decide +kernel) rfl rfl rfl (fun _ _ G => t_X7_payOfRosters G w  )
set_option maxRecDepth 100000 in
set_option maxHeartbeats 4000000 in
theorem t_X7_seatOf {E : qE} {Γ : qC} (G : q_Ok E Γ RX7 cX7_seatOf 2 (4)) (w : qW) (a1 : Int32) : q_Ev E Γ 2 (q_Fi E Γ cX7_seatOf) 0 [some (.ref 10), some (.int a1)] [] w (f_X7_seatOf w a1) := by
  unfold f_X7_seatOf
  refine e_aload_n G (pc := 0) dX7_seatOf_0 rfl rfl ?_
  refine e_getF G (pc := 1) sh_10 rfl lk_X7_27 dX7_seatOf_1 ?_
  refine e_iload_n G (pc := 4) dX7_seatOf_4 rfl rfl ?_
  refine e_bipush G (pc := 5) (v := 12) dX7_seatOf_5 (by decide) ?_
  refine e_idiv G (pc := 7) dX7_seatOf_7 (by decide) ?_
  refine e_iconst G (pc := 8) (v := 4) dX7_seatOf_8 (by decide) ?_
  refine e_cVi G (pc := 9) (As := [.int (a1 / 12), .int 4]) (st := []) cv_X7_54 (c_X4_get w (a1 / 12) 4 ) sh_1 (Nat.le_of_ble_eq_true rfl) rfl (Nat.le_of_ble_eq_true rfl) dX7_seatOf_9 (fun r1 w2 => ?_)
  exact e_iret dX7_seatOf_12
set_option maxRecDepth 100000 in
set_option maxHeartbeats 4000000 in
theorem c_X7_seatOf (w : qW) (a1 : Int32) : q_AC q_vi (some .int) (4) yX7_seatOf cX7_seatOf 2 [.ref 10, .int a1] w (f_X7_seatOf w a1) := q_met_i (k := 0) (by decide +kernel) rfl rfl rfl (fun _ _ G => t_X7_seatOf G w a1 )
set_option maxRecDepth 100000 in
set_option maxHeartbeats 4000000 in
theorem t_X7_missesBeside_B93 {E : qE} {Γ : qC} (G : q_Ok E Γ RX7 cX7_missesBeside 6 (6)) (k5 : qW → Int32 → Int32 → Int32 → Int32 → Option (Int32 × qW)) (hk5 : ∀ (w : qW) (l1 : Int32) (l2 : Int32) (l3 : Int32) (l4 : Int32), q_Ev E Γ 6 (q_Fi E Γ cX7_missesBeside) 5 [some (.ref 10), some (.int l1), some (.int l2), some (.int l3), some (.int l4), none] [] w (k5 w l1 l2 l3 l4)) (w : qW) (l1 : Int32) (l2 : Int32) (l3 : Int32) (l4 : Int32) : q_Ev E Γ 6 (q_Fi E Γ cX7_missesBeside) 93 [some (.ref 10), some (.int l1), some (.int l2), some (.int l3), some (.int l4), none] [] w (f_X7_missesBeside_B93 k5 w l1 l2 l3 l4) := by
  unfold f_X7_missesBeside_B93
  refine e_iinc G (pc := 93) (x := l4) (v := l4 + 1) (L' := fun v1 => [some (.ref 10), some (.int l1), some (.int l2), some (.int l3), some (.int v1), none]) dX7_missesBeside_93 (Nat.le_of_ble_eq_true rfl) rfl (by rfl) (fun _ => rfl) (fun v1 => ?_)
  refine e_goto G (pc := 96) (tgt := 5) dX7_missesBeside_96 (by decide) ?_
  exact hk5 w l1 l2 l3 v1 
set_option maxRecDepth 100000 in
set_option maxHeartbeats 4000000 in
theorem t_X7_missesBeside_B5 {E : qE} {Γ : qC} (G : q_Ok E Γ RX7 cX7_missesBeside 6 (6)) (k5 : qW → Int32 → Int32 → Int32 → Int32 → Option (Int32 × qW)) (hk5 : ∀ (w : qW) (l1 : Int32) (l2 : Int32) (l3 : Int32) (l4 : Int32), q_Ev E Γ 6 (q_Fi E Γ cX7_missesBeside) 5 [some (.ref 10), some (.int l1), some (.int l2), some (.int l3), some (.int l4), none] [] w (k5 w l1 l2 l3 l4)) (w : qW) (l1 : Int32) (l2 : Int32) (l3 : Int32) (l4 : Int32) : q_Ev E Γ 6 (q_Fi E Γ cX7_missesBeside) 5 [some (.ref 10), some (.int l1), some (.int l2), some (.int l3), some (.int l4), none] [] w (f_X7_missesBeside_B5 k5 w l1 l2 l3 l4) := by
  unfold f_X7_missesBeside_B5
  refine e_iload G (pc := 5) dX7_missesBeside_5 rfl ?_
  refine e_bipush G (pc := 7) (v := 12) dX7_missesBeside_7 (by decide) ?_
  refine e_aload_n G (pc := 9) dX7_missesBeside_9 rfl rfl ?_
  refine e_getF G (pc := 10) sh_10 rfl lk_X7_27 dX7_missesBeside_10 ?_
  refine e_getI G (pc := 13) sh_1 rfl lk_X7_68 dX7_missesBeside_13 ?_
  refine e_imul G (pc := 16) dX7_missesBeside_16 ?_
  refine e_icmp_ge G (pc := 17) (tgt := 99) dX7_missesBeside_17 (by decide) ?_ ?_
  · refine e_iload_n G (pc := 99) dX7_missesBeside_99 rfl rfl ?_
    exact e_iret dX7_missesBeside_100
  · refine e_aload_n G (pc := 20) dX7_missesBeside_20 rfl rfl ?_
    refine e_iload G (pc := 21) dX7_missesBeside_21 rfl ?_
    refine e_cVi G (pc := 23) (As := [.int l4]) (st := []) cv_X7_72 (c_X7_isWanted w l4 ) sh_10 (Nat.le_of_ble_eq_true rfl) rfl (Nat.le_of_ble_eq_true rfl) dX7_missesBeside_23 (fun r1 w2 => ?_)
    refine e_if_eq G (pc := 26) (tgt := 93) dX7_missesBeside_26 (by decide) ?_ ?_
    · exact t_X7_missesBeside_B93 G k5 hk5 w2 l1 l2 l3 l4 
    · refine e_aload_n G (pc := 29) dX7_missesBeside_29 rfl rfl ?_
      refine e_iload G (pc := 30) dX7_missesBeside_30 rfl ?_
      refine e_cVi G (pc := 32) (As := [.int l4]) (st := []) cv_X7_50 (c_X7_isServed w2 l4 ) sh_10 (Nat.le_of_ble_eq_true rfl) rfl (Nat.le_of_ble_eq_true rfl) dX7_missesBeside_32 (fun r3 w4 => ?_)
      refine e_if_eq G (pc := 35) (tgt := 41) dX7_missesBeside_35 (by decide) ?_ ?_
      · refine e_aload_n G (pc := 41) dX7_missesBeside_41 rfl rfl ?_
        refine e_getF G (pc := 42) sh_10 rfl lk_X7_31 dX7_missesBeside_42 ?_
        refine e_iload_n G (pc := 45) dX7_missesBeside_45 rfl rfl ?_
        refine e_iload_n G (pc := 46) dX7_missesBeside_46 rfl rfl ?_
        refine e_iconst G (pc := 47) (v := 1) dX7_missesBeside_47 (by decide) ?_
        refine e_aload_n G (pc := 48) dX7_missesBeside_48 rfl rfl ?_
        refine e_getF G (pc := 49) sh_10 rfl lk_X7_27 dX7_missesBeside_49 ?_
        refine e_getI G (pc := 52) sh_1 rfl lk_X7_89 dX7_missesBeside_52 ?_
        refine e_aload_n G (pc := 55) dX7_missesBeside_55 rfl rfl ?_
        refine e_iload G (pc := 56) dX7_missesBeside_56 rfl ?_
        refine e_cVi G (pc := 58) (As := [.int l4]) (st := [.int (q_I w4 1 1), .int 1, .int l1, .int l2, .ref 9]) cv_X7_99 (c_X7_seatOf w4 l4 ) sh_10 (Nat.le_of_ble_eq_true rfl) rfl (Nat.le_of_ble_eq_true rfl) dX7_missesBeside_58 (fun r5 w6 => ?_)
        refine e_iload G (pc := 61) dX7_missesBeside_61 rfl ?_
        refine e_bipush G (pc := 63) (v := 12) dX7_missesBeside_63 (by decide) ?_
        refine e_irem G (pc := 65) dX7_missesBeside_65 (by decide) ?_
        refine e_cVi G (pc := 66) (As := [.int l2, .int l1, .int 1, .int (q_I w4 1 1), .int r5, .int (q_rem l4 12)]) (st := []) cv_X7_102 (c_X5_cast w6 l2 l1 1 (q_I w4 1 1) r5 (q_rem l4 12) ) sh_9 (Nat.le_of_ble_eq_true rfl) rfl (Nat.le_of_ble_eq_true rfl) dX7_missesBeside_66 (fun r7 w8 => ?_)
        refine e_istore G (pc := 69) (L' := [some (.ref 10), some (.int l1), some (.int l2), some (.int l3), some (.int l4), some (.int r7)]) dX7_missesBeside_69 (Nat.le_of_ble_eq_true rfl) rfl ?_
        refine e_aload_n G (pc := 71) dX7_missesBeside_71 rfl rfl ?_
        refine e_getF G (pc := 72) sh_10 rfl lk_X7_11 dX7_missesBeside_72 ?_
        refine e_iload G (pc := 75) dX7_missesBeside_75 rfl ?_
        refine e_iald G (pc := 77) sh_11 dX7_missesBeside_77 (fun v9 => ?_)
        refine e_iload G (pc := 78) dX7_missesBeside_78 rfl ?_
        refine e_iadd G (pc := 80) dX7_missesBeside_80 ?_
        refine e_aload_n G (pc := 81) dX7_missesBeside_81 rfl rfl ?_
        refine e_iload G (pc := 82) dX7_missesBeside_82 rfl ?_
        refine e_cVi G (pc := 84) (As := [.int l4]) (st := [.int (v9 + r7)]) cv_X7_106 (c_X7_leastOf w8 l4 ) sh_10 (Nat.le_of_ble_eq_true rfl) rfl (Nat.le_of_ble_eq_true rfl) dX7_missesBeside_84 (fun r10 w11 => ?_)
        refine e_icmp_ge G (pc := 87) (tgt := 93) dX7_missesBeside_87 (by decide) ?_ ?_
        · refine e_wk (L' := [some (.ref 10), some (.int l1), some (.int l2), some (.int l3), some (.int l4), none]) (And.intro rfl (And.intro rfl (And.intro rfl (And.intro rfl (And.intro rfl (trivial)))))) ?_
          exact t_X7_missesBeside_B93 G k5 hk5 w11 l1 l2 l3 l4 
        · refine e_iinc G (pc := 90) (x := l3) (v := l3 + 1) (L' := fun v12 => [some (.ref 10), some (.int l1), some (.int l2), some (.int v12), some (.int l4), some (.int r7)]) dX7_missesBeside_90 (Nat.le_of_ble_eq_true rfl) rfl (by rfl) (fun _ => rfl) (fun v12 => ?_)
          refine e_wk (L' := [some (.ref 10), some (.int l1), some (.int l2), some (.int v12), some (.int l4), none]) (And.intro rfl (And.intro rfl (And.intro rfl (And.intro rfl (And.intro rfl (trivial)))))) ?_
          exact t_X7_missesBeside_B93 G k5 hk5 w11 l1 l2 v12 l4 
      · refine e_goto G (pc := 38) (tgt := 93) dX7_missesBeside_38 (by decide) ?_
        exact t_X7_missesBeside_B93 G k5 hk5 w4 l1 l2 l3 l4 
set_option maxRecDepth 100000 in
set_option maxHeartbeats 4000000 in
theorem t_X7_missesBeside_R5 {E : qE} {Γ : qC} (G : q_Ok E Γ RX7 cX7_missesBeside 6 (6)) : ∀ (fuel : Nat) (w : qW) (l1 : Int32) (l2 : Int32) (l3 : Int32) (l4 : Int32) , q_Ev E Γ 6 (q_Fi E Γ cX7_missesBeside) 5 [some (.ref 10), some (.int l1), some (.int l2), some (.int l3), some (.int l4), none] [] w (f_X7_missesBeside_R5 fuel w l1 l2 l3 l4) := by
  intro fuel
  induction fuel with
  | zero => intros; exact e_none
  | succ fuel ih =>
    intro w l1 l2 l3 l4 
    exact t_X7_missesBeside_B5 G _ ih w l1 l2 l3 l4 
set_option maxRecDepth 100000 in
set_option maxHeartbeats 4000000 in
theorem t_X7_missesBeside {E : qE} {Γ : qC} (G : q_Ok E Γ RX7 cX7_missesBeside 6 (6)) (w : qW) (a1 : Int32) (a2 : Int32) : q_Ev E Γ 6 (q_Fi E Γ cX7_missesBeside) 0 [some (.ref 10), some (.int a1), some (.int a2), none, none, none] [] w (f_X7_missesBeside w a1 a2) := by
  unfold f_X7_missesBeside
  refine e_iconst G (pc := 0) (v := 0) dX7_missesBeside_0 (by decide) ?_
  refine e_istore_n G (pc := 1) (L' := [some (.ref 10), some (.int a1), some (.int a2), some (.int 0), none, none]) dX7_missesBeside_1 rfl (Nat.le_of_ble_eq_true rfl) rfl ?_
  refine e_iconst G (pc := 2) (v := 0) dX7_missesBeside_2 (by decide) ?_
  refine e_istore G (pc := 3) (L' := [some (.ref 10), some (.int a1), some (.int a2), some (.int 0), some (.int 0), none]) dX7_missesBeside_3 (Nat.le_of_ble_eq_true rfl) rfl ?_
  exact t_X7_missesBeside_R5 G  q_fuel w a1 a2 0 0 
set_option maxRecDepth 100000 in
set_option maxHeartbeats 4000000 in
theorem c_X7_missesBeside (w : qW) (a1 : Int32) (a2 : Int32) : q_AC q_vi (some .int) (6) yX7_missesBeside cX7_missesBeside 6 [.ref 10, .int a1, .int a2] w (f_X7_missesBeside w a1 a2) := q_met_i (k := 3) (by decide +kernel) rfl rfl rfl (fun _ _ G => t_X7_missesBeside G w a1 a2 )
set_option maxRecDepth 100000 in
set_option maxHeartbeats 4000000 in
theorem t_X7_bestCell_B44 {E : qE} {Γ : qC} (G : q_Ok E Γ RX7 cX7_bestCell 6 (7)) (k15 : qW → Int32 → Int32 → Int32 → Int32 → Option (Int32 × qW)) (hk15 : ∀ (w : qW) (l1 : Int32) (l2 : Int32) (l3 : Int32) (l4 : Int32), q_Ev E Γ 6 (q_Fi E Γ cX7_bestCell) 15 [some (.ref 10), some (.int l1), some (.int l2), some (.int l3), some (.int l4), none] [] w (k15 w l1 l2 l3 l4)) (w : qW) (l1 : Int32) (l2 : Int32) (l3 : Int32) (l4 : Int32) : q_Ev E Γ 6 (q_Fi E Γ cX7_bestCell) 44 [some (.ref 10), some (.int l1), some (.int l2), some (.int l3), some (.int l4), none] [] w (f_X7_bestCell_B44 k15 w l1 l2 l3 l4) := by
  unfold f_X7_bestCell_B44
  refine e_iinc G (pc := 44) (x := l4) (v := l4 + 1) (L' := fun v1 => [some (.ref 10), some (.int l1), some (.int l2), some (.int l3), some (.int v1), none]) dX7_bestCell_44 (Nat.le_of_ble_eq_true rfl) rfl (by rfl) (fun _ => rfl) (fun v1 => ?_)
  refine e_goto G (pc := 47) (tgt := 15) dX7_bestCell_47 (by decide) ?_
  exact hk15 w l1 l2 l3 v1 
set_option maxRecDepth 100000 in
set_option maxHeartbeats 4000000 in
theorem t_X7_bestCell_B15 {E : qE} {Γ : qC} (G : q_Ok E Γ RX7 cX7_bestCell 6 (7)) (k15 : qW → Int32 → Int32 → Int32 → Int32 → Option (Int32 × qW)) (hk15 : ∀ (w : qW) (l1 : Int32) (l2 : Int32) (l3 : Int32) (l4 : Int32), q_Ev E Γ 6 (q_Fi E Γ cX7_bestCell) 15 [some (.ref 10), some (.int l1), some (.int l2), some (.int l3), some (.int l4), none] [] w (k15 w l1 l2 l3 l4)) (w : qW) (l1 : Int32) (l2 : Int32) (l3 : Int32) (l4 : Int32) : q_Ev E Γ 6 (q_Fi E Γ cX7_bestCell) 15 [some (.ref 10), some (.int l1), some (.int l2), some (.int l3), some (.int l4), none] [] w (f_X7_bestCell_B15 k15 w l1 l2 l3 l4) := by
  unfold f_X7_bestCell_B15
  refine e_iload G (pc := 15) dX7_bestCell_15 rfl ?_
  refine e_sipush G (pc := 17) (v := 144) dX7_bestCell_17 (by decide) ?_
  refine e_icmp_ge G (pc := 20) (tgt := 50) dX7_bestCell_20 (by decide) ?_ ?_
  · refine e_iload_n G (pc := 50) dX7_bestCell_50 rfl rfl ?_
    exact e_iret dX7_bestCell_51
  · refine e_aload_n G (pc := 23) dX7_bestCell_23 rfl rfl ?_
    refine e_iload_n G (pc := 24) dX7_bestCell_24 rfl rfl ?_
    refine e_iload G (pc := 25) dX7_bestCell_25 rfl ?_
    refine e_cVi G (pc := 27) (As := [.int l1, .int l4]) (st := []) cv_X7_96 (c_X7_missesBeside w l1 l4 ) sh_10 (Nat.le_of_ble_eq_true rfl) rfl (Nat.le_of_ble_eq_true rfl) dX7_bestCell_27 (fun r1 w2 => ?_)
    refine e_istore G (pc := 30) (L' := [some (.ref 10), some (.int l1), some (.int l2), some (.int l3), some (.int l4), some (.int r1)]) dX7_bestCell_30 (Nat.le_of_ble_eq_true rfl) rfl ?_
    refine e_iload G (pc := 32) dX7_bestCell_32 rfl ?_
    refine e_iload_n G (pc := 34) dX7_bestCell_34 rfl rfl ?_
    refine e_icmp_ge G (pc := 35) (tgt := 44) dX7_bestCell_35 (by decide) ?_ ?_
    · refine e_wk (L' := [some (.ref 10), some (.int l1), some (.int l2), some (.int l3), some (.int l4), none]) (And.intro rfl (And.intro rfl (And.intro rfl (And.intro rfl (And.intro rfl (trivial)))))) ?_
      exact t_X7_bestCell_B44 G k15 hk15 w2 l1 l2 l3 l4 
    · refine e_iload G (pc := 38) dX7_bestCell_38 rfl ?_
      refine e_istore_n G (pc := 40) (L' := [some (.ref 10), some (.int l1), some (.int l2), some (.int r1), some (.int l4), some (.int r1)]) dX7_bestCell_40 rfl (Nat.le_of_ble_eq_true rfl) rfl ?_
      refine e_iload G (pc := 41) dX7_bestCell_41 rfl ?_
      refine e_istore_n G (pc := 43) (L' := [some (.ref 10), some (.int l1), some (.int l4), some (.int r1), some (.int l4), some (.int r1)]) dX7_bestCell_43 rfl (Nat.le_of_ble_eq_true rfl) rfl ?_
      refine e_wk (L' := [some (.ref 10), some (.int l1), some (.int l4), some (.int r1), some (.int l4), none]) (And.intro rfl (And.intro rfl (And.intro rfl (And.intro rfl (And.intro rfl (trivial)))))) ?_
      exact t_X7_bestCell_B44 G k15 hk15 w2 l1 l4 r1 l4 
set_option maxRecDepth 100000 in
set_option maxHeartbeats 4000000 in
theorem t_X7_bestCell_R15 {E : qE} {Γ : qC} (G : q_Ok E Γ RX7 cX7_bestCell 6 (7)) : ∀ (fuel : Nat) (w : qW) (l1 : Int32) (l2 : Int32) (l3 : Int32) (l4 : Int32) , q_Ev E Γ 6 (q_Fi E Γ cX7_bestCell) 15 [some (.ref 10), some (.int l1), some (.int l2), some (.int l3), some (.int l4), none] [] w (f_X7_bestCell_R15 fuel w l1 l2 l3 l4) := by
  intro fuel
  induction fuel with
  | zero => intros; exact e_none
  | succ fuel ih =>
    intro w l1 l2 l3 l4 
    exact t_X7_bestCell_B15 G _ ih w l1 l2 l3 l4 
set_option maxRecDepth 100000 in
set_option maxHeartbeats 4000000 in
theorem t_X7_bestCell {E : qE} {Γ : qC} (G : q_Ok E Γ RX7 cX7_bestCell 6 (7)) (w : qW) (a1 : Int32) : q_Ev E Γ 6 (q_Fi E Γ cX7_bestCell) 0 [some (.ref 10), some (.int a1), none, none, none, none] [] w (f_X7_bestCell w a1) := by
  unfold f_X7_bestCell
  refine e_aload_n G (pc := 0) dX7_bestCell_0 rfl rfl ?_
  refine e_iconst G (pc := 1) (v := 0) dX7_bestCell_1 (by decide) ?_
  refine e_bipush G (pc := 2) (v := 11) dX7_bestCell_2 (by decide) ?_
  refine e_cVv G (pc := 4) (As := [.int 0, .int 11]) (st := []) cv_X7_46 (c_X7_weigh w 0 11 ) sh_10 (Nat.le_of_ble_eq_true rfl) rfl (Nat.le_of_ble_eq_true rfl) dX7_bestCell_4 (fun r1 w2 => ?_)
  refine e_iconst G (pc := 7) (v := 0) dX7_bestCell_7 (by decide) ?_
  refine e_istore_n G (pc := 8) (L' := [some (.ref 10), some (.int a1), some (.int 0), none, none, none]) dX7_bestCell_8 rfl (Nat.le_of_ble_eq_true rfl) rfl ?_
  refine e_ldc G (pc := 9) kc_X7_95 dX7_bestCell_9 ?_
  refine e_istore_n G (pc := 11) (L' := [some (.ref 10), some (.int a1), some (.int 0), some (.int 2147483647), none, none]) dX7_bestCell_11 rfl (Nat.le_of_ble_eq_true rfl) rfl ?_
  refine e_iconst G (pc := 12) (v := 0) dX7_bestCell_12 (by decide) ?_
  refine e_istore G (pc := 13) (L' := [some (.ref 10), some (.int a1), some (.int 0), some (.int 2147483647), some (.int 0), none]) dX7_bestCell_13 (Nat.le_of_ble_eq_true rfl) rfl ?_
  exact t_X7_bestCell_R15 G  q_fuel w2 a1 0 2147483647 0 
set_option maxRecDepth 100000 in
set_option maxHeartbeats 4000000 in
theorem c_X7_bestCell (w : qW) (a1 : Int32) : q_AC q_vi (some .int) (7) yX7_bestCell cX7_bestCell 6 [.ref 10, .int a1] w (f_X7_bestCell w a1) := q_met_i (k := 4) (by decide +kernel) rfl rfl rfl (fun _ _ G => t_X7_bestCell G w a1 )
set_option maxRecDepth 100000 in
set_option maxHeartbeats 4000000 in
theorem t_X7_missesAfter_B124 {E : qE} {Γ : qC} (G : q_Ok E Γ RX7 cX7_missesAfter 8 (6)) (k38 : qW → Int32 → Int32 → Int32 → Int32 → Int32 → Option (Int32 × qW)) (hk38 : ∀ (w : qW) (l1 : Int32) (l3 : Int32) (l4 : Int32) (l5 : Int32) (l6 : Int32), q_Ev E Γ 8 (q_Fi E Γ cX7_missesAfter) 38 [some (.ref 10), some (.int l1), none, some (.int l3), some (.int l4), some (.int l5), some (.int l6), none] [] w (k38 w l1 l3 l4 l5 l6)) (w : qW) (l1 : Int32) (l3 : Int32) (l4 : Int32) (l5 : Int32) (l6 : Int32) : q_Ev E Γ 8 (q_Fi E Γ cX7_missesAfter) 124 [some (.ref 10), some (.int l1), none, some (.int l3), some (.int l4), some (.int l5), some (.int l6), none] [] w (f_X7_missesAfter_B124 k38 w l1 l3 l4 l5 l6) := by
  unfold f_X7_missesAfter_B124
  refine e_iinc G (pc := 124) (x := l6) (v := l6 + 1) (L' := fun v1 => [some (.ref 10), some (.int l1), none, some (.int l3), some (.int l4), some (.int l5), some (.int v1), none]) dX7_missesAfter_124 (Nat.le_of_ble_eq_true rfl) rfl (by rfl) (fun _ => rfl) (fun v1 => ?_)
  refine e_goto G (pc := 127) (tgt := 38) dX7_missesAfter_127 (by decide) ?_
  exact hk38 w l1 l3 l4 l5 v1 
set_option maxRecDepth 100000 in
set_option maxHeartbeats 4000000 in
theorem t_X7_missesAfter_B38 {E : qE} {Γ : qC} (G : q_Ok E Γ RX7 cX7_missesAfter 8 (6)) (k38 : qW → Int32 → Int32 → Int32 → Int32 → Int32 → Option (Int32 × qW)) (hk38 : ∀ (w : qW) (l1 : Int32) (l3 : Int32) (l4 : Int32) (l5 : Int32) (l6 : Int32), q_Ev E Γ 8 (q_Fi E Γ cX7_missesAfter) 38 [some (.ref 10), some (.int l1), none, some (.int l3), some (.int l4), some (.int l5), some (.int l6), none] [] w (k38 w l1 l3 l4 l5 l6)) (w : qW) (l1 : Int32) (l3 : Int32) (l4 : Int32) (l5 : Int32) (l6 : Int32) : q_Ev E Γ 8 (q_Fi E Γ cX7_missesAfter) 38 [some (.ref 10), some (.int l1), none, some (.int l3), some (.int l4), some (.int l5), some (.int l6), none] [] w (f_X7_missesAfter_B38 k38 w l1 l3 l4 l5 l6) := by
  unfold f_X7_missesAfter_B38
  refine e_iload G (pc := 38) dX7_missesAfter_38 rfl ?_
  refine e_bipush G (pc := 40) (v := 12) dX7_missesAfter_40 (by decide) ?_
  refine e_aload_n G (pc := 42) dX7_missesAfter_42 rfl rfl ?_
  refine e_getF G (pc := 43) sh_10 rfl lk_X7_27 dX7_missesAfter_43 ?_
  refine e_getI G (pc := 46) sh_1 rfl lk_X7_68 dX7_missesAfter_46 ?_
  refine e_imul G (pc := 49) dX7_missesAfter_49 ?_
  refine e_icmp_ge G (pc := 50) (tgt := 130) dX7_missesAfter_50 (by decide) ?_ ?_
  · refine e_iload G (pc := 130) dX7_missesAfter_130 rfl ?_
    exact e_iret dX7_missesAfter_132
  · refine e_aload_n G (pc := 53) dX7_missesAfter_53 rfl rfl ?_
    refine e_iload G (pc := 54) dX7_missesAfter_54 rfl ?_
    refine e_cVi G (pc := 56) (As := [.int l6]) (st := []) cv_X7_72 (c_X7_isWanted w l6 ) sh_10 (Nat.le_of_ble_eq_true rfl) rfl (Nat.le_of_ble_eq_true rfl) dX7_missesAfter_56 (fun r1 w2 => ?_)
    refine e_if_ne G (pc := 59) (tgt := 65) dX7_missesAfter_59 (by decide) ?_ ?_
    · refine e_aload_n G (pc := 65) dX7_missesAfter_65 rfl rfl ?_
      refine e_getF G (pc := 66) sh_10 rfl lk_X7_11 dX7_missesAfter_66 ?_
      refine e_iload G (pc := 69) dX7_missesAfter_69 rfl ?_
      refine e_iald G (pc := 71) sh_11 dX7_missesAfter_71 (fun v3 => ?_)
      refine e_aload_n G (pc := 72) dX7_missesAfter_72 rfl rfl ?_
      refine e_getF G (pc := 73) sh_10 rfl lk_X7_15 dX7_missesAfter_73 ?_
      refine e_bipush G (pc := 76) (v := 7) dX7_missesAfter_76 (by decide) ?_
      refine e_iload G (pc := 78) dX7_missesAfter_78 rfl ?_
      refine e_imul G (pc := 80) dX7_missesAfter_80 ?_
      refine e_iload_n G (pc := 81) dX7_missesAfter_81 rfl rfl ?_
      refine e_iadd G (pc := 82) dX7_missesAfter_82 ?_
      refine e_iald G (pc := 83) sh_12 dX7_missesAfter_83 (fun v4 => ?_)
      refine e_isub G (pc := 84) dX7_missesAfter_84 ?_
      refine e_ti (fun v5 => ?_)
      refine e_istore G (pc := 85) (L' := [some (.ref 10), some (.int l1), none, some (.int l3), some (.int l4), some (.int l5), some (.int l6), some (.int v5)]) dX7_missesAfter_85 (Nat.le_of_ble_eq_true rfl) rfl ?_
      refine e_iload G (pc := 87) dX7_missesAfter_87 rfl ?_
      refine e_aload_n G (pc := 89) dX7_missesAfter_89 rfl rfl ?_
      refine e_getF G (pc := 90) sh_10 rfl lk_X7_31 dX7_missesAfter_90 ?_
      refine e_iload_n G (pc := 93) dX7_missesAfter_93 rfl rfl ?_
      refine e_iload_n G (pc := 94) dX7_missesAfter_94 rfl rfl ?_
      refine e_iload G (pc := 95) dX7_missesAfter_95 rfl ?_
      refine e_aload_n G (pc := 97) dX7_missesAfter_97 rfl rfl ?_
      refine e_iload G (pc := 98) dX7_missesAfter_98 rfl ?_
      refine e_cVi G (pc := 100) (As := [.int l6]) (st := [.int l4, .int l3, .int l1, .ref 9, .int v5]) cv_X7_99 (c_X7_seatOf w2 l6 ) sh_10 (Nat.le_of_ble_eq_true rfl) rfl (Nat.le_of_ble_eq_true rfl) dX7_missesAfter_100 (fun r6 w7 => ?_)
      refine e_iload G (pc := 103) dX7_missesAfter_103 rfl ?_
      refine e_bipush G (pc := 105) (v := 12) dX7_missesAfter_105 (by decide) ?_
      refine e_irem G (pc := 107) dX7_missesAfter_107 (by decide) ?_
      refine e_cVi G (pc := 108) (As := [.int l1, .int l3, .int l4, .int r6, .int (q_rem l6 12)]) (st := [.int v5]) cv_X7_118 (c_X5_ifHe w7 l1 l3 l4 r6 (q_rem l6 12) ) sh_9 (Nat.le_of_ble_eq_true rfl) rfl (Nat.le_of_ble_eq_true rfl) dX7_missesAfter_108 (fun r8 w9 => ?_)
      refine e_iadd G (pc := 111) dX7_missesAfter_111 ?_
      refine e_aload_n G (pc := 112) dX7_missesAfter_112 rfl rfl ?_
      refine e_iload G (pc := 113) dX7_missesAfter_113 rfl ?_
      refine e_cVi G (pc := 115) (As := [.int l6]) (st := [.int (v5 + r8)]) cv_X7_106 (c_X7_leastOf w9 l6 ) sh_10 (Nat.le_of_ble_eq_true rfl) rfl (Nat.le_of_ble_eq_true rfl) dX7_missesAfter_115 (fun r10 w11 => ?_)
      refine e_icmp_ge G (pc := 118) (tgt := 124) dX7_missesAfter_118 (by decide) ?_ ?_
      · refine e_wk (L' := [some (.ref 10), some (.int l1), none, some (.int l3), some (.int l4), some (.int l5), some (.int l6), none]) (And.intro rfl (And.intro rfl (And.intro rfl (And.intro rfl (And.intro rfl (And.intro rfl (trivial))))))) ?_
        exact t_X7_missesAfter_B124 G k38 hk38 w11 l1 l3 l4 l5 l6 
      · refine e_iinc G (pc := 121) (x := l5) (v := l5 + 1) (L' := fun v12 => [some (.ref 10), some (.int l1), none, some (.int l3), some (.int l4), some (.int v12), some (.int l6), some (.int v5)]) dX7_missesAfter_121 (Nat.le_of_ble_eq_true rfl) rfl (by rfl) (fun _ => rfl) (fun v12 => ?_)
        refine e_wk (L' := [some (.ref 10), some (.int l1), none, some (.int l3), some (.int l4), some (.int v12), some (.int l6), none]) (And.intro rfl (And.intro rfl (And.intro rfl (And.intro rfl (And.intro rfl (And.intro rfl (trivial))))))) ?_
        exact t_X7_missesAfter_B124 G k38 hk38 w11 l1 l3 l4 v12 l6 
    · refine e_goto G (pc := 62) (tgt := 124) dX7_missesAfter_62 (by decide) ?_
      exact t_X7_missesAfter_B124 G k38 hk38 w2 l1 l3 l4 l5 l6 
set_option maxRecDepth 100000 in
set_option maxHeartbeats 4000000 in
theorem t_X7_missesAfter_R38 {E : qE} {Γ : qC} (G : q_Ok E Γ RX7 cX7_missesAfter 8 (6)) : ∀ (fuel : Nat) (w : qW) (l1 : Int32) (l3 : Int32) (l4 : Int32) (l5 : Int32) (l6 : Int32) , q_Ev E Γ 8 (q_Fi E Γ cX7_missesAfter) 38 [some (.ref 10), some (.int l1), none, some (.int l3), some (.int l4), some (.int l5), some (.int l6), none] [] w (f_X7_missesAfter_R38 fuel w l1 l3 l4 l5 l6) := by
  intro fuel
  induction fuel with
  | zero => intros; exact e_none
  | succ fuel ih =>
    intro w l1 l3 l4 l5 l6 
    exact t_X7_missesAfter_B38 G _ ih w l1 l3 l4 l5 l6 
set_option maxRecDepth 100000 in
set_option maxHeartbeats 4000000 in
theorem t_X7_missesAfter {E : qE} {Γ : qC} (G : q_Ok E Γ RX7 cX7_missesAfter 8 (6)) (w : qW) (a1 : Int32) (a2 : Int32) : q_Ev E Γ 8 (q_Fi E Γ cX7_missesAfter) 0 [some (.ref 10), some (.int a1), some (.int a2), none, none, none, none, none] [] w (f_X7_missesAfter w a1 a2) := by
  unfold f_X7_missesAfter
  refine e_aload_n G (pc := 0) dX7_missesAfter_0 rfl rfl ?_
  refine e_getF G (pc := 1) sh_10 rfl lk_X7_27 dX7_missesAfter_1 ?_
  refine e_iload_n G (pc := 4) dX7_missesAfter_4 rfl rfl ?_
  refine e_iconst G (pc := 5) (v := 0) dX7_missesAfter_5 (by decide) ?_
  refine e_cVi G (pc := 6) (As := [.int a1, .int 0]) (st := []) cv_X7_54 (c_X4_get w a1 0 ) sh_1 (Nat.le_of_ble_eq_true rfl) rfl (Nat.le_of_ble_eq_true rfl) dX7_missesAfter_6 (fun r1 w2 => ?_)
  refine e_iload_n G (pc := 9) dX7_missesAfter_9 rfl rfl ?_
  refine e_cNi G (pc := 10) (ci := 0) (id := 0) (sl := []) (As := [.int r1, .int a2]) (st := []) cn_X7_115 (c_X10_cellAfter w2 r1 a2 ) (Nat.le_of_ble_eq_true rfl) rfl (Nat.le_of_ble_eq_true rfl) dX7_missesAfter_10 (fun r3 w4 => ?_)
  refine e_istore_n G (pc := 13) (L' := [some (.ref 10), some (.int a1), some (.int a2), some (.int r3), none, none, none, none]) dX7_missesAfter_13 rfl (Nat.le_of_ble_eq_true rfl) rfl ?_
  refine e_iload_n G (pc := 14) dX7_missesAfter_14 rfl rfl ?_
  refine e_if_ge G (pc := 15) (tgt := 21) dX7_missesAfter_15 (by decide) ?_ ?_
  · refine e_aload_n G (pc := 21) dX7_missesAfter_21 rfl rfl ?_
    refine e_getF G (pc := 22) sh_10 rfl lk_X7_27 dX7_missesAfter_22 ?_
    refine e_iload_n G (pc := 25) dX7_missesAfter_25 rfl rfl ?_
    refine e_iconst G (pc := 26) (v := 1) dX7_missesAfter_26 (by decide) ?_
    refine e_cVi G (pc := 27) (As := [.int a1, .int 1]) (st := []) cv_X7_54 (c_X4_get w4 a1 1 ) sh_1 (Nat.le_of_ble_eq_true rfl) rfl (Nat.le_of_ble_eq_true rfl) dX7_missesAfter_27 (fun r5 w6 => ?_)
    refine e_istore G (pc := 30) (L' := [some (.ref 10), some (.int a1), some (.int a2), some (.int r3), some (.int r5), none, none, none]) dX7_missesAfter_30 (Nat.le_of_ble_eq_true rfl) rfl ?_
    refine e_iconst G (pc := 32) (v := 0) dX7_missesAfter_32 (by decide) ?_
    refine e_istore G (pc := 33) (L' := [some (.ref 10), some (.int a1), some (.int a2), some (.int r3), some (.int r5), some (.int 0), none, none]) dX7_missesAfter_33 (Nat.le_of_ble_eq_true rfl) rfl ?_
    refine e_iconst G (pc := 35) (v := 0) dX7_missesAfter_35 (by decide) ?_
    refine e_istore G (pc := 36) (L' := [some (.ref 10), some (.int a1), some (.int a2), some (.int r3), some (.int r5), some (.int 0), some (.int 0), none]) dX7_missesAfter_36 (Nat.le_of_ble_eq_true rfl) rfl ?_
    refine e_wk (L' := [some (.ref 10), some (.int a1), none, some (.int r3), some (.int r5), some (.int 0), some (.int 0), none]) (And.intro rfl (And.intro rfl (And.intro rfl (And.intro rfl (And.intro rfl (And.intro rfl (trivial))))))) ?_
    exact t_X7_missesAfter_R38 G  q_fuel w6 a1 r3 r5 0 0 
  · refine e_ldc G (pc := 18) kc_X7_95 dX7_missesAfter_18 ?_
    exact e_iret dX7_missesAfter_20
set_option maxRecDepth 100000 in
set_option maxHeartbeats 4000000 in
theorem c_X7_missesAfter (w : qW) (a1 : Int32) (a2 : Int32) : q_AC q_vi (some .int) (6) yX7_missesAfter cX7_missesAfter 8 [.ref 10, .int a1, .int a2] w (f_X7_missesAfter w a1 a2) := q_met_i (k := 5) (by decide +kernel) rfl rfl rfl (fun _ _ G => t_X7_missesAfter G w a1 a2 )
set_option maxRecDepth 100000 in
set_option maxHeartbeats 4000000 in
theorem t_X7_bestStep_B60 {E : qE} {Γ : qC} (G : q_Ok E Γ RX7 cX7_bestStep 9 (7)) (k25 : qW → Int32 → Int32 → Int32 → Int32 → Int32 → Option (Int32 × qW)) (hk25 : ∀ (w : qW) (l1 : Int32) (l2 : Int32) (l3 : Int32) (l5 : Int32) (l6 : Int32), q_Ev E Γ 9 (q_Fi E Γ cX7_bestStep) 25 [some (.ref 10), some (.int l1), some (.int l2), some (.int l3), some (.ref 102), some (.int l5), some (.int l6), none, none] [] w (k25 w l1 l2 l3 l5 l6)) (w : qW) (l1 : Int32) (l2 : Int32) (l3 : Int32) (l5 : Int32) (l6 : Int32) : q_Ev E Γ 9 (q_Fi E Γ cX7_bestStep) 60 [some (.ref 10), some (.int l1), some (.int l2), some (.int l3), some (.ref 102), some (.int l5), some (.int l6), none, none] [] w (f_X7_bestStep_B60 k25 w l1 l2 l3 l5 l6) := by
  unfold f_X7_bestStep_B60
  refine e_iinc G (pc := 60) (x := l6) (v := l6 + 1) (L' := fun v1 => [some (.ref 10), some (.int l1), some (.int l2), some (.int l3), some (.ref 102), some (.int l5), some (.int v1), none, none]) dX7_bestStep_60 (Nat.le_of_ble_eq_true rfl) rfl (by rfl) (fun _ => rfl) (fun v1 => ?_)
  refine e_goto G (pc := 63) (tgt := 25) dX7_bestStep_63 (by decide) ?_
  exact hk25 w l1 l2 l3 l5 v1 
set_option maxRecDepth 100000 in
set_option maxHeartbeats 4000000 in
theorem t_X7_bestStep_B25 {E : qE} {Γ : qC} (G : q_Ok E Γ RX7 cX7_bestStep 9 (7)) (k25 : qW → Int32 → Int32 → Int32 → Int32 → Int32 → Option (Int32 × qW)) (hk25 : ∀ (w : qW) (l1 : Int32) (l2 : Int32) (l3 : Int32) (l5 : Int32) (l6 : Int32), q_Ev E Γ 9 (q_Fi E Γ cX7_bestStep) 25 [some (.ref 10), some (.int l1), some (.int l2), some (.int l3), some (.ref 102), some (.int l5), some (.int l6), none, none] [] w (k25 w l1 l2 l3 l5 l6)) (w : qW) (l1 : Int32) (l2 : Int32) (l3 : Int32) (l5 : Int32) (l6 : Int32) : q_Ev E Γ 9 (q_Fi E Γ cX7_bestStep) 25 [some (.ref 10), some (.int l1), some (.int l2), some (.int l3), some (.ref 102), some (.int l5), some (.int l6), none, none] [] w (f_X7_bestStep_B25 k25 w l1 l2 l3 l5 l6) := by
  unfold f_X7_bestStep_B25
  refine e_iload G (pc := 25) dX7_bestStep_25 rfl ?_
  refine e_iload G (pc := 27) dX7_bestStep_27 rfl ?_
  refine e_icmp_ge G (pc := 29) (tgt := 66) dX7_bestStep_29 (by decide) ?_ ?_
  · refine e_iload_n G (pc := 66) dX7_bestStep_66 rfl rfl ?_
    exact e_iret dX7_bestStep_67
  · refine e_aload G (pc := 32) dX7_bestStep_32 rfl ?_
    refine e_iload G (pc := 34) dX7_bestStep_34 rfl ?_
    refine e_tald G (pc := 36) (k := 2) rfl (by decide) dX7_bestStep_36 (fun v1 => ?_)
    refine e_istore G (pc := 37) (L' := [some (.ref 10), some (.int l1), some (.int l2), some (.int l3), some (.ref 102), some (.int l5), some (.int l6), some (.int v1), none]) dX7_bestStep_37 (Nat.le_of_ble_eq_true rfl) rfl ?_
    refine e_aload_n G (pc := 39) dX7_bestStep_39 rfl rfl ?_
    refine e_iload_n G (pc := 40) dX7_bestStep_40 rfl rfl ?_
    refine e_iload G (pc := 41) dX7_bestStep_41 rfl ?_
    refine e_cVi G (pc := 43) (As := [.int l1, .int v1]) (st := []) cv_X7_112 (c_X7_missesAfter w l1 v1 ) sh_10 (Nat.le_of_ble_eq_true rfl) rfl (Nat.le_of_ble_eq_true rfl) dX7_bestStep_43 (fun r2 w3 => ?_)
    refine e_istore G (pc := 46) (L' := [some (.ref 10), some (.int l1), some (.int l2), some (.int l3), some (.ref 102), some (.int l5), some (.int l6), some (.int v1), some (.int r2)]) dX7_bestStep_46 (Nat.le_of_ble_eq_true rfl) rfl ?_
    refine e_iload G (pc := 48) dX7_bestStep_48 rfl ?_
    refine e_iload_n G (pc := 50) dX7_bestStep_50 rfl rfl ?_
    refine e_icmp_ge G (pc := 51) (tgt := 60) dX7_bestStep_51 (by decide) ?_ ?_
    · refine e_wk (L' := [some (.ref 10), some (.int l1), some (.int l2), some (.int l3), some (.ref 102), some (.int l5), some (.int l6), none, none]) (And.intro rfl (And.intro rfl (And.intro rfl (And.intro rfl (And.intro rfl (And.intro rfl (And.intro rfl (trivial)))))))) ?_
      exact t_X7_bestStep_B60 G k25 hk25 w3 l1 l2 l3 l5 l6 
    · refine e_iload G (pc := 54) dX7_bestStep_54 rfl ?_
      refine e_istore_n G (pc := 56) (L' := [some (.ref 10), some (.int l1), some (.int l2), some (.int r2), some (.ref 102), some (.int l5), some (.int l6), some (.int v1), some (.int r2)]) dX7_bestStep_56 rfl (Nat.le_of_ble_eq_true rfl) rfl ?_
      refine e_iload G (pc := 57) dX7_bestStep_57 rfl ?_
      refine e_istore_n G (pc := 59) (L' := [some (.ref 10), some (.int l1), some (.int v1), some (.int r2), some (.ref 102), some (.int l5), some (.int l6), some (.int v1), some (.int r2)]) dX7_bestStep_59 rfl (Nat.le_of_ble_eq_true rfl) rfl ?_
      refine e_wk (L' := [some (.ref 10), some (.int l1), some (.int v1), some (.int r2), some (.ref 102), some (.int l5), some (.int l6), none, none]) (And.intro rfl (And.intro rfl (And.intro rfl (And.intro rfl (And.intro rfl (And.intro rfl (And.intro rfl (trivial)))))))) ?_
      exact t_X7_bestStep_B60 G k25 hk25 w3 l1 v1 r2 l5 l6 
set_option maxRecDepth 100000 in
set_option maxHeartbeats 4000000 in
theorem t_X7_bestStep_R25 {E : qE} {Γ : qC} (G : q_Ok E Γ RX7 cX7_bestStep 9 (7)) : ∀ (fuel : Nat) (w : qW) (l1 : Int32) (l2 : Int32) (l3 : Int32) (l5 : Int32) (l6 : Int32) , q_Ev E Γ 9 (q_Fi E Γ cX7_bestStep) 25 [some (.ref 10), some (.int l1), some (.int l2), some (.int l3), some (.ref 102), some (.int l5), some (.int l6), none, none] [] w (f_X7_bestStep_R25 fuel w l1 l2 l3 l5 l6) := by
  intro fuel
  induction fuel with
  | zero => intros; exact e_none
  | succ fuel ih =>
    intro w l1 l2 l3 l5 l6 
    exact t_X7_bestStep_B25 G _ ih w l1 l2 l3 l5 l6 
set_option maxRecDepth 100000 in
set_option maxHeartbeats 4000000 in
theorem t_X7_bestStep {E : qE} {Γ : qC} (G : q_Ok E Γ RX7 cX7_bestStep 9 (7)) (w : qW) (a1 : Int32) : q_Ev E Γ 9 (q_Fi E Γ cX7_bestStep) 0 [some (.ref 10), some (.int a1), none, none, none, none, none, none, none] [] w (f_X7_bestStep w a1) := by
  unfold f_X7_bestStep
  refine e_aload_n G (pc := 0) dX7_bestStep_0 rfl rfl ?_
  refine e_iconst G (pc := 1) (v := 0) dX7_bestStep_1 (by decide) ?_
  refine e_bipush G (pc := 2) (v := 11) dX7_bestStep_2 (by decide) ?_
  refine e_cVv G (pc := 4) (As := [.int 0, .int 11]) (st := []) cv_X7_46 (c_X7_weigh w 0 11 ) sh_10 (Nat.le_of_ble_eq_true rfl) rfl (Nat.le_of_ble_eq_true rfl) dX7_bestStep_4 (fun r1 w2 => ?_)
  refine e_iconst G (pc := 7) (v := 4) dX7_bestStep_7 (by decide) ?_
  refine e_istore_n G (pc := 8) (L' := [some (.ref 10), some (.int a1), some (.int 4), none, none, none, none, none, none]) dX7_bestStep_8 rfl (Nat.le_of_ble_eq_true rfl) rfl ?_
  refine e_ldc G (pc := 9) kc_X7_95 dX7_bestStep_9 ?_
  refine e_istore_n G (pc := 11) (L' := [some (.ref 10), some (.int a1), some (.int 4), some (.int 2147483647), none, none, none, none, none]) dX7_bestStep_11 rfl (Nat.le_of_ble_eq_true rfl) rfl ?_
  refine e_gets G (pc := 12) (id := 102) rfl ls_X7_109 dX7_bestStep_12 ?_
  refine e_astore G (pc := 15) (L' := [some (.ref 10), some (.int a1), some (.int 4), some (.int 2147483647), some (.ref 102), none, none, none, none]) dX7_bestStep_15 (Nat.le_of_ble_eq_true rfl) rfl ?_
  refine e_aload G (pc := 17) dX7_bestStep_17 rfl ?_
  refine e_tlen G (pc := 19) (k := 2) rfl (by decide) dX7_bestStep_19 ?_
  refine e_ti (fun v3 => ?_)
  refine e_istore G (pc := 20) (L' := [some (.ref 10), some (.int a1), some (.int 4), some (.int 2147483647), some (.ref 102), some (.int v3), none, none, none]) dX7_bestStep_20 (Nat.le_of_ble_eq_true rfl) rfl ?_
  refine e_iconst G (pc := 22) (v := 0) dX7_bestStep_22 (by decide) ?_
  refine e_istore G (pc := 23) (L' := [some (.ref 10), some (.int a1), some (.int 4), some (.int 2147483647), some (.ref 102), some (.int v3), some (.int 0), none, none]) dX7_bestStep_23 (Nat.le_of_ble_eq_true rfl) rfl ?_
  exact t_X7_bestStep_R25 G  q_fuel w2 a1 4 2147483647 v3 0 
set_option maxRecDepth 100000 in
set_option maxHeartbeats 4000000 in
theorem c_X7_bestStep (w : qW) (a1 : Int32) : q_AC q_vi (some .int) (7) yX7_bestStep cX7_bestStep 9 [.ref 10, .int a1] w (f_X7_bestStep w a1) := q_met_i (k := 7) (by decide +kernel) rfl rfl rfl (fun _ _ G => t_X7_bestStep G w a1 )
set_option maxRecDepth 100000 in
set_option maxHeartbeats 4000000 in
theorem t_X7_countLost_B116 {E : qE} {Γ : qC} (G : q_Ok E Γ RX7 cX7_countLost 5 (5)) (k10 : qW → Int32 → Int32 → Option (Unit × qW)) (hk10 : ∀ (w : qW) (l1 : Int32) (l2 : Int32), q_Ev E Γ 5 (q_Fv E Γ cX7_countLost) 10 [some (.ref 10), some (.int l1), some (.int l2), none, none] [] w (k10 w l1 l2)) (w : qW) (l1 : Int32) (l2 : Int32) : q_Ev E Γ 5 (q_Fv E Γ cX7_countLost) 116 [some (.ref 10), some (.int l1), some (.int l2), none, none] [] w (f_X7_countLost_B116 k10 w l1 l2) := by
  unfold f_X7_countLost_B116
  refine e_iinc G (pc := 116) (x := l2) (v := l2 + 1) (L' := fun v1 => [some (.ref 10), some (.int l1), some (.int v1), none, none]) dX7_countLost_116 (Nat.le_of_ble_eq_true rfl) rfl (by rfl) (fun _ => rfl) (fun v1 => ?_)
  refine e_goto G (pc := 119) (tgt := 10) dX7_countLost_119 (by decide) ?_
  exact hk10 w l1 v1 
set_option maxRecDepth 100000 in
set_option maxHeartbeats 4000000 in
theorem t_X7_countLost_B110 {E : qE} {Γ : qC} (G : q_Ok E Γ RX7 cX7_countLost 5 (5)) (k10 : qW → Int32 → Int32 → Option (Unit × qW)) (k45 : qW → Int32 → Int32 → Int32 → Int32 → Option (Unit × qW)) (hk10 : ∀ (w : qW) (l1 : Int32) (l2 : Int32), q_Ev E Γ 5 (q_Fv E Γ cX7_countLost) 10 [some (.ref 10), some (.int l1), some (.int l2), none, none] [] w (k10 w l1 l2)) (hk45 : ∀ (w : qW) (l1 : Int32) (l2 : Int32) (l3 : Int32) (l4 : Int32), q_Ev E Γ 5 (q_Fv E Γ cX7_countLost) 45 [some (.ref 10), some (.int l1), some (.int l2), some (.int l3), some (.int l4)] [] w (k45 w l1 l2 l3 l4)) (w : qW) (l1 : Int32) (l2 : Int32) (l3 : Int32) (l4 : Int32) : q_Ev E Γ 5 (q_Fv E Γ cX7_countLost) 110 [some (.ref 10), some (.int l1), some (.int l2), some (.int l3), some (.int l4)] [] w (f_X7_countLost_B110 k10 k45 w l1 l2 l3 l4) := by
  unfold f_X7_countLost_B110
  refine e_iinc G (pc := 110) (x := l4) (v := l4 + 1) (L' := fun v1 => [some (.ref 10), some (.int l1), some (.int l2), some (.int l3), some (.int v1)]) dX7_countLost_110 (Nat.le_of_ble_eq_true rfl) rfl (by rfl) (fun _ => rfl) (fun v1 => ?_)
  refine e_goto G (pc := 113) (tgt := 45) dX7_countLost_113 (by decide) ?_
  exact hk45 w l1 l2 l3 v1 
set_option maxRecDepth 100000 in
set_option maxHeartbeats 4000000 in
theorem t_X7_countLost_B45 {E : qE} {Γ : qC} (G : q_Ok E Γ RX7 cX7_countLost 5 (5)) (k10 : qW → Int32 → Int32 → Option (Unit × qW)) (k45 : qW → Int32 → Int32 → Int32 → Int32 → Option (Unit × qW)) (hk10 : ∀ (w : qW) (l1 : Int32) (l2 : Int32), q_Ev E Γ 5 (q_Fv E Γ cX7_countLost) 10 [some (.ref 10), some (.int l1), some (.int l2), none, none] [] w (k10 w l1 l2)) (hk45 : ∀ (w : qW) (l1 : Int32) (l2 : Int32) (l3 : Int32) (l4 : Int32), q_Ev E Γ 5 (q_Fv E Γ cX7_countLost) 45 [some (.ref 10), some (.int l1), some (.int l2), some (.int l3), some (.int l4)] [] w (k45 w l1 l2 l3 l4)) (w : qW) (l1 : Int32) (l2 : Int32) (l3 : Int32) (l4 : Int32) : q_Ev E Γ 5 (q_Fv E Γ cX7_countLost) 45 [some (.ref 10), some (.int l1), some (.int l2), some (.int l3), some (.int l4)] [] w (f_X7_countLost_B45 k10 k45 w l1 l2 l3 l4) := by
  unfold f_X7_countLost_B45
  refine e_iload_n G (pc := 45) dX7_countLost_45 rfl rfl ?_
  refine e_if_eq G (pc := 46) (tgt := 116) dX7_countLost_46 (by decide) ?_ ?_
  · refine e_wk (L' := [some (.ref 10), some (.int l1), some (.int l2), none, none]) (And.intro rfl (And.intro rfl (And.intro rfl (trivial)))) ?_
    exact t_X7_countLost_B116 G k10 hk10 w l1 l2 
  · refine e_aload_n G (pc := 49) dX7_countLost_49 rfl rfl ?_
    refine e_iload_n G (pc := 50) dX7_countLost_50 rfl rfl ?_
    refine e_cVi G (pc := 51) (As := [.int l2]) (st := []) cv_X7_72 (c_X7_isWanted w l2 ) sh_10 (Nat.le_of_ble_eq_true rfl) rfl (Nat.le_of_ble_eq_true rfl) dX7_countLost_51 (fun r1 w2 => ?_)
    refine e_if_eq G (pc := 54) (tgt := 116) dX7_countLost_54 (by decide) ?_ ?_
    · refine e_wk (L' := [some (.ref 10), some (.int l1), some (.int l2), none, none]) (And.intro rfl (And.intro rfl (And.intro rfl (trivial)))) ?_
      exact t_X7_countLost_B116 G k10 hk10 w2 l1 l2 
    · refine e_iload G (pc := 57) dX7_countLost_57 rfl ?_
      refine e_bipush G (pc := 59) (v := 7) dX7_countLost_59 (by decide) ?_
      refine e_icmp_ge G (pc := 61) (tgt := 116) dX7_countLost_61 (by decide) ?_ ?_
      · refine e_wk (L' := [some (.ref 10), some (.int l1), some (.int l2), none, none]) (And.intro rfl (And.intro rfl (And.intro rfl (trivial)))) ?_
        exact t_X7_countLost_B116 G k10 hk10 w2 l1 l2 
      · refine e_aload_n G (pc := 64) dX7_countLost_64 rfl rfl ?_
        refine e_getF G (pc := 65) sh_10 rfl lk_X7_11 dX7_countLost_65 ?_
        refine e_iload_n G (pc := 68) dX7_countLost_68 rfl rfl ?_
        refine e_iald G (pc := 69) sh_11 dX7_countLost_69 (fun v3 => ?_)
        refine e_aload_n G (pc := 70) dX7_countLost_70 rfl rfl ?_
        refine e_getF G (pc := 71) sh_10 rfl lk_X7_15 dX7_countLost_71 ?_
        refine e_bipush G (pc := 74) (v := 7) dX7_countLost_74 (by decide) ?_
        refine e_iload_n G (pc := 76) dX7_countLost_76 rfl rfl ?_
        refine e_imul G (pc := 77) dX7_countLost_77 ?_
        refine e_iload G (pc := 78) dX7_countLost_78 rfl ?_
        refine e_iadd G (pc := 80) dX7_countLost_80 ?_
        refine e_iald G (pc := 81) sh_12 dX7_countLost_81 (fun v4 => ?_)
        refine e_isub G (pc := 82) dX7_countLost_82 ?_
        refine e_aload_n G (pc := 83) dX7_countLost_83 rfl rfl ?_
        refine e_iload_n G (pc := 84) dX7_countLost_84 rfl rfl ?_
        refine e_cVi G (pc := 85) (As := [.int l2]) (st := [.int (v3 - v4)]) cv_X7_106 (c_X7_leastOf w2 l2 ) sh_10 (Nat.le_of_ble_eq_true rfl) rfl (Nat.le_of_ble_eq_true rfl) dX7_countLost_85 (fun r5 w6 => ?_)
        refine e_icmp_ge G (pc := 88) (tgt := 110) dX7_countLost_88 (by decide) ?_ ?_
        · exact t_X7_countLost_B110 G k10 k45 hk10 hk45 w6 l1 l2 l3 l4 
        · refine e_aload_n G (pc := 91) dX7_countLost_91 rfl rfl ?_
          refine e_getF G (pc := 92) sh_10 rfl lk_X7_24 dX7_countLost_92 ?_
          refine e_iload_n G (pc := 95) dX7_countLost_95 rfl rfl ?_
          refine e_bipush G (pc := 96) (v := 12) dX7_countLost_96 (by decide) ?_
          refine e_irem G (pc := 98) dX7_countLost_98 (by decide) ?_
          refine e_bipush G (pc := 99) (v := 7) dX7_countLost_99 (by decide) ?_
          refine e_imul G (pc := 101) dX7_countLost_101 ?_
          refine e_iload G (pc := 102) dX7_countLost_102 rfl ?_
          refine e_iadd G (pc := 104) dX7_countLost_104 ?_
          refine e_ti (fun v7 => ?_)
          refine e_dup2 G (pc := 105) dX7_countLost_105 rfl rfl ?_
          refine e_iald G (pc := 106) sh_15 dX7_countLost_106 (fun v8 => ?_)
          refine e_iconst G (pc := 107) (v := 1) dX7_countLost_107 (by decide) ?_
          refine e_iadd G (pc := 108) dX7_countLost_108 ?_
          refine e_iast G (pc := 109) sh_15 dX7_countLost_109 (fun w9 => ?_)
          exact t_X7_countLost_B110 G k10 k45 hk10 hk45 w9 l1 l2 l3 l4 
set_option maxRecDepth 100000 in
set_option maxHeartbeats 4000000 in
theorem t_X7_countLost_R45 {E : qE} {Γ : qC} (G : q_Ok E Γ RX7 cX7_countLost 5 (5)) (k10 : qW → Int32 → Int32 → Option (Unit × qW)) (hk10 : ∀ (w : qW) (l1 : Int32) (l2 : Int32), q_Ev E Γ 5 (q_Fv E Γ cX7_countLost) 10 [some (.ref 10), some (.int l1), some (.int l2), none, none] [] w (k10 w l1 l2)) : ∀ (fuel : Nat) (w : qW) (l1 : Int32) (l2 : Int32) (l3 : Int32) (l4 : Int32) , q_Ev E Γ 5 (q_Fv E Γ cX7_countLost) 45 [some (.ref 10), some (.int l1), some (.int l2), some (.int l3), some (.int l4)] [] w (f_X7_countLost_R45 k10 fuel w l1 l2 l3 l4) := by
  intro fuel
  induction fuel with
  | zero => intros; exact e_none
  | succ fuel ih =>
    intro w l1 l2 l3 l4 
    exact t_X7_countLost_B45 G k10 _ hk10 ih w l1 l2 l3 l4 
set_option maxRecDepth 100000 in
set_option maxHeartbeats 4000000 in
theorem t_X7_countLost_B41 {E : qE} {Γ : qC} (G : q_Ok E Γ RX7 cX7_countLost 5 (5)) (k10 : qW → Int32 → Int32 → Option (Unit × qW)) (hk10 : ∀ (w : qW) (l1 : Int32) (l2 : Int32), q_Ev E Γ 5 (q_Fv E Γ cX7_countLost) 10 [some (.ref 10), some (.int l1), some (.int l2), none, none] [] w (k10 w l1 l2)) (w : qW) (l1 : Int32) (l2 : Int32) (s0 : Int32) : q_Ev E Γ 5 (q_Fv E Γ cX7_countLost) 41 [some (.ref 10), some (.int l1), some (.int l2), none, none] [.int s0] w (f_X7_countLost_B41 k10 w l1 l2 s0) := by
  unfold f_X7_countLost_B41
  refine e_istore_n G (pc := 41) (L' := [some (.ref 10), some (.int l1), some (.int l2), some (.int s0), none]) dX7_countLost_41 rfl (Nat.le_of_ble_eq_true rfl) rfl ?_
  refine e_iconst G (pc := 42) (v := 0) dX7_countLost_42 (by decide) ?_
  refine e_istore G (pc := 43) (L' := [some (.ref 10), some (.int l1), some (.int l2), some (.int s0), some (.int 0)]) dX7_countLost_43 (Nat.le_of_ble_eq_true rfl) rfl ?_
  exact t_X7_countLost_R45 G k10 hk10  q_fuel w l1 l2 s0 0 
set_option maxRecDepth 100000 in
set_option maxHeartbeats 4000000 in
theorem t_X7_countLost_B36 {E : qE} {Γ : qC} (G : q_Ok E Γ RX7 cX7_countLost 5 (5)) (k10 : qW → Int32 → Int32 → Option (Unit × qW)) (hk10 : ∀ (w : qW) (l1 : Int32) (l2 : Int32), q_Ev E Γ 5 (q_Fv E Γ cX7_countLost) 10 [some (.ref 10), some (.int l1), some (.int l2), none, none] [] w (k10 w l1 l2)) (w : qW) (l1 : Int32) (l2 : Int32) : q_Ev E Γ 5 (q_Fv E Γ cX7_countLost) 36 [some (.ref 10), some (.int l1), some (.int l2), none, none] [] w (f_X7_countLost_B36 k10 w l1 l2) := by
  unfold f_X7_countLost_B36
  refine e_iconst G (pc := 36) (v := 1) dX7_countLost_36 (by decide) ?_
  refine e_goto G (pc := 37) (tgt := 41) dX7_countLost_37 (by decide) ?_
  exact t_X7_countLost_B41 G k10 hk10 w l1 l2 1 
set_option maxRecDepth 100000 in
set_option maxHeartbeats 4000000 in
theorem t_X7_countLost_B10 {E : qE} {Γ : qC} (G : q_Ok E Γ RX7 cX7_countLost 5 (5)) (k10 : qW → Int32 → Int32 → Option (Unit × qW)) (hk10 : ∀ (w : qW) (l1 : Int32) (l2 : Int32), q_Ev E Γ 5 (q_Fv E Γ cX7_countLost) 10 [some (.ref 10), some (.int l1), some (.int l2), none, none] [] w (k10 w l1 l2)) (w : qW) (l1 : Int32) (l2 : Int32) : q_Ev E Γ 5 (q_Fv E Γ cX7_countLost) 10 [some (.ref 10), some (.int l1), some (.int l2), none, none] [] w (f_X7_countLost_B10 k10 w l1 l2) := by
  unfold f_X7_countLost_B10
  refine e_iload_n G (pc := 10) dX7_countLost_10 rfl rfl ?_
  refine e_bipush G (pc := 11) (v := 12) dX7_countLost_11 (by decide) ?_
  refine e_aload_n G (pc := 13) dX7_countLost_13 rfl rfl ?_
  refine e_getF G (pc := 14) sh_10 rfl lk_X7_27 dX7_countLost_14 ?_
  refine e_getI G (pc := 17) sh_1 rfl lk_X7_68 dX7_countLost_17 ?_
  refine e_imul G (pc := 20) dX7_countLost_20 ?_
  refine e_icmp_ge G (pc := 21) (tgt := 122) dX7_countLost_21 (by decide) ?_ ?_
  · exact e_vret dX7_countLost_122
  · refine e_iload_n G (pc := 24) dX7_countLost_24 rfl rfl ?_
    refine e_if_lt G (pc := 25) (tgt := 36) dX7_countLost_25 (by decide) ?_ ?_
    · exact t_X7_countLost_B36 G k10 hk10 w l1 l2 
    · refine e_iload_n G (pc := 28) dX7_countLost_28 rfl rfl ?_
      refine e_iload_n G (pc := 29) dX7_countLost_29 rfl rfl ?_
      refine e_bipush G (pc := 30) (v := 12) dX7_countLost_30 (by decide) ?_
      refine e_idiv G (pc := 32) dX7_countLost_32 (by decide) ?_
      refine e_icmp_ne G (pc := 33) (tgt := 40) dX7_countLost_33 (by decide) ?_ ?_
      · refine e_iconst G (pc := 40) (v := 0) dX7_countLost_40 (by decide) ?_
        exact t_X7_countLost_B41 G k10 hk10 w l1 l2 0 
      · exact t_X7_countLost_B36 G k10 hk10 w l1 l2 
set_option maxRecDepth 100000 in
set_option maxHeartbeats 4000000 in
theorem t_X7_countLost_R10 {E : qE} {Γ : qC} (G : q_Ok E Γ RX7 cX7_countLost 5 (5)) : ∀ (fuel : Nat) (w : qW) (l1 : Int32) (l2 : Int32) , q_Ev E Γ 5 (q_Fv E Γ cX7_countLost) 10 [some (.ref 10), some (.int l1), some (.int l2), none, none] [] w (f_X7_countLost_R10 fuel w l1 l2) := by
  intro fuel
  induction fuel with
  | zero => intros; exact e_none
  | succ fuel ih =>
    intro w l1 l2 
    exact t_X7_countLost_B10 G _ ih w l1 l2 
set_option maxRecDepth 100000 in
set_option maxHeartbeats 4000000 in
theorem t_X7_countLost {E : qE} {Γ : qC} (G : q_Ok E Γ RX7 cX7_countLost 5 (5)) (w : qW) (a1 : Int32) : q_Ev E Γ 5 (q_Fv E Γ cX7_countLost) 0 [some (.ref 10), some (.int a1), none, none, none] [] w (f_X7_countLost w a1) := by
  unfold f_X7_countLost
  refine e_aload_n G (pc := 0) dX7_countLost_0 rfl rfl ?_
  refine e_getF G (pc := 1) sh_10 rfl lk_X7_24 dX7_countLost_1 ?_
  refine e_iconst G (pc := 4) (v := 0) dX7_countLost_4 (by decide) ?_
  refine e_cSv G (pc := 5) (ci := 0) (id := 0) (sl := []) (As := [.ref 15, .int 0]) (st := []) cs_X7_127 (c_J7_fill_53178 84 w 15 0 sh_15) (Nat.le_of_ble_eq_true rfl) rfl (Nat.le_of_ble_eq_true rfl) dX7_countLost_5 (fun r1 w2 => ?_)
  refine e_iconst G (pc := 8) (v := 0) dX7_countLost_8 (by decide) ?_
  refine e_istore_n G (pc := 9) (L' := [some (.ref 10), some (.int a1), some (.int 0), none, none]) dX7_countLost_9 rfl (Nat.le_of_ble_eq_true rfl) rfl ?_
  exact t_X7_countLost_R10 G  q_fuel w2 a1 0 
set_option maxRecDepth 100000 in
set_option maxHeartbeats 4000000 in
theorem c_X7_countLost (w : qW) (a1 : Int32) : q_AC q_vv none (5) yX7_countLost cX7_countLost 5 [.ref 10, .int a1] w (f_X7_countLost w a1) := q_met_v (k := 3) (by decide +kernel) rfl rfl rfl (fun _ _ G => t_X7_countLost G w a1 )
set_option maxRecDepth 100000 in
set_option maxHeartbeats 4000000 in
theorem t_X7_missesDrawn_B104 {E : qE} {Γ : qC} (G : q_Ok E Γ RX7 cX7_missesDrawn 9 (7)) (k22 : qW → Int32 → Int32 → Int32 → Int32 → Int32 → Option (Int32 × qW)) (hk22 : ∀ (w : qW) (l2 : Int32) (l3 : Int32) (l5 : Int32) (l6 : Int32) (l7 : Int32), q_Ev E Γ 9 (q_Fi E Γ cX7_missesDrawn) 22 [some (.ref 10), none, some (.int l2), some (.int l3), none, some (.int l5), some (.int l6), some (.int l7), none] [] w (k22 w l2 l3 l5 l6 l7)) (w : qW) (l2 : Int32) (l3 : Int32) (l5 : Int32) (l6 : Int32) (l7 : Int32) : q_Ev E Γ 9 (q_Fi E Γ cX7_missesDrawn) 104 [some (.ref 10), none, some (.int l2), some (.int l3), none, some (.int l5), some (.int l6), some (.int l7), none] [] w (f_X7_missesDrawn_B104 k22 w l2 l3 l5 l6 l7) := by
  unfold f_X7_missesDrawn_B104
  refine e_iinc G (pc := 104) (x := l7) (v := l7 + 1) (L' := fun v1 => [some (.ref 10), none, some (.int l2), some (.int l3), none, some (.int l5), some (.int l6), some (.int v1), none]) dX7_missesDrawn_104 (Nat.le_of_ble_eq_true rfl) rfl (by rfl) (fun _ => rfl) (fun v1 => ?_)
  refine e_goto G (pc := 107) (tgt := 22) dX7_missesDrawn_107 (by decide) ?_
  exact hk22 w l2 l3 l5 l6 v1 
set_option maxRecDepth 100000 in
set_option maxHeartbeats 4000000 in
theorem t_X7_missesDrawn_B81 {E : qE} {Γ : qC} (G : q_Ok E Γ RX7 cX7_missesDrawn 9 (7)) (k22 : qW → Int32 → Int32 → Int32 → Int32 → Int32 → Option (Int32 × qW)) (hk22 : ∀ (w : qW) (l2 : Int32) (l3 : Int32) (l5 : Int32) (l6 : Int32) (l7 : Int32), q_Ev E Γ 9 (q_Fi E Γ cX7_missesDrawn) 22 [some (.ref 10), none, some (.int l2), some (.int l3), none, some (.int l5), some (.int l6), some (.int l7), none] [] w (k22 w l2 l3 l5 l6 l7)) (w : qW) (l2 : Int32) (l3 : Int32) (l5 : Int32) (l6 : Int32) (l7 : Int32) (s0 : Int32) : q_Ev E Γ 9 (q_Fi E Γ cX7_missesDrawn) 81 [some (.ref 10), none, some (.int l2), some (.int l3), none, some (.int l5), some (.int l6), some (.int l7), none] [.int s0] w (f_X7_missesDrawn_B81 k22 w l2 l3 l5 l6 l7 s0) := by
  unfold f_X7_missesDrawn_B81
  refine e_istore G (pc := 81) (L' := [some (.ref 10), none, some (.int l2), some (.int l3), none, some (.int l5), some (.int l6), some (.int l7), some (.int s0)]) dX7_missesDrawn_81 (Nat.le_of_ble_eq_true rfl) rfl ?_
  refine e_iload G (pc := 83) dX7_missesDrawn_83 rfl ?_
  refine e_aload_n G (pc := 85) dX7_missesDrawn_85 rfl rfl ?_
  refine e_getF G (pc := 86) sh_10 rfl lk_X7_24 dX7_missesDrawn_86 ?_
  refine e_iload G (pc := 89) dX7_missesDrawn_89 rfl ?_
  refine e_bipush G (pc := 91) (v := 12) dX7_missesDrawn_91 (by decide) ?_
  refine e_irem G (pc := 93) dX7_missesDrawn_93 (by decide) ?_
  refine e_bipush G (pc := 94) (v := 7) dX7_missesDrawn_94 (by decide) ?_
  refine e_imul G (pc := 96) dX7_missesDrawn_96 ?_
  refine e_iload G (pc := 97) dX7_missesDrawn_97 rfl ?_
  refine e_iadd G (pc := 99) dX7_missesDrawn_99 ?_
  refine e_iald G (pc := 100) sh_15 dX7_missesDrawn_100 (fun v1 => ?_)
  refine e_iadd G (pc := 101) dX7_missesDrawn_101 ?_
  refine e_ti (fun v2 => ?_)
  refine e_istore G (pc := 102) (L' := [some (.ref 10), none, some (.int l2), some (.int l3), none, some (.int l5), some (.int v2), some (.int l7), some (.int s0)]) dX7_missesDrawn_102 (Nat.le_of_ble_eq_true rfl) rfl ?_
  refine e_wk (L' := [some (.ref 10), none, some (.int l2), some (.int l3), none, some (.int l5), some (.int v2), some (.int l7), none]) (And.intro rfl (And.intro rfl (And.intro rfl (And.intro rfl (And.intro rfl (And.intro rfl (trivial))))))) ?_
  exact t_X7_missesDrawn_B104 G k22 hk22 w l2 l3 l5 v2 l7 
set_option maxRecDepth 100000 in
set_option maxHeartbeats 4000000 in
theorem t_X7_missesDrawn_B22 {E : qE} {Γ : qC} (G : q_Ok E Γ RX7 cX7_missesDrawn 9 (7)) (k22 : qW → Int32 → Int32 → Int32 → Int32 → Int32 → Option (Int32 × qW)) (hk22 : ∀ (w : qW) (l2 : Int32) (l3 : Int32) (l5 : Int32) (l6 : Int32) (l7 : Int32), q_Ev E Γ 9 (q_Fi E Γ cX7_missesDrawn) 22 [some (.ref 10), none, some (.int l2), some (.int l3), none, some (.int l5), some (.int l6), some (.int l7), none] [] w (k22 w l2 l3 l5 l6 l7)) (w : qW) (l2 : Int32) (l3 : Int32) (l5 : Int32) (l6 : Int32) (l7 : Int32) : q_Ev E Γ 9 (q_Fi E Γ cX7_missesDrawn) 22 [some (.ref 10), none, some (.int l2), some (.int l3), none, some (.int l5), some (.int l6), some (.int l7), none] [] w (f_X7_missesDrawn_B22 k22 w l2 l3 l5 l6 l7) := by
  unfold f_X7_missesDrawn_B22
  refine e_iload G (pc := 22) dX7_missesDrawn_22 rfl ?_
  refine e_iload_n G (pc := 24) dX7_missesDrawn_24 rfl rfl ?_
  refine e_bipush G (pc := 25) (v := 12) dX7_missesDrawn_25 (by decide) ?_
  refine e_imul G (pc := 27) dX7_missesDrawn_27 ?_
  refine e_icmp_ge G (pc := 28) (tgt := 110) dX7_missesDrawn_28 (by decide) ?_ ?_
  · refine e_iload G (pc := 110) dX7_missesDrawn_110 rfl ?_
    exact e_iret dX7_missesDrawn_112
  · refine e_iload G (pc := 31) dX7_missesDrawn_31 rfl ?_
    refine e_ldc G (pc := 33) kc_X7_126 dX7_missesDrawn_33 ?_
    refine e_imul G (pc := 35) dX7_missesDrawn_35 ?_
    refine e_sipush G (pc := 36) (v := 12345) dX7_missesDrawn_36 (by decide) ?_
    refine e_iadd G (pc := 39) dX7_missesDrawn_39 ?_
    refine e_ti (fun v1 => ?_)
    refine e_istore G (pc := 40) (L' := [some (.ref 10), none, some (.int l2), some (.int l3), none, some (.int v1), some (.int l6), some (.int l7), none]) dX7_missesDrawn_40 (Nat.le_of_ble_eq_true rfl) rfl ?_
    refine e_iload G (pc := 42) dX7_missesDrawn_42 rfl ?_
    refine e_bipush G (pc := 44) (v := 8) dX7_missesDrawn_44 (by decide) ?_
    refine e_iushr G (pc := 46) dX7_missesDrawn_46 ?_
    refine e_bipush G (pc := 47) (v := 12) dX7_missesDrawn_47 (by decide) ?_
    refine e_irem G (pc := 49) dX7_missesDrawn_49 (by decide) ?_
    refine e_iload_n G (pc := 50) dX7_missesDrawn_50 rfl rfl ?_
    refine e_icmp_lt G (pc := 51) (tgt := 104) dX7_missesDrawn_51 (by decide) ?_ ?_
    · exact t_X7_missesDrawn_B104 G k22 hk22 w l2 l3 v1 l6 l7 
    · refine e_aload_n G (pc := 54) dX7_missesDrawn_54 rfl rfl ?_
      refine e_getF G (pc := 55) sh_10 rfl lk_X7_27 dX7_missesDrawn_55 ?_
      refine e_getI G (pc := 58) sh_1 rfl lk_X7_89 dX7_missesDrawn_58 ?_
      refine e_if_ne G (pc := 61) (tgt := 68) dX7_missesDrawn_61 (by decide) ?_ ?_
      · refine e_iload G (pc := 68) dX7_missesDrawn_68 rfl ?_
        refine e_bipush G (pc := 70) (v := 16) dX7_missesDrawn_70 (by decide) ?_
        refine e_iushr G (pc := 72) dX7_missesDrawn_72 ?_
        refine e_aload_n G (pc := 73) dX7_missesDrawn_73 rfl rfl ?_
        refine e_getF G (pc := 74) sh_10 rfl lk_X7_27 dX7_missesDrawn_74 ?_
        refine e_getI G (pc := 77) sh_1 rfl lk_X7_89 dX7_missesDrawn_77 ?_
        refine e_irem_z G (pc := 80) dX7_missesDrawn_80 ?_
        exact t_X7_missesDrawn_B81 G k22 hk22 w l2 l3 v1 l6 l7 (q_rem (q_ush v1 16) (q_I w 1 1)) 
      · refine e_iconst G (pc := 64) (v := 0) dX7_missesDrawn_64 (by decide) ?_
        refine e_goto G (pc := 65) (tgt := 81) dX7_missesDrawn_65 (by decide) ?_
        exact t_X7_missesDrawn_B81 G k22 hk22 w l2 l3 v1 l6 l7 0 
set_option maxRecDepth 100000 in
set_option maxHeartbeats 4000000 in
theorem t_X7_missesDrawn_R22 {E : qE} {Γ : qC} (G : q_Ok E Γ RX7 cX7_missesDrawn 9 (7)) : ∀ (fuel : Nat) (w : qW) (l2 : Int32) (l3 : Int32) (l5 : Int32) (l6 : Int32) (l7 : Int32) , q_Ev E Γ 9 (q_Fi E Γ cX7_missesDrawn) 22 [some (.ref 10), none, some (.int l2), some (.int l3), none, some (.int l5), some (.int l6), some (.int l7), none] [] w (f_X7_missesDrawn_R22 fuel w l2 l3 l5 l6 l7) := by
  intro fuel
  induction fuel with
  | zero => intros; exact e_none
  | succ fuel ih =>
    intro w l2 l3 l5 l6 l7 
    exact t_X7_missesDrawn_B22 G _ ih w l2 l3 l5 l6 l7 
set_option maxRecDepth 100000 in
set_option maxHeartbeats 4000000 in
theorem t_X7_missesDrawn {E : qE} {Γ : qC} (G : q_Ok E Γ RX7 cX7_missesDrawn 9 (7)) (w : qW) (a1 : Int32) (a2 : Int32) (a3 : Int32) (a4 : Int32) : q_Ev E Γ 9 (q_Fi E Γ cX7_missesDrawn) 0 [some (.ref 10), some (.int a1), some (.int a2), some (.int a3), some (.int a4), none, none, none, none] [] w (f_X7_missesDrawn w a1 a2 a3 a4) := by
  unfold f_X7_missesDrawn
  refine e_aload_n G (pc := 0) dX7_missesDrawn_0 rfl rfl ?_
  refine e_iconst G (pc := 1) (v := 0) dX7_missesDrawn_1 (by decide) ?_
  refine e_bipush G (pc := 2) (v := 11) dX7_missesDrawn_2 (by decide) ?_
  refine e_cVv G (pc := 4) (As := [.int 0, .int 11]) (st := []) cv_X7_46 (c_X7_weigh w 0 11 ) sh_10 (Nat.le_of_ble_eq_true rfl) rfl (Nat.le_of_ble_eq_true rfl) dX7_missesDrawn_4 (fun r1 w2 => ?_)
  refine e_aload_n G (pc := 7) dX7_missesDrawn_7 rfl rfl ?_
  refine e_iload G (pc := 8) dX7_missesDrawn_8 rfl ?_
  refine e_cVv G (pc := 10) (As := [.int a4]) (st := []) cv_X7_122 (c_X7_countLost w2 a4 ) sh_10 (Nat.le_of_ble_eq_true rfl) rfl (Nat.le_of_ble_eq_true rfl) dX7_missesDrawn_10 (fun r3 w4 => ?_)
  refine e_iload_n G (pc := 13) dX7_missesDrawn_13 rfl rfl ?_
  refine e_istore G (pc := 14) (L' := [some (.ref 10), some (.int a1), some (.int a2), some (.int a3), some (.int a4), some (.int a1), none, none, none]) dX7_missesDrawn_14 (Nat.le_of_ble_eq_true rfl) rfl ?_
  refine e_iconst G (pc := 16) (v := 0) dX7_missesDrawn_16 (by decide) ?_
  refine e_istore G (pc := 17) (L' := [some (.ref 10), some (.int a1), some (.int a2), some (.int a3), some (.int a4), some (.int a1), some (.int 0), none, none]) dX7_missesDrawn_17 (Nat.le_of_ble_eq_true rfl) rfl ?_
  refine e_iconst G (pc := 19) (v := 0) dX7_missesDrawn_19 (by decide) ?_
  refine e_istore G (pc := 20) (L' := [some (.ref 10), some (.int a1), some (.int a2), some (.int a3), some (.int a4), some (.int a1), some (.int 0), some (.int 0), none]) dX7_missesDrawn_20 (Nat.le_of_ble_eq_true rfl) rfl ?_
  refine e_wk (L' := [some (.ref 10), none, some (.int a2), some (.int a3), none, some (.int a1), some (.int 0), some (.int 0), none]) (And.intro rfl (And.intro rfl (And.intro rfl (And.intro rfl (And.intro rfl (And.intro rfl (trivial))))))) ?_
  exact t_X7_missesDrawn_R22 G  q_fuel w4 a2 a3 a1 0 0 
set_option maxRecDepth 100000 in
set_option maxHeartbeats 4000000 in
theorem c_X7_missesDrawn (w : qW) (a1 : Int32) (a2 : Int32) (a3 : Int32) (a4 : Int32) : q_AC q_vi (some .int) (7) yX7_missesDrawn cX7_missesDrawn 9 [.ref 10, .int a1, .int a2, .int a3, .int a4] w (f_X7_missesDrawn w a1 a2 a3 a4) := q_met_i (k := 4) (by decide +kernel) rfl rfl rfl (fun _ _ G => t_X7_missesDrawn G w a1 a2 a3 a4 )
set_option maxRecDepth 100000 in
set_option maxHeartbeats 4000000 in
theorem t_X10_man {E : qE} {Γ : qC} (G : q_Ok E Γ RX10 cX10_man 3 (5)) (w : qW) (a1 : Int32) (a2 : Int32) : q_Ev E Γ 3 (q_Fi E Γ cX10_man) 0 [some (.ref 0), some (.int a1), some (.int a2)] [] w (f_X10_man w a1 a2) := by
  unfold f_X10_man
  refine e_aload_n G (pc := 0) dX10_man_0 rfl rfl ?_
  refine e_getF G (pc := 1) sh_0 rfl lk_X10_10 dX10_man_1 ?_
  refine e_iconst G (pc := 4) (v := 0) dX10_man_4 (by decide) ?_
  refine e_iload_n G (pc := 5) dX10_man_5 rfl rfl ?_
  refine e_cVi G (pc := 6) (As := [.int 0, .int a1]) (st := []) cv_X10_85 (c_X4_fits w 0 a1 ) sh_1 (Nat.le_of_ble_eq_true rfl) rfl (Nat.le_of_ble_eq_true rfl) dX10_man_6 (fun r1 w2 => ?_)
  refine e_if_eq G (pc := 9) (tgt := 24) dX10_man_9 (by decide) ?_ ?_
  · refine e_iconst G (pc := 24) (v := (-1)) dX10_man_24 (by decide) ?_
    exact e_iret dX10_man_25
  · refine e_aload_n G (pc := 12) dX10_man_12 rfl rfl ?_
    refine e_getF G (pc := 13) sh_0 rfl lk_X10_10 dX10_man_13 ?_
    refine e_iconst G (pc := 16) (v := 1) dX10_man_16 (by decide) ?_
    refine e_iload_n G (pc := 17) dX10_man_17 rfl rfl ?_
    refine e_cVi G (pc := 18) (As := [.int 1, .int a2]) (st := []) cv_X10_85 (c_X4_fits w2 1 a2 ) sh_1 (Nat.le_of_ble_eq_true rfl) rfl (Nat.le_of_ble_eq_true rfl) dX10_man_18 (fun r3 w4 => ?_)
    refine e_if_ne G (pc := 21) (tgt := 26) dX10_man_21 (by decide) ?_ ?_
    · refine e_aload_n G (pc := 26) dX10_man_26 rfl rfl ?_
      refine e_getF G (pc := 27) sh_0 rfl lk_X10_10 dX10_man_27 ?_
      refine e_iload_n G (pc := 30) dX10_man_30 rfl rfl ?_
      refine e_iload_n G (pc := 31) dX10_man_31 rfl rfl ?_
      refine e_cVi G (pc := 32) (As := [.int a1, .int a2]) (st := []) cv_X10_89 (c_X4_addMan w4 a1 a2 ) sh_1 (Nat.le_of_ble_eq_true rfl) rfl (Nat.le_of_ble_eq_true rfl) dX10_man_32 (fun r5 w6 => ?_)
      exact e_iret dX10_man_35
    · refine e_iconst G (pc := 24) (v := (-1)) dX10_man_24 (by decide) ?_
      exact e_iret dX10_man_25
set_option maxRecDepth 100000 in
set_option maxHeartbeats 4000000 in
theorem c_X10_man (w : qW) (a1 : Int32) (a2 : Int32) : q_AC q_vi (some .int) (5) yX10_man cX10_man 3 [.ref 0, .int a1, .int a2] w (f_X10_man w a1 a2) := q_met_i (k := 0) (by decide +kernel) rfl rfl rfl (fun _ _ G => t_X10_man G w a1 a2 )
set_option maxRecDepth 100000 in
set_option maxHeartbeats 4000000 in
theorem t_X10_sitter {E : qE} {Γ : qC} (G : q_Ok E Γ RX10 cX10_sitter 3 (5)) (w : qW) (a1 : Int32) (a2 : Int32) : q_Ev E Γ 3 (q_Fi E Γ cX10_sitter) 0 [some (.ref 0), some (.int a1), some (.int a2)] [] w (f_X10_sitter w a1 a2) := by
  unfold f_X10_sitter
  refine e_aload_n G (pc := 0) dX10_sitter_0 rfl rfl ?_
  refine e_getF G (pc := 1) sh_0 rfl lk_X10_10 dX10_sitter_1 ?_
  refine e_iconst G (pc := 4) (v := 4) dX10_sitter_4 (by decide) ?_
  refine e_iload_n G (pc := 5) dX10_sitter_5 rfl rfl ?_
  refine e_cVi G (pc := 6) (As := [.int 4, .int a1]) (st := []) cv_X10_85 (c_X4_fits w 4 a1 ) sh_1 (Nat.le_of_ble_eq_true rfl) rfl (Nat.le_of_ble_eq_true rfl) dX10_sitter_6 (fun r1 w2 => ?_)
  refine e_if_eq G (pc := 9) (tgt := 24) dX10_sitter_9 (by decide) ?_ ?_
  · refine e_iconst G (pc := 24) (v := (-1)) dX10_sitter_24 (by decide) ?_
    exact e_iret dX10_sitter_25
  · refine e_aload_n G (pc := 12) dX10_sitter_12 rfl rfl ?_
    refine e_getF G (pc := 13) sh_0 rfl lk_X10_10 dX10_sitter_13 ?_
    refine e_iconst G (pc := 16) (v := 5) dX10_sitter_16 (by decide) ?_
    refine e_iload_n G (pc := 17) dX10_sitter_17 rfl rfl ?_
    refine e_cVi G (pc := 18) (As := [.int 5, .int a2]) (st := []) cv_X10_85 (c_X4_fits w2 5 a2 ) sh_1 (Nat.le_of_ble_eq_true rfl) rfl (Nat.le_of_ble_eq_true rfl) dX10_sitter_18 (fun r3 w4 => ?_)
    refine e_if_ne G (pc := 21) (tgt := 26) dX10_sitter_21 (by decide) ?_ ?_
    · refine e_aload_n G (pc := 26) dX10_sitter_26 rfl rfl ?_
      refine e_getF G (pc := 27) sh_0 rfl lk_X10_10 dX10_sitter_27 ?_
      refine e_iload_n G (pc := 30) dX10_sitter_30 rfl rfl ?_
      refine e_iload_n G (pc := 31) dX10_sitter_31 rfl rfl ?_
      refine e_bipush G (pc := 32) (v := 6) dX10_sitter_32 (by decide) ?_
      refine e_cVi G (pc := 34) (As := [.int a1, .int a2, .int 6]) (st := []) cv_X10_93 (c_X4_addSitter w4 a1 a2 6 ) sh_1 (Nat.le_of_ble_eq_true rfl) rfl (Nat.le_of_ble_eq_true rfl) dX10_sitter_34 (fun r5 w6 => ?_)
      exact e_iret dX10_sitter_37
    · refine e_iconst G (pc := 24) (v := (-1)) dX10_sitter_24 (by decide) ?_
      exact e_iret dX10_sitter_25
set_option maxRecDepth 100000 in
set_option maxHeartbeats 4000000 in
theorem c_X10_sitter (w : qW) (a1 : Int32) (a2 : Int32) : q_AC q_vi (some .int) (5) yX10_sitter cX10_sitter 3 [.ref 0, .int a1, .int a2] w (f_X10_sitter w a1 a2) := q_met_i (k := 0) (by decide +kernel) rfl rfl rfl (fun _ _ G => t_X10_sitter G w a1 a2 )
set_option maxRecDepth 100000 in
set_option maxHeartbeats 4000000 in
theorem t_X10_isShelf {E : qE} {Γ : qC} (G : q_Ok E Γ RX10 cX10_isShelf 1 (2)) (w : qW) (a1 : Int32) : q_Ev E Γ 1 (q_Fz E Γ cX10_isShelf) 0 [some (.int a1)] [] w (f_X10_isShelf w a1) := by
  unfold f_X10_isShelf
  refine e_iload_n G (pc := 0) dX10_isShelf_0 rfl rfl ?_
  refine e_if_lt G (pc := 1) (tgt := 14) dX10_isShelf_1 (by decide) ?_ ?_
  · refine e_iconst G (pc := 14) (v := 0) dX10_isShelf_14 (by decide) ?_
    exact e_zret dX10_isShelf_15
  · refine e_iload_n G (pc := 4) dX10_isShelf_4 rfl rfl ?_
    refine e_bipush G (pc := 5) (v := 6) dX10_isShelf_5 (by decide) ?_
    refine e_icmp_ge G (pc := 7) (tgt := 14) dX10_isShelf_7 (by decide) ?_ ?_
    · refine e_iconst G (pc := 14) (v := 0) dX10_isShelf_14 (by decide) ?_
      exact e_zret dX10_isShelf_15
    · refine e_iconst G (pc := 10) (v := 1) dX10_isShelf_10 (by decide) ?_
      refine e_goto G (pc := 11) (tgt := 15) dX10_isShelf_11 (by decide) ?_
      exact e_zret dX10_isShelf_15
set_option maxRecDepth 100000 in
set_option maxHeartbeats 4000000 in
theorem c_X10_isShelf (w : qW) (a1 : Int32) : q_AC q_vi (some .boolean) (2) yX10_isShelf cX10_isShelf 1 [.int a1] w (f_X10_isShelf w a1) := q_met_z (k := 0) (by decide +kernel) rfl rfl rfl (fun _ _ G => t_X10_isShelf G w a1 )
set_option maxRecDepth 100000 in
set_option maxHeartbeats 4000000 in
theorem t_X10_sitterFrom {E : qE} {Γ : qC} (G : q_Ok E Γ RX10 cX10_sitterFrom 8 (5)) (w : qW) (id1 : Nat) (a2 : Int64) (hs1 : q_shelf id1) : q_Ev E Γ 8 (q_Fz E Γ cX10_sitterFrom) 0 [some (.ref 0), some (.ref id1), some (.long a2), none, none, none, none, none] [] w (f_X10_sitterFrom w id1 a2) := by
  unfold f_X10_sitterFrom
  refine e_lload_n G (pc := 0) dX10_sitterFrom_0 rfl rfl ?_
  refine e_lconst G (pc := 1) (v := 0) dX10_sitterFrom_1 (by decide) ?_
  refine e_lcmp G (pc := 2) dX10_sitterFrom_2 ?_
  refine e_if_lt G (pc := 3) (tgt := 20) dX10_sitterFrom_3 (by decide) ?_ ?_
  · refine e_iconst G (pc := 20) (v := 0) dX10_sitterFrom_20 (by decide) ?_
    exact e_zret dX10_sitterFrom_21
  · refine e_lload_n G (pc := 6) dX10_sitterFrom_6 rfl rfl ?_
    refine e_ldc2 G (pc := 7) kl_X10_348 dX10_sitterFrom_7 ?_
    refine e_ladd G (pc := 10) dX10_sitterFrom_10 ?_
    refine e_aload_n G (pc := 11) dX10_sitterFrom_11 rfl rfl ?_
    refine e_cVi G (pc := 12) (As := []) (st := [.long (a2 + 2)]) cv_X10_350 (c_X6_size w id1 hs1) hs1.1 (Nat.le_of_ble_eq_true rfl) rfl (Nat.le_of_ble_eq_true rfl) dX10_sitterFrom_12 (fun r1 w2 => ?_)
    refine e_i2l G (pc := 15) dX10_sitterFrom_15 ?_
    refine e_lcmp G (pc := 16) dX10_sitterFrom_16 ?_
    refine e_if_lt G (pc := 17) (tgt := 22) dX10_sitterFrom_17 (by decide) ?_ ?_
    · refine e_lload_n G (pc := 22) dX10_sitterFrom_22 rfl rfl ?_
      refine e_l2i G (pc := 23) dX10_sitterFrom_23 ?_
      refine e_ti (fun v3 => ?_)
      refine e_istore G (pc := 24) (L' := [some (.ref 0), some (.ref id1), some (.long a2), none, some (.int v3), none, none, none]) dX10_sitterFrom_24 (Nat.le_of_ble_eq_true rfl) rfl ?_
      refine e_aload_n G (pc := 26) dX10_sitterFrom_26 rfl rfl ?_
      refine e_iload G (pc := 27) dX10_sitterFrom_27 rfl ?_
      refine e_cVl G (pc := 29) (As := [.int v3]) (st := []) cv_X10_323 (c_X6_get w2 id1 v3 hs1) hs1.1 (Nat.le_of_ble_eq_true rfl) rfl (Nat.le_of_ble_eq_true rfl) dX10_sitterFrom_29 (fun r4 w5 => ?_)
      refine e_l2i G (pc := 32) dX10_sitterFrom_32 ?_
      refine e_ti (fun v6 => ?_)
      refine e_istore G (pc := 33) (L' := [some (.ref 0), some (.ref id1), some (.long a2), none, some (.int v3), some (.int v6), none, none]) dX10_sitterFrom_33 (Nat.le_of_ble_eq_true rfl) rfl ?_
      refine e_aload_n G (pc := 35) dX10_sitterFrom_35 rfl rfl ?_
      refine e_iload G (pc := 36) dX10_sitterFrom_36 rfl ?_
      refine e_iconst G (pc := 38) (v := 1) dX10_sitterFrom_38 (by decide) ?_
      refine e_iadd G (pc := 39) dX10_sitterFrom_39 ?_
      refine e_cVl G (pc := 40) (As := [.int (v3 + 1)]) (st := []) cv_X10_323 (c_X6_get w5 id1 (v3 + 1) hs1) hs1.1 (Nat.le_of_ble_eq_true rfl) rfl (Nat.le_of_ble_eq_true rfl) dX10_sitterFrom_40 (fun r7 w8 => ?_)
      refine e_l2i G (pc := 43) dX10_sitterFrom_43 ?_
      refine e_ti (fun v9 => ?_)
      refine e_istore G (pc := 44) (L' := [some (.ref 0), some (.ref id1), some (.long a2), none, some (.int v3), some (.int v6), some (.int v9), none]) dX10_sitterFrom_44 (Nat.le_of_ble_eq_true rfl) rfl ?_
      refine e_aload_n G (pc := 46) dX10_sitterFrom_46 rfl rfl ?_
      refine e_iload G (pc := 47) dX10_sitterFrom_47 rfl ?_
      refine e_iconst G (pc := 49) (v := 2) dX10_sitterFrom_49 (by decide) ?_
      refine e_iadd G (pc := 50) dX10_sitterFrom_50 ?_
      refine e_cVl G (pc := 51) (As := [.int (v3 + 2)]) (st := []) cv_X10_323 (c_X6_get w8 id1 (v3 + 2) hs1) hs1.1 (Nat.le_of_ble_eq_true rfl) rfl (Nat.le_of_ble_eq_true rfl) dX10_sitterFrom_51 (fun r10 w11 => ?_)
      refine e_l2i G (pc := 54) dX10_sitterFrom_54 ?_
      refine e_ti (fun v12 => ?_)
      refine e_istore G (pc := 55) (L' := [some (.ref 0), some (.ref id1), some (.long a2), none, some (.int v3), some (.int v6), some (.int v9), some (.int v12)]) dX10_sitterFrom_55 (Nat.le_of_ble_eq_true rfl) rfl ?_
      refine e_aload_n G (pc := 57) dX10_sitterFrom_57 rfl rfl ?_
      refine e_getF G (pc := 58) sh_0 rfl lk_X10_10 dX10_sitterFrom_58 ?_
      refine e_iconst G (pc := 61) (v := 4) dX10_sitterFrom_61 (by decide) ?_
      refine e_iload G (pc := 62) dX10_sitterFrom_62 rfl ?_
      refine e_cVi G (pc := 64) (As := [.int 4, .int v6]) (st := []) cv_X10_85 (c_X4_fits w11 4 v6 ) sh_1 (Nat.le_of_ble_eq_true rfl) rfl (Nat.le_of_ble_eq_true rfl) dX10_sitterFrom_64 (fun r13 w14 => ?_)
      refine e_if_eq G (pc := 67) (tgt := 97) dX10_sitterFrom_67 (by decide) ?_ ?_
      · refine e_iconst G (pc := 97) (v := 0) dX10_sitterFrom_97 (by decide) ?_
        exact e_zret dX10_sitterFrom_98
      · refine e_aload_n G (pc := 70) dX10_sitterFrom_70 rfl rfl ?_
        refine e_getF G (pc := 71) sh_0 rfl lk_X10_10 dX10_sitterFrom_71 ?_
        refine e_iconst G (pc := 74) (v := 5) dX10_sitterFrom_74 (by decide) ?_
        refine e_iload G (pc := 75) dX10_sitterFrom_75 rfl ?_
        refine e_cVi G (pc := 77) (As := [.int 5, .int v9]) (st := []) cv_X10_85 (c_X4_fits w14 5 v9 ) sh_1 (Nat.le_of_ble_eq_true rfl) rfl (Nat.le_of_ble_eq_true rfl) dX10_sitterFrom_77 (fun r15 w16 => ?_)
        refine e_if_eq G (pc := 80) (tgt := 97) dX10_sitterFrom_80 (by decide) ?_ ?_
        · refine e_iconst G (pc := 97) (v := 0) dX10_sitterFrom_97 (by decide) ?_
          exact e_zret dX10_sitterFrom_98
        · refine e_aload_n G (pc := 83) dX10_sitterFrom_83 rfl rfl ?_
          refine e_getF G (pc := 84) sh_0 rfl lk_X10_10 dX10_sitterFrom_84 ?_
          refine e_bipush G (pc := 87) (v := 6) dX10_sitterFrom_87 (by decide) ?_
          refine e_iload G (pc := 89) dX10_sitterFrom_89 rfl ?_
          refine e_cVi G (pc := 91) (As := [.int 6, .int v12]) (st := []) cv_X10_85 (c_X4_fits w16 6 v12 ) sh_1 (Nat.le_of_ble_eq_true rfl) rfl (Nat.le_of_ble_eq_true rfl) dX10_sitterFrom_91 (fun r17 w18 => ?_)
          refine e_if_ne G (pc := 94) (tgt := 99) dX10_sitterFrom_94 (by decide) ?_ ?_
          · refine e_aload_n G (pc := 99) dX10_sitterFrom_99 rfl rfl ?_
            refine e_getF G (pc := 100) sh_0 rfl lk_X10_10 dX10_sitterFrom_100 ?_
            refine e_iload G (pc := 103) dX10_sitterFrom_103 rfl ?_
            refine e_iload G (pc := 105) dX10_sitterFrom_105 rfl ?_
            refine e_iload G (pc := 107) dX10_sitterFrom_107 rfl ?_
            refine e_cVi G (pc := 109) (As := [.int v6, .int v9, .int v12]) (st := []) cv_X10_93 (c_X4_addSitter w18 v6 v9 v12 ) sh_1 (Nat.le_of_ble_eq_true rfl) rfl (Nat.le_of_ble_eq_true rfl) dX10_sitterFrom_109 (fun r19 w20 => ?_)
            refine e_if_lt G (pc := 112) (tgt := 119) dX10_sitterFrom_112 (by decide) ?_ ?_
            · refine e_iconst G (pc := 119) (v := 0) dX10_sitterFrom_119 (by decide) ?_
              exact e_zret dX10_sitterFrom_120
            · refine e_iconst G (pc := 115) (v := 1) dX10_sitterFrom_115 (by decide) ?_
              refine e_goto G (pc := 116) (tgt := 120) dX10_sitterFrom_116 (by decide) ?_
              exact e_zret dX10_sitterFrom_120
          · refine e_iconst G (pc := 97) (v := 0) dX10_sitterFrom_97 (by decide) ?_
            exact e_zret dX10_sitterFrom_98
    · refine e_iconst G (pc := 20) (v := 0) dX10_sitterFrom_20 (by decide) ?_
      exact e_zret dX10_sitterFrom_21
set_option maxRecDepth 100000 in
set_option maxHeartbeats 4000000 in
theorem c_X10_sitterFrom (w : qW) (id1 : Nat) (a2 : Int64) (hs1 : q_shelf id1) : q_AC q_vi (some .boolean) (5) yX10_sitterFrom cX10_sitterFrom 8 [.ref 0, .ref id1, .long a2] w (f_X10_sitterFrom w id1 a2) := q_met_z (k := 4) (by decide +kernel) rfl rfl rfl (fun _ _ G => t_X10_sitterFrom G w id1 a2 hs1)
set_option maxRecDepth 100000 in
set_option maxHeartbeats 4000000 in
theorem t_X10_sitters_B53 {E : qE} {Γ : qC} (G : q_Ok E Γ RX10 cX10_sitters 6 (6)) (k53 : qW → Int32 → Int32 → Nat → Int32 → Option (Int32 × qW)) (hk53 : ∀ (w : qW) (l2 : Int32) (l3 : Int32) (i4 : Nat) (l5 : Int32) (h4 : q_shelf i4), q_Ev E Γ 6 (q_Fi E Γ cX10_sitters) 53 [some (.ref 0), none, some (.int l2), some (.int l3), some (.ref i4), some (.int l5)] [] w (k53 w l2 l3 i4 l5)) (w : qW) (l2 : Int32) (l3 : Int32) (i4 : Nat) (l5 : Int32) (h4 : q_shelf i4) : q_Ev E Γ 6 (q_Fi E Γ cX10_sitters) 53 [some (.ref 0), none, some (.int l2), some (.int l3), some (.ref i4), some (.int l5)] [] w (f_X10_sitters_B53 k53 w l2 l3 i4 l5) := by
  unfold f_X10_sitters_B53
  refine e_iload G (pc := 53) dX10_sitters_53 rfl ?_
  refine e_iload_n G (pc := 55) dX10_sitters_55 rfl rfl ?_
  refine e_icmp_ge G (pc := 56) (tgt := 84) dX10_sitters_56 (by decide) ?_ ?_
  · refine e_iload G (pc := 84) dX10_sitters_84 rfl ?_
    exact e_iret dX10_sitters_86
  · refine e_aload_n G (pc := 59) dX10_sitters_59 rfl rfl ?_
    refine e_aload G (pc := 60) dX10_sitters_60 rfl ?_
    refine e_iload_n G (pc := 62) dX10_sitters_62 rfl rfl ?_
    refine e_i2l G (pc := 63) dX10_sitters_63 ?_
    refine e_ldc2 G (pc := 64) kl_X10_108 dX10_sitters_64 ?_
    refine e_iload G (pc := 67) dX10_sitters_67 rfl ?_
    refine e_i2l G (pc := 69) dX10_sitters_69 ?_
    refine e_lmul G (pc := 70) dX10_sitters_70 ?_
    refine e_ladd G (pc := 71) dX10_sitters_71 ?_
    refine e_cVi G (pc := 72) (As := [.ref i4, .long ((Int32.toInt64 l2) + ((3 : Int64) * (Int32.toInt64 l5)))]) (st := []) cv_X10_110 (c_X10_sitterFrom w i4 ((Int32.toInt64 l2) + ((3 : Int64) * (Int32.toInt64 l5))) h4) sh_0 (Nat.le_of_ble_eq_true rfl) rfl (Nat.le_of_ble_eq_true rfl) dX10_sitters_72 (fun r1 w2 => ?_)
    refine e_if_eq G (pc := 75) (tgt := 84) dX10_sitters_75 (by decide) ?_ ?_
    · refine e_iload G (pc := 84) dX10_sitters_84 rfl ?_
      exact e_iret dX10_sitters_86
    · refine e_iinc G (pc := 78) (x := l5) (v := l5 + 1) (L' := fun v3 => [some (.ref 0), none, some (.int l2), some (.int l3), some (.ref i4), some (.int v3)]) dX10_sitters_78 (Nat.le_of_ble_eq_true rfl) rfl (by rfl) (fun _ => rfl) (fun v3 => ?_)
      refine e_goto G (pc := 81) (tgt := 53) dX10_sitters_81 (by decide) ?_
      exact hk53 w2 l2 l3 i4 v3 h4
set_option maxRecDepth 100000 in
set_option maxHeartbeats 4000000 in
theorem t_X10_sitters_R53 {E : qE} {Γ : qC} (G : q_Ok E Γ RX10 cX10_sitters 6 (6)) : ∀ (fuel : Nat) (w : qW) (l2 : Int32) (l3 : Int32) (i4 : Nat) (l5 : Int32) (h4 : q_shelf i4) , q_Ev E Γ 6 (q_Fi E Γ cX10_sitters) 53 [some (.ref 0), none, some (.int l2), some (.int l3), some (.ref i4), some (.int l5)] [] w (f_X10_sitters_R53 fuel w l2 l3 i4 l5) := by
  intro fuel
  induction fuel with
  | zero => intros; exact e_none
  | succ fuel ih =>
    intro w l2 l3 i4 l5 h4
    exact t_X10_sitters_B53 G _ ih w l2 l3 i4 l5 h4
set_option maxRecDepth 100000 in
set_option maxHeartbeats 4000000 in
theorem t_X10_sitters {E : qE} {Γ : qC} (G : q_Ok E Γ RX10 cX10_sitters 6 (6)) (w : qW) (a1 : Int32) (a2 : Int32) (a3 : Int32) : q_Ev E Γ 6 (q_Fi E Γ cX10_sitters) 0 [some (.ref 0), some (.int a1), some (.int a2), some (.int a3), none, none] [] w (f_X10_sitters w a1 a2 a3) := by
  unfold f_X10_sitters
  refine e_iload_n G (pc := 0) dX10_sitters_0 rfl rfl ?_
  refine e_cSi G (pc := 1) (ci := 0) (id := 0) (sl := []) (As := [.int a1]) (st := []) cs_X10_97 (c_X10_isShelf w a1 ) (Nat.le_of_ble_eq_true rfl) rfl (Nat.le_of_ble_eq_true rfl) dX10_sitters_1 (fun r1 w2 => ?_)
  refine e_if_eq G (pc := 4) (tgt := 18) dX10_sitters_4 (by decide) ?_ ?_
  · refine e_iconst G (pc := 18) (v := (-1)) dX10_sitters_18 (by decide) ?_
    exact e_iret dX10_sitters_19
  · refine e_iload_n G (pc := 7) dX10_sitters_7 rfl rfl ?_
    refine e_iconst G (pc := 8) (v := 1) dX10_sitters_8 (by decide) ?_
    refine e_icmp_lt G (pc := 9) (tgt := 18) dX10_sitters_9 (by decide) ?_ ?_
    · refine e_iconst G (pc := 18) (v := (-1)) dX10_sitters_18 (by decide) ?_
      exact e_iret dX10_sitters_19
    · refine e_iload_n G (pc := 12) dX10_sitters_12 rfl rfl ?_
      refine e_bipush G (pc := 13) (v := 8) dX10_sitters_13 (by decide) ?_
      refine e_icmp_le G (pc := 15) (tgt := 20) dX10_sitters_15 (by decide) ?_ ?_
      · refine e_aload_n G (pc := 20) dX10_sitters_20 rfl rfl ?_
        refine e_getF G (pc := 21) sh_0 rfl lk_X10_80 dX10_sitters_21 ?_
        refine e_iload_n G (pc := 24) dX10_sitters_24 rfl rfl ?_
        refine e_aald G (pc := 25) dX10_sitters_25 (fun id3 hs4 => ?_)
        refine e_astore G (pc := 26) (L' := [some (.ref 0), some (.int a1), some (.int a2), some (.int a3), some (.ref id3), none]) dX10_sitters_26 (Nat.le_of_ble_eq_true rfl) rfl ?_
        refine e_aload G (pc := 28) dX10_sitters_28 rfl ?_
        refine e_cVi G (pc := 30) (As := []) (st := []) cv_X10_101 (c_X6_isEmpty w2 id3 hs4) hs4.1 (Nat.le_of_ble_eq_true rfl) rfl (Nat.le_of_ble_eq_true rfl) dX10_sitters_30 (fun r5 w6 => ?_)
        refine e_if_eq G (pc := 33) (tgt := 38) dX10_sitters_33 (by decide) ?_ ?_
        · refine e_aload G (pc := 38) dX10_sitters_38 rfl ?_
          refine e_iconst G (pc := 40) (v := 1) dX10_sitters_40 (by decide) ?_
          refine e_cVi G (pc := 41) (As := [.int 1]) (st := []) cv_X10_105 (c_X6_isRowOf w6 id3 1 hs4) hs4.1 (Nat.le_of_ble_eq_true rfl) rfl (Nat.le_of_ble_eq_true rfl) dX10_sitters_41 (fun r7 w8 => ?_)
          refine e_if_ne G (pc := 44) (tgt := 50) dX10_sitters_44 (by decide) ?_ ?_
          · refine e_iconst G (pc := 50) (v := 0) dX10_sitters_50 (by decide) ?_
            refine e_istore G (pc := 51) (L' := [some (.ref 0), some (.int a1), some (.int a2), some (.int a3), some (.ref id3), some (.int 0)]) dX10_sitters_51 (Nat.le_of_ble_eq_true rfl) rfl ?_
            refine e_wk (L' := [some (.ref 0), none, some (.int a2), some (.int a3), some (.ref id3), some (.int 0)]) (And.intro rfl (And.intro rfl (And.intro rfl (And.intro rfl (And.intro rfl (trivial)))))) ?_
            exact t_X10_sitters_R53 G  q_fuel w8 a2 a3 id3 0 hs4
          · refine e_bipush G (pc := 47) (v := (-12)) dX10_sitters_47 (by decide) ?_
            exact e_iret dX10_sitters_49
        · refine e_iconst G (pc := 36) (v := 0) dX10_sitters_36 (by decide) ?_
          exact e_iret dX10_sitters_37
      · refine e_iconst G (pc := 18) (v := (-1)) dX10_sitters_18 (by decide) ?_
        exact e_iret dX10_sitters_19
set_option maxRecDepth 100000 in
set_option maxHeartbeats 4000000 in
theorem c_X10_sitters (w : qW) (a1 : Int32) (a2 : Int32) (a3 : Int32) : q_AC q_vi (some .int) (6) yX10_sitters cX10_sitters 6 [.ref 0, .int a1, .int a2, .int a3] w (f_X10_sitters w a1 a2 a3) := q_met_i (k := 2) (by decide +kernel) rfl rfl rfl (fun _ _ G => t_X10_sitters G w a1 a2 a3 )
set_option maxRecDepth 100000 in
set_option maxHeartbeats 4000000 in
theorem t_X10_mend {E : qE} {Γ : qC} (G : q_Ok E Γ RX10 cX10_mend 5 (5)) (w : qW) (a1 : Int32) (a2 : Int32) (a3 : Int32) : q_Ev E Γ 5 (q_Fi E Γ cX10_mend) 0 [some (.ref 0), some (.int a1), some (.int a2), some (.int a3), none] [] w (f_X10_mend w a1 a2 a3) := by
  unfold f_X10_mend
  refine e_aload_n G (pc := 0) dX10_mend_0 rfl rfl ?_
  refine e_getF G (pc := 1) sh_0 rfl lk_X10_10 dX10_mend_1 ?_
  refine e_iload_n G (pc := 4) dX10_mend_4 rfl rfl ?_
  refine e_iload_n G (pc := 5) dX10_mend_5 rfl rfl ?_
  refine e_cVi G (pc := 6) (As := [.int a1, .int a2]) (st := []) cv_X10_114 (c_X4_has w a1 a2 ) sh_1 (Nat.le_of_ble_eq_true rfl) rfl (Nat.le_of_ble_eq_true rfl) dX10_mend_6 (fun r1 w2 => ?_)
  refine e_if_eq G (pc := 9) (tgt := 24) dX10_mend_9 (by decide) ?_ ?_
  · refine e_iconst G (pc := 24) (v := (-1)) dX10_mend_24 (by decide) ?_
    exact e_iret dX10_mend_25
  · refine e_aload_n G (pc := 12) dX10_mend_12 rfl rfl ?_
    refine e_getF G (pc := 13) sh_0 rfl lk_X10_10 dX10_mend_13 ?_
    refine e_iload_n G (pc := 16) dX10_mend_16 rfl rfl ?_
    refine e_iload_n G (pc := 17) dX10_mend_17 rfl rfl ?_
    refine e_cVi G (pc := 18) (As := [.int a2, .int a3]) (st := []) cv_X10_85 (c_X4_fits w2 a2 a3 ) sh_1 (Nat.le_of_ble_eq_true rfl) rfl (Nat.le_of_ble_eq_true rfl) dX10_mend_18 (fun r3 w4 => ?_)
    refine e_if_ne G (pc := 21) (tgt := 26) dX10_mend_21 (by decide) ?_ ?_
    · refine e_aload_n G (pc := 26) dX10_mend_26 rfl rfl ?_
      refine e_getF G (pc := 27) sh_0 rfl lk_X10_10 dX10_mend_27 ?_
      refine e_iload_n G (pc := 30) dX10_mend_30 rfl rfl ?_
      refine e_iload_n G (pc := 31) dX10_mend_31 rfl rfl ?_
      refine e_cVi G (pc := 32) (As := [.int a1, .int a2]) (st := []) cv_X10_117 (c_X4_get w4 a1 a2 ) sh_1 (Nat.le_of_ble_eq_true rfl) rfl (Nat.le_of_ble_eq_true rfl) dX10_mend_32 (fun r5 w6 => ?_)
      refine e_istore G (pc := 35) (L' := [some (.ref 0), some (.int a1), some (.int a2), some (.int a3), some (.int r5)]) dX10_mend_35 (Nat.le_of_ble_eq_true rfl) rfl ?_
      refine e_iload G (pc := 37) dX10_mend_37 rfl ?_
      refine e_iload_n G (pc := 39) dX10_mend_39 rfl rfl ?_
      refine e_icmp_eq G (pc := 40) (tgt := 53) dX10_mend_40 (by decide) ?_ ?_
      · refine e_iload G (pc := 53) dX10_mend_53 rfl ?_
        exact e_iret dX10_mend_55
      · refine e_aload_n G (pc := 43) dX10_mend_43 rfl rfl ?_
        refine e_getF G (pc := 44) sh_0 rfl lk_X10_60 dX10_mend_44 ?_
        refine e_iload_n G (pc := 47) dX10_mend_47 rfl rfl ?_
        refine e_iload_n G (pc := 48) dX10_mend_48 rfl rfl ?_
        refine e_iload_n G (pc := 49) dX10_mend_49 rfl rfl ?_
        refine e_cVv G (pc := 50) (As := [.int a1, .int a2, .int a3]) (st := []) cv_X10_120 (c_X1_add w6 a1 a2 a3 ) sh_24 (Nat.le_of_ble_eq_true rfl) rfl (Nat.le_of_ble_eq_true rfl) dX10_mend_50 (fun r7 w8 => ?_)
        refine e_iload G (pc := 53) dX10_mend_53 rfl ?_
        exact e_iret dX10_mend_55
    · refine e_iconst G (pc := 24) (v := (-1)) dX10_mend_24 (by decide) ?_
      exact e_iret dX10_mend_25
set_option maxRecDepth 100000 in
set_option maxHeartbeats 4000000 in
theorem c_X10_mend (w : qW) (a1 : Int32) (a2 : Int32) (a3 : Int32) : q_AC q_vi (some .int) (5) yX10_mend cX10_mend 5 [.ref 0, .int a1, .int a2, .int a3] w (f_X10_mend w a1 a2 a3) := q_met_i (k := 1) (by decide +kernel) rfl rfl rfl (fun _ _ G => t_X10_mend G w a1 a2 a3 )
set_option maxRecDepth 100000 in
set_option maxHeartbeats 4000000 in
theorem t_X10_of {E : qE} {Γ : qC} (G : q_Ok E Γ RX10 cX10_of 3 (4)) (w : qW) (a1 : Int32) (a2 : Int32) : q_Ev E Γ 3 (q_Fi E Γ cX10_of) 0 [some (.ref 0), some (.int a1), some (.int a2)] [] w (f_X10_of w a1 a2) := by
  unfold f_X10_of
  refine e_aload_n G (pc := 0) dX10_of_0 rfl rfl ?_
  refine e_getF G (pc := 1) sh_0 rfl lk_X10_10 dX10_of_1 ?_
  refine e_iload_n G (pc := 4) dX10_of_4 rfl rfl ?_
  refine e_iload_n G (pc := 5) dX10_of_5 rfl rfl ?_
  refine e_cVi G (pc := 6) (As := [.int a1, .int a2]) (st := []) cv_X10_114 (c_X4_has w a1 a2 ) sh_1 (Nat.le_of_ble_eq_true rfl) rfl (Nat.le_of_ble_eq_true rfl) dX10_of_6 (fun r1 w2 => ?_)
  refine e_if_eq G (pc := 9) (tgt := 24) dX10_of_9 (by decide) ?_ ?_
  · refine e_iconst G (pc := 24) (v := (-1)) dX10_of_24 (by decide) ?_
    exact e_iret dX10_of_25
  · refine e_aload_n G (pc := 12) dX10_of_12 rfl rfl ?_
    refine e_getF G (pc := 13) sh_0 rfl lk_X10_10 dX10_of_13 ?_
    refine e_iload_n G (pc := 16) dX10_of_16 rfl rfl ?_
    refine e_iload_n G (pc := 17) dX10_of_17 rfl rfl ?_
    refine e_cVi G (pc := 18) (As := [.int a1, .int a2]) (st := []) cv_X10_117 (c_X4_get w2 a1 a2 ) sh_1 (Nat.le_of_ble_eq_true rfl) rfl (Nat.le_of_ble_eq_true rfl) dX10_of_18 (fun r3 w4 => ?_)
    refine e_goto G (pc := 21) (tgt := 25) dX10_of_21 (by decide) ?_
    exact e_iret dX10_of_25
set_option maxRecDepth 100000 in
set_option maxHeartbeats 4000000 in
theorem c_X10_of (w : qW) (a1 : Int32) (a2 : Int32) : q_AC q_vi (some .int) (4) yX10_of cX10_of 3 [.ref 0, .int a1, .int a2] w (f_X10_of w a1 a2) := q_met_i (k := 0) (by decide +kernel) rfl rfl rfl (fun _ _ G => t_X10_of G w a1 a2 )
set_option maxRecDepth 100000 in
set_option maxHeartbeats 4000000 in
theorem t_X10_feed {E : qE} {Γ : qC} (G : q_Ok E Γ RX10 cX10_feed 2 (3)) (w : qW) (a1 : Int32) : q_Ev E Γ 2 (q_Fi E Γ cX10_feed) 0 [some (.ref 0), some (.int a1)] [] w (f_X10_feed w a1) := by
  unfold f_X10_feed
  refine e_iload_n G (pc := 0) dX10_feed_0 rfl rfl ?_
  refine e_if_lt G (pc := 1) (tgt := 11) dX10_feed_1 (by decide) ?_ ?_
  · refine e_iconst G (pc := 11) (v := (-1)) dX10_feed_11 (by decide) ?_
    exact e_iret dX10_feed_12
  · refine e_iload_n G (pc := 4) dX10_feed_4 rfl rfl ?_
    refine e_sipush G (pc := 5) (v := 255) dX10_feed_5 (by decide) ?_
    refine e_icmp_le G (pc := 8) (tgt := 13) dX10_feed_8 (by decide) ?_ ?_
    · refine e_aload_n G (pc := 13) dX10_feed_13 rfl rfl ?_
      refine e_getF G (pc := 14) sh_0 rfl lk_X10_19 dX10_feed_14 ?_
      refine e_iload_n G (pc := 17) dX10_feed_17 rfl rfl ?_
      refine e_cVi G (pc := 18) (As := [.int a1]) (st := []) cv_X10_124 (c_X3_take w a1 ) sh_3 (Nat.le_of_ble_eq_true rfl) rfl (Nat.le_of_ble_eq_true rfl) dX10_feed_18 (fun r1 w2 => ?_)
      exact e_iret dX10_feed_21
    · refine e_iconst G (pc := 11) (v := (-1)) dX10_feed_11 (by decide) ?_
      exact e_iret dX10_feed_12
set_option maxRecDepth 100000 in
set_option maxHeartbeats 4000000 in
theorem c_X10_feed (w : qW) (a1 : Int32) : q_AC q_vi (some .int) (3) yX10_feed cX10_feed 2 [.ref 0, .int a1] w (f_X10_feed w a1) := q_met_i (k := 0) (by decide +kernel) rfl rfl rfl (fun _ _ G => t_X10_feed G w a1 )
set_option maxRecDepth 100000 in
set_option maxHeartbeats 4000000 in
theorem t_X10_law {E : qE} {Γ : qC} (G : q_Ok E Γ RX10 cX10_law 2 (108)) (w : qW) : q_Ev E Γ 2 (q_Fi E Γ cX10_law) 0 [some (.ref 0), none] [] w (f_X10_law w ) := by
  unfold f_X10_law
  refine e_aload_n G (pc := 0) dX10_law_0 rfl rfl ?_
  refine e_getF G (pc := 1) sh_0 rfl lk_X10_19 dX10_law_1 ?_
  refine e_cVi G (pc := 4) (As := []) (st := []) cv_X10_128 (c_X3_learn w  ) sh_3 (Nat.le_of_ble_eq_true rfl) rfl (Nat.le_of_ble_eq_true rfl) dX10_law_4 (fun r1 w2 => ?_)
  refine e_istore_n G (pc := 7) (L' := [some (.ref 0), some (.int r1)]) dX10_law_7 rfl (Nat.le_of_ble_eq_true rfl) rfl ?_
  refine e_iload_n G (pc := 8) dX10_law_8 rfl rfl ?_
  refine e_if_ge G (pc := 9) (tgt := 16) dX10_law_9 (by decide) ?_ ?_
  · refine e_bipush G (pc := 16) (v := (-100)) dX10_law_16 (by decide) ?_
    refine e_iload_n G (pc := 18) dX10_law_18 rfl rfl ?_
    refine e_isub G (pc := 19) dX10_law_19 ?_
    exact e_iret dX10_law_20
  · refine e_iconst G (pc := 12) (v := 1) dX10_law_12 (by decide) ?_
    refine e_goto G (pc := 13) (tgt := 20) dX10_law_13 (by decide) ?_
    exact e_iret dX10_law_20
set_option maxRecDepth 100000 in
set_option maxHeartbeats 4000000 in
theorem c_X10_law (w : qW) : q_AC q_vi (some .int) (108) yX10_law cX10_law 2 [.ref 0] w (f_X10_law w ) := q_met_i (k := 1) (by decide +kernel) rfl rfl rfl (fun _ _ G => t_X10_law G w  )
set_option maxRecDepth 100000 in
set_option maxHeartbeats 4000000 in
theorem t_X10_shade {E : qE} {Γ : qC} (G : q_Ok E Γ RX10 cX10_shade 5 (7)) (w : qW) (a1 : Int32) (a2 : Int32) : q_Ev E Γ 5 (q_Fi E Γ cX10_shade) 0 [some (.ref 0), some (.int a1), some (.int a2), none, none] [] w (f_X10_shade w a1 a2) := by
  unfold f_X10_shade
  refine e_iload_n G (pc := 0) dX10_shade_0 rfl rfl ?_
  refine e_bipush G (pc := 1) (v := 100) dX10_shade_1 (by decide) ?_
  refine e_idiv G (pc := 3) dX10_shade_3 (by decide) ?_
  refine e_ti (fun v1 => ?_)
  refine e_istore_n G (pc := 4) (L' := [some (.ref 0), some (.int a1), some (.int a2), some (.int v1), none]) dX10_shade_4 rfl (Nat.le_of_ble_eq_true rfl) rfl ?_
  refine e_iload_n G (pc := 5) dX10_shade_5 rfl rfl ?_
  refine e_bipush G (pc := 6) (v := 100) dX10_shade_6 (by decide) ?_
  refine e_irem G (pc := 8) dX10_shade_8 (by decide) ?_
  refine e_ti (fun v2 => ?_)
  refine e_istore G (pc := 9) (L' := [some (.ref 0), some (.int a1), some (.int a2), some (.int v1), some (.int v2)]) dX10_shade_9 (Nat.le_of_ble_eq_true rfl) rfl ?_
  refine e_iload_n G (pc := 11) dX10_shade_11 rfl rfl ?_
  refine e_if_lt G (pc := 12) (tgt := 45) dX10_shade_12 (by decide) ?_ ?_
  · refine e_iconst G (pc := 45) (v := (-1)) dX10_shade_45 (by decide) ?_
    exact e_iret dX10_shade_46
  · refine e_iload_n G (pc := 15) dX10_shade_15 rfl rfl ?_
    refine e_sipush G (pc := 16) (v := 144) dX10_shade_16 (by decide) ?_
    refine e_icmp_ge G (pc := 19) (tgt := 45) dX10_shade_19 (by decide) ?_ ?_
    · refine e_iconst G (pc := 45) (v := (-1)) dX10_shade_45 (by decide) ?_
      exact e_iret dX10_shade_46
    · refine e_iload G (pc := 22) dX10_shade_22 rfl ?_
      refine e_bipush G (pc := 24) (v := 12) dX10_shade_24 (by decide) ?_
      refine e_icmp_ge G (pc := 26) (tgt := 45) dX10_shade_26 (by decide) ?_ ?_
      · refine e_iconst G (pc := 45) (v := (-1)) dX10_shade_45 (by decide) ?_
        exact e_iret dX10_shade_46
      · refine e_iload_n G (pc := 29) dX10_shade_29 rfl rfl ?_
        refine e_iconst G (pc := 30) (v := (-1)) dX10_shade_30 (by decide) ?_
        refine e_icmp_lt G (pc := 31) (tgt := 45) dX10_shade_31 (by decide) ?_ ?_
        · refine e_iconst G (pc := 45) (v := (-1)) dX10_shade_45 (by decide) ?_
          exact e_iret dX10_shade_46
        · refine e_iload_n G (pc := 34) dX10_shade_34 rfl rfl ?_
          refine e_aload_n G (pc := 35) dX10_shade_35 rfl rfl ?_
          refine e_getF G (pc := 36) sh_0 rfl lk_X10_10 dX10_shade_36 ?_
          refine e_getI G (pc := 39) sh_1 rfl lk_X10_132 dX10_shade_39 ?_
          refine e_icmp_lt G (pc := 42) (tgt := 47) dX10_shade_42 (by decide) ?_ ?_
          · refine e_iload_n G (pc := 47) dX10_shade_47 rfl rfl ?_
            refine e_if_ge G (pc := 48) (tgt := 69) dX10_shade_48 (by decide) ?_ ?_
            · refine e_aload_n G (pc := 69) dX10_shade_69 rfl rfl ?_
              refine e_getF G (pc := 70) sh_0 rfl lk_X10_28 dX10_shade_70 ?_
              refine e_iload_n G (pc := 73) dX10_shade_73 rfl rfl ?_
              refine e_iload_n G (pc := 74) dX10_shade_74 rfl rfl ?_
              refine e_iload G (pc := 75) dX10_shade_75 rfl ?_
              refine e_cVi G (pc := 77) (As := [.int a2, .int v1, .int v2]) (st := []) cv_X10_144 (c_X5_byMan w a2 v1 v2 ) sh_9 (Nat.le_of_ble_eq_true rfl) rfl (Nat.le_of_ble_eq_true rfl) dX10_shade_77 (fun r3 w4 => ?_)
              exact e_iret dX10_shade_80
            · refine e_bipush G (pc := 51) (v := 12) dX10_shade_51 (by decide) ?_
              refine e_aload_n G (pc := 53) dX10_shade_53 rfl rfl ?_
              refine e_getF G (pc := 54) sh_0 rfl lk_X10_28 dX10_shade_54 ?_
              refine e_iload_n G (pc := 57) dX10_shade_57 rfl rfl ?_
              refine e_iload G (pc := 58) dX10_shade_58 rfl ?_
              refine e_cVi G (pc := 60) (As := [.int v1, .int v2]) (st := [.int 12]) cv_X10_136 (c_X5_byAll w v1 v2 ) sh_9 (Nat.le_of_ble_eq_true rfl) rfl (Nat.le_of_ble_eq_true rfl) dX10_shade_60 (fun r5 w6 => ?_)
              refine e_mmin G (pc := 63) mt_X10_139 (Nat.le_of_ble_eq_true rfl) (Nat.le_of_ble_eq_true rfl) dX10_shade_63 ?_
              refine e_ti (fun v7 => ?_)
              refine e_goto G (pc := 66) (tgt := 80) dX10_shade_66 (by decide) ?_
              exact e_iret dX10_shade_80
          · refine e_iconst G (pc := 45) (v := (-1)) dX10_shade_45 (by decide) ?_
            exact e_iret dX10_shade_46
set_option maxRecDepth 100000 in
set_option maxHeartbeats 4000000 in
theorem c_X10_shade (w : qW) (a1 : Int32) (a2 : Int32) : q_AC q_vi (some .int) (7) yX10_shade cX10_shade 5 [.ref 0, .int a1, .int a2] w (f_X10_shade w a1 a2) := q_met_i (k := 2) (by decide +kernel) rfl rfl rfl (fun _ _ G => t_X10_shade G w a1 a2 )
set_option maxRecDepth 100000 in
set_option maxHeartbeats 4000000 in
theorem t_X10_isChoice {E : qE} {Γ : qC} (G : q_Ok E Γ RX10 cX10_isChoice 2 (2)) (w : qW) (a1 : Int32) (a2 : Int32) : q_Ev E Γ 2 (q_Fz E Γ cX10_isChoice) 0 [some (.int a1), some (.int a2)] [] w (f_X10_isChoice w a1 a2) := by
  unfold f_X10_isChoice
  refine e_iload_n G (pc := 0) dX10_isChoice_0 rfl rfl ?_
  refine e_if_lt G (pc := 1) (tgt := 13) dX10_isChoice_1 (by decide) ?_ ?_
  · refine e_iconst G (pc := 13) (v := 0) dX10_isChoice_13 (by decide) ?_
    exact e_zret dX10_isChoice_14
  · refine e_iload_n G (pc := 4) dX10_isChoice_4 rfl rfl ?_
    refine e_iload_n G (pc := 5) dX10_isChoice_5 rfl rfl ?_
    refine e_icmp_ge G (pc := 6) (tgt := 13) dX10_isChoice_6 (by decide) ?_ ?_
    · refine e_iconst G (pc := 13) (v := 0) dX10_isChoice_13 (by decide) ?_
      exact e_zret dX10_isChoice_14
    · refine e_iconst G (pc := 9) (v := 1) dX10_isChoice_9 (by decide) ?_
      refine e_goto G (pc := 10) (tgt := 14) dX10_isChoice_10 (by decide) ?_
      exact e_zret dX10_isChoice_14
set_option maxRecDepth 100000 in
set_option maxHeartbeats 4000000 in
theorem c_X10_isChoice (w : qW) (a1 : Int32) (a2 : Int32) : q_AC q_vi (some .boolean) (2) yX10_isChoice cX10_isChoice 2 [.int a1, .int a2] w (f_X10_isChoice w a1 a2) := q_met_z (k := 0) (by decide +kernel) rfl rfl rfl (fun _ _ G => t_X10_isChoice G w a1 a2 )
set_option maxRecDepth 100000 in
set_option maxHeartbeats 4000000 in
theorem t_X10_walk {E : qE} {Γ : qC} (G : q_Ok E Γ RX10 cX10_walk 3 (8)) (w : qW) (a1 : Int32) (a2 : Int32) : q_Ev E Γ 3 (q_Fi E Γ cX10_walk) 0 [some (.ref 0), some (.int a1), some (.int a2)] [] w (f_X10_walk w a1 a2) := by
  unfold f_X10_walk
  refine e_iload_n G (pc := 0) dX10_walk_0 rfl rfl ?_
  refine e_cSi G (pc := 1) (ci := 0) (id := 0) (sl := []) (As := [.int a1]) (st := []) cs_X10_147 (c_X10_isHour w a1 ) (Nat.le_of_ble_eq_true rfl) rfl (Nat.le_of_ble_eq_true rfl) dX10_walk_1 (fun r1 w2 => ?_)
  refine e_if_eq G (pc := 4) (tgt := 15) dX10_walk_4 (by decide) ?_ ?_
  · refine e_iconst G (pc := 15) (v := (-1)) dX10_walk_15 (by decide) ?_
    exact e_iret dX10_walk_16
  · refine e_iload_n G (pc := 7) dX10_walk_7 rfl rfl ?_
    refine e_iconst G (pc := 8) (v := 2) dX10_walk_8 (by decide) ?_
    refine e_cSi G (pc := 9) (ci := 0) (id := 0) (sl := []) (As := [.int a2, .int 2]) (st := []) cs_X10_150 (c_X10_isChoice w2 a2 2 ) (Nat.le_of_ble_eq_true rfl) rfl (Nat.le_of_ble_eq_true rfl) dX10_walk_9 (fun r3 w4 => ?_)
    refine e_if_ne G (pc := 12) (tgt := 17) dX10_walk_12 (by decide) ?_ ?_
    · refine e_iload_n G (pc := 17) dX10_walk_17 rfl rfl ?_
      refine e_if_ne G (pc := 18) (tgt := 32) dX10_walk_18 (by decide) ?_ ?_
      · refine e_aload_n G (pc := 32) dX10_walk_32 rfl rfl ?_
        refine e_getF G (pc := 33) sh_0 rfl lk_X10_37 dX10_walk_33 ?_
        refine e_iload_n G (pc := 36) dX10_walk_36 rfl rfl ?_
        refine e_cVi G (pc := 37) (As := [.int a1]) (st := []) cv_X10_156 (c_X7_darkest w4 a1 ) sh_10 (Nat.le_of_ble_eq_true rfl) rfl (Nat.le_of_ble_eq_true rfl) dX10_walk_37 (fun r5 w6 => ?_)
        exact e_iret dX10_walk_40
      · refine e_aload_n G (pc := 21) dX10_walk_21 rfl rfl ?_
        refine e_getF G (pc := 22) sh_0 rfl lk_X10_37 dX10_walk_22 ?_
        refine e_iload_n G (pc := 25) dX10_walk_25 rfl rfl ?_
        refine e_cVi G (pc := 26) (As := [.int a1]) (st := []) cv_X10_153 (c_X7_shadyCells w4 a1 ) sh_10 (Nat.le_of_ble_eq_true rfl) rfl (Nat.le_of_ble_eq_true rfl) dX10_walk_26 (fun r7 w8 => ?_)
        refine e_goto G (pc := 29) (tgt := 40) dX10_walk_29 (by decide) ?_
        exact e_iret dX10_walk_40
    · refine e_iconst G (pc := 15) (v := (-1)) dX10_walk_15 (by decide) ?_
      exact e_iret dX10_walk_16
set_option maxRecDepth 100000 in
set_option maxHeartbeats 4000000 in
theorem c_X10_walk (w : qW) (a1 : Int32) (a2 : Int32) : q_AC q_vi (some .int) (8) yX10_walk cX10_walk 3 [.ref 0, .int a1, .int a2] w (f_X10_walk w a1 a2) := q_met_i (k := 0) (by decide +kernel) rfl rfl rfl (fun _ _ G => t_X10_walk G w a1 a2 )
set_option maxRecDepth 100000 in
set_option maxHeartbeats 4000000 in
theorem t_X10_served {E : qE} {Γ : qC} (G : q_Ok E Γ RX10 cX10_served 3 (9)) (w : qW) (a1 : Int32) (a2 : Int32) : q_Ev E Γ 3 (q_Fi E Γ cX10_served) 0 [some (.ref 0), some (.int a1), some (.int a2)] [] w (f_X10_served w a1 a2) := by
  unfold f_X10_served
  refine e_aload_n G (pc := 0) dX10_served_0 rfl rfl ?_
  refine e_getF G (pc := 1) sh_0 rfl lk_X10_10 dX10_served_1 ?_
  refine e_iload_n G (pc := 4) dX10_served_4 rfl rfl ?_
  refine e_iconst G (pc := 5) (v := 4) dX10_served_5 (by decide) ?_
  refine e_cVi G (pc := 6) (As := [.int a1, .int 4]) (st := []) cv_X10_114 (c_X4_has w a1 4 ) sh_1 (Nat.le_of_ble_eq_true rfl) rfl (Nat.le_of_ble_eq_true rfl) dX10_served_6 (fun r1 w2 => ?_)
  refine e_if_eq G (pc := 9) (tgt := 20) dX10_served_9 (by decide) ?_ ?_
  · refine e_iconst G (pc := 20) (v := (-1)) dX10_served_20 (by decide) ?_
    exact e_iret dX10_served_21
  · refine e_iload_n G (pc := 12) dX10_served_12 rfl rfl ?_
    refine e_iconst G (pc := 13) (v := 2) dX10_served_13 (by decide) ?_
    refine e_cSi G (pc := 14) (ci := 0) (id := 0) (sl := []) (As := [.int a2, .int 2]) (st := []) cs_X10_150 (c_X10_isChoice w2 a2 2 ) (Nat.le_of_ble_eq_true rfl) rfl (Nat.le_of_ble_eq_true rfl) dX10_served_14 (fun r3 w4 => ?_)
    refine e_if_ne G (pc := 17) (tgt := 22) dX10_served_17 (by decide) ?_ ?_
    · refine e_iload_n G (pc := 22) dX10_served_22 rfl rfl ?_
      refine e_if_ne G (pc := 23) (tgt := 37) dX10_served_23 (by decide) ?_ ?_
      · refine e_aload_n G (pc := 37) dX10_served_37 rfl rfl ?_
        refine e_getF G (pc := 38) sh_0 rfl lk_X10_37 dX10_served_38 ?_
        refine e_iload_n G (pc := 41) dX10_served_41 rfl rfl ?_
        refine e_cVi G (pc := 42) (As := [.int a1]) (st := []) cv_X10_162 (c_X7_missesOf w4 a1 ) sh_10 (Nat.le_of_ble_eq_true rfl) rfl (Nat.le_of_ble_eq_true rfl) dX10_served_42 (fun r5 w6 => ?_)
        exact e_iret dX10_served_45
      · refine e_aload_n G (pc := 26) dX10_served_26 rfl rfl ?_
        refine e_getF G (pc := 27) sh_0 rfl lk_X10_37 dX10_served_27 ?_
        refine e_iload_n G (pc := 30) dX10_served_30 rfl rfl ?_
        refine e_cVi G (pc := 31) (As := [.int a1]) (st := []) cv_X10_159 (c_X7_hoursOf w4 a1 ) sh_10 (Nat.le_of_ble_eq_true rfl) rfl (Nat.le_of_ble_eq_true rfl) dX10_served_31 (fun r7 w8 => ?_)
        refine e_goto G (pc := 34) (tgt := 45) dX10_served_34 (by decide) ?_
        exact e_iret dX10_served_45
    · refine e_iconst G (pc := 20) (v := (-1)) dX10_served_20 (by decide) ?_
      exact e_iret dX10_served_21
set_option maxRecDepth 100000 in
set_option maxHeartbeats 4000000 in
theorem c_X10_served (w : qW) (a1 : Int32) (a2 : Int32) : q_AC q_vi (some .int) (9) yX10_served cX10_served 3 [.ref 0, .int a1, .int a2] w (f_X10_served w a1 a2) := q_met_i (k := 0) (by decide +kernel) rfl rfl rfl (fun _ _ G => t_X10_served G w a1 a2 )
set_option maxRecDepth 100000 in
set_option maxHeartbeats 4000000 in
theorem t_X10_at_B18 {E : qE} {Γ : qC} (G : q_Ok E Γ RX10 cX10_at 3 (9)) (w : qW) (l1 : Int32) (l2 : Int32) : q_Ev E Γ 3 (q_Fi E Γ cX10_at) 18 [some (.ref 0), some (.int l1), some (.int l2)] [] w (f_X10_at_B18 w l1 l2) := by
  unfold f_X10_at_B18
  refine e_iload_n G (pc := 18) dX10_at_18 rfl rfl ?_
  refine e_cSi G (pc := 19) (ci := 0) (id := 0) (sl := []) (As := [.int l1]) (st := []) cs_X10_147 (c_X10_isHour w l1 ) (Nat.le_of_ble_eq_true rfl) rfl (Nat.le_of_ble_eq_true rfl) dX10_at_19 (fun r1 w2 => ?_)
  refine e_if_eq G (pc := 22) (tgt := 33) dX10_at_22 (by decide) ?_ ?_
  · refine e_iconst G (pc := 33) (v := (-1)) dX10_at_33 (by decide) ?_
    exact e_iret dX10_at_34
  · refine e_iload_n G (pc := 25) dX10_at_25 rfl rfl ?_
    refine e_iconst G (pc := 26) (v := 2) dX10_at_26 (by decide) ?_
    refine e_cSi G (pc := 27) (ci := 0) (id := 0) (sl := []) (As := [.int l2, .int 2]) (st := []) cs_X10_150 (c_X10_isChoice w2 l2 2 ) (Nat.le_of_ble_eq_true rfl) rfl (Nat.le_of_ble_eq_true rfl) dX10_at_27 (fun r3 w4 => ?_)
    refine e_if_ne G (pc := 30) (tgt := 35) dX10_at_30 (by decide) ?_ ?_
    · refine e_iload_n G (pc := 35) dX10_at_35 rfl rfl ?_
      refine e_if_ne G (pc := 36) (tgt := 50) dX10_at_36 (by decide) ?_ ?_
      · refine e_aload_n G (pc := 50) dX10_at_50 rfl rfl ?_
        refine e_getF G (pc := 51) sh_0 rfl lk_X10_37 dX10_at_51 ?_
        refine e_iload_n G (pc := 54) dX10_at_54 rfl rfl ?_
        refine e_cVi G (pc := 55) (As := [.int l1]) (st := []) cv_X10_171 (c_X7_missingAt w4 l1 ) sh_10 (Nat.le_of_ble_eq_true rfl) rfl (Nat.le_of_ble_eq_true rfl) dX10_at_55 (fun r5 w6 => ?_)
        exact e_iret dX10_at_58
      · refine e_aload_n G (pc := 39) dX10_at_39 rfl rfl ?_
        refine e_getF G (pc := 40) sh_0 rfl lk_X10_37 dX10_at_40 ?_
        refine e_iload_n G (pc := 43) dX10_at_43 rfl rfl ?_
        refine e_cVi G (pc := 44) (As := [.int l1]) (st := []) cv_X10_168 (c_X7_servedAt w4 l1 ) sh_10 (Nat.le_of_ble_eq_true rfl) rfl (Nat.le_of_ble_eq_true rfl) dX10_at_44 (fun r7 w8 => ?_)
        refine e_goto G (pc := 47) (tgt := 58) dX10_at_47 (by decide) ?_
        exact e_iret dX10_at_58
    · refine e_iconst G (pc := 33) (v := (-1)) dX10_at_33 (by decide) ?_
      exact e_iret dX10_at_34
set_option maxRecDepth 100000 in
set_option maxHeartbeats 4000000 in
theorem t_X10_at {E : qE} {Γ : qC} (G : q_Ok E Γ RX10 cX10_at 3 (9)) (w : qW) (a1 : Int32) (a2 : Int32) : q_Ev E Γ 3 (q_Fi E Γ cX10_at) 0 [some (.ref 0), some (.int a1), some (.int a2)] [] w (f_X10_at w a1 a2) := by
  unfold f_X10_at
  refine e_iload_n G (pc := 0) dX10_at_0 rfl rfl ?_
  refine e_bipush G (pc := 1) (v := 12) dX10_at_1 (by decide) ?_
  refine e_icmp_ne G (pc := 3) (tgt := 18) dX10_at_3 (by decide) ?_ ?_
  · exact t_X10_at_B18 G w a1 a2 
  · refine e_iload_n G (pc := 6) dX10_at_6 rfl rfl ?_
    refine e_if_ne G (pc := 7) (tgt := 18) dX10_at_7 (by decide) ?_ ?_
    · exact t_X10_at_B18 G w a1 a2 
    · refine e_aload_n G (pc := 10) dX10_at_10 rfl rfl ?_
      refine e_getF G (pc := 11) sh_0 rfl lk_X10_37 dX10_at_11 ?_
      refine e_cVi G (pc := 14) (As := []) (st := []) cv_X10_165 (c_X7_missesOfAll w  ) sh_10 (Nat.le_of_ble_eq_true rfl) rfl (Nat.le_of_ble_eq_true rfl) dX10_at_14 (fun r1 w2 => ?_)
      exact e_iret dX10_at_17
set_option maxRecDepth 100000 in
set_option maxHeartbeats 4000000 in
theorem c_X10_at (w : qW) (a1 : Int32) (a2 : Int32) : q_AC q_vi (some .int) (9) yX10_at cX10_at 3 [.ref 0, .int a1, .int a2] w (f_X10_at w a1 a2) := q_met_i (k := 0) (by decide +kernel) rfl rfl rfl (fun _ _ G => t_X10_at G w a1 a2 )
set_option maxRecDepth 100000 in
set_option maxHeartbeats 4000000 in
theorem t_X10_enough {E : qE} {Γ : qC} (G : q_Ok E Γ RX10 cX10_enough 2 (9)) (w : qW) (a1 : Int32) : q_Ev E Γ 2 (q_Fi E Γ cX10_enough) 0 [some (.ref 0), some (.int a1)] [] w (f_X10_enough w a1) := by
  unfold f_X10_enough
  refine e_iload_n G (pc := 0) dX10_enough_0 rfl rfl ?_
  refine e_ite (fun h5 => ?_) (fun h5 => ?_)
  · refine e_tsIn G (pc := 1) (off := 35) (tgt := 36) dX10_enough_1 (by rw [h5]; decide) (by rw [h5]; decide) (by rw [h5]; rfl) (by decide) ?_
    refine e_aload_n G (pc := 36) dX10_enough_36 rfl rfl ?_
    refine e_getF G (pc := 37) sh_0 rfl lk_X10_37 dX10_enough_37 ?_
    refine e_cVi G (pc := 40) (As := []) (st := []) cv_X10_174 (c_X7_fewest w  ) sh_10 (Nat.le_of_ble_eq_true rfl) rfl (Nat.le_of_ble_eq_true rfl) dX10_enough_40 (fun r1 w2 => ?_)
    refine e_cSi G (pc := 43) (ci := 0) (id := 0) (sl := []) (As := [.int r1]) (st := []) cs_X10_177 (c_J6_bitCount_0f7a4 w2 r1 ) (Nat.le_of_ble_eq_true rfl) rfl (Nat.le_of_ble_eq_true rfl) dX10_enough_43 (fun r3 w4 => ?_)
    exact e_iret dX10_enough_46
  refine e_ite (fun h8 => ?_) (fun h8 => ?_)
  · refine e_tsIn G (pc := 1) (off := 46) (tgt := 47) dX10_enough_1 (by rw [h8]; decide) (by rw [h8]; decide) (by rw [h8]; rfl) (by decide) ?_
    refine e_aload_n G (pc := 47) dX10_enough_47 rfl rfl ?_
    refine e_getF G (pc := 48) sh_0 rfl lk_X10_37 dX10_enough_48 ?_
    refine e_cVi G (pc := 51) (As := []) (st := []) cv_X10_174 (c_X7_fewest w  ) sh_10 (Nat.le_of_ble_eq_true rfl) rfl (Nat.le_of_ble_eq_true rfl) dX10_enough_51 (fun r6 w7 => ?_)
    exact e_iret dX10_enough_54
  refine e_ite (fun h11 => ?_) (fun h11 => ?_)
  · refine e_tsIn G (pc := 1) (off := 54) (tgt := 55) dX10_enough_1 (by rw [h11]; decide) (by rw [h11]; decide) (by rw [h11]; rfl) (by decide) ?_
    refine e_aload_n G (pc := 55) dX10_enough_55 rfl rfl ?_
    refine e_getF G (pc := 56) sh_0 rfl lk_X10_37 dX10_enough_56 ?_
    refine e_cVi G (pc := 59) (As := []) (st := []) cv_X10_182 (c_X7_cheapest w  ) sh_10 (Nat.le_of_ble_eq_true rfl) rfl (Nat.le_of_ble_eq_true rfl) dX10_enough_59 (fun r9 w10 => ?_)
    exact e_iret dX10_enough_62
  refine e_ite (fun h16 => ?_) (fun h16 => ?_)
  · refine e_tsIn G (pc := 1) (off := 62) (tgt := 63) dX10_enough_1 (by rw [h16]; decide) (by rw [h16]; decide) (by rw [h16]; rfl) (by decide) ?_
    refine e_aload_n G (pc := 63) dX10_enough_63 rfl rfl ?_
    refine e_getF G (pc := 64) sh_0 rfl lk_X10_10 dX10_enough_64 ?_
    refine e_aload_n G (pc := 67) dX10_enough_67 rfl rfl ?_
    refine e_getF G (pc := 68) sh_0 rfl lk_X10_37 dX10_enough_68 ?_
    refine e_cVi G (pc := 71) (As := []) (st := [.ref 1]) cv_X10_182 (c_X7_cheapest w  ) sh_10 (Nat.le_of_ble_eq_true rfl) rfl (Nat.le_of_ble_eq_true rfl) dX10_enough_71 (fun r12 w13 => ?_)
    refine e_cVi G (pc := 74) (As := [.int r12]) (st := []) cv_X10_185 (c_X4_payOf w13 r12 ) sh_1 (Nat.le_of_ble_eq_true rfl) rfl (Nat.le_of_ble_eq_true rfl) dX10_enough_74 (fun r14 w15 => ?_)
    exact e_iret dX10_enough_77
  refine e_ite (fun h19 => ?_) (fun h19 => ?_)
  · refine e_tsIn G (pc := 1) (off := 77) (tgt := 78) dX10_enough_1 (by rw [h19]; decide) (by rw [h19]; decide) (by rw [h19]; rfl) (by decide) ?_
    refine e_aload_n G (pc := 78) dX10_enough_78 rfl rfl ?_
    refine e_getF G (pc := 79) sh_0 rfl lk_X10_37 dX10_enough_79 ?_
    refine e_cVi G (pc := 82) (As := []) (st := []) cv_X10_188 (c_X7_needed w  ) sh_10 (Nat.le_of_ble_eq_true rfl) rfl (Nat.le_of_ble_eq_true rfl) dX10_enough_82 (fun r17 w18 => ?_)
    exact e_iret dX10_enough_85
  have h5 := lv_neT h5 (show (0 : Int32).toInt = 0 by decide)
  have h8 := lv_neT h8 (show (1 : Int32).toInt = 1 by decide)
  have h11 := lv_neT h11 (show (2 : Int32).toInt = 2 by decide)
  have h16 := lv_neT h16 (show (3 : Int32).toInt = 3 by decide)
  have h19 := lv_neT h19 (show (4 : Int32).toInt = 4 by decide)
  refine e_tsOut G (pc := 1) (tgt := 86) dX10_enough_1 (by omega) (by decide) ?_
  refine e_iconst G (pc := 86) (v := (-1)) dX10_enough_86 (by decide) ?_
  exact e_iret dX10_enough_87
set_option maxRecDepth 100000 in
set_option maxHeartbeats 4000000 in
theorem c_X10_enough (w : qW) (a1 : Int32) : q_AC q_vi (some .int) (9) yX10_enough cX10_enough 2 [.ref 0, .int a1] w (f_X10_enough w a1) := q_met_i (k := 0) (by decide +kernel) rfl rfl rfl (fun _ _ G => t_X10_enough G w a1 )
set_option maxRecDepth 100000 in
set_option maxHeartbeats 4000000 in
theorem t_X10_roster {E : qE} {Γ : qC} (G : q_Ok E Γ RX10 cX10_roster 2 (9)) (w : qW) (a1 : Int32) : q_Ev E Γ 2 (q_Fi E Γ cX10_roster) 0 [some (.ref 0), some (.int a1)] [] w (f_X10_roster w a1) := by
  unfold f_X10_roster
  refine e_iload_n G (pc := 0) dX10_roster_0 rfl rfl ?_
  refine e_bipush G (pc := 1) (v := 12) dX10_roster_1 (by decide) ?_
  refine e_icmp_ne G (pc := 3) (tgt := 14) dX10_roster_3 (by decide) ?_ ?_
  · refine e_iload_n G (pc := 14) dX10_roster_14 rfl rfl ?_
    refine e_cSi G (pc := 15) (ci := 0) (id := 0) (sl := []) (As := [.int a1]) (st := []) cs_X10_147 (c_X10_isHour w a1 ) (Nat.le_of_ble_eq_true rfl) rfl (Nat.le_of_ble_eq_true rfl) dX10_roster_15 (fun r1 w2 => ?_)
    refine e_if_eq G (pc := 18) (tgt := 32) dX10_roster_18 (by decide) ?_ ?_
    · refine e_iconst G (pc := 32) (v := (-1)) dX10_roster_32 (by decide) ?_
      exact e_iret dX10_roster_33
    · refine e_aload_n G (pc := 21) dX10_roster_21 rfl rfl ?_
      refine e_getF G (pc := 22) sh_0 rfl lk_X10_37 dX10_roster_22 ?_
      refine e_iload_n G (pc := 25) dX10_roster_25 rfl rfl ?_
      refine e_cVi G (pc := 26) (As := [.int a1]) (st := []) cv_X10_194 (c_X7_rosterAt w2 a1 ) sh_10 (Nat.le_of_ble_eq_true rfl) rfl (Nat.le_of_ble_eq_true rfl) dX10_roster_26 (fun r3 w4 => ?_)
      refine e_goto G (pc := 29) (tgt := 33) dX10_roster_29 (by decide) ?_
      exact e_iret dX10_roster_33
  · refine e_aload_n G (pc := 6) dX10_roster_6 rfl rfl ?_
    refine e_getF G (pc := 7) sh_0 rfl lk_X10_37 dX10_roster_7 ?_
    refine e_cVi G (pc := 10) (As := []) (st := []) cv_X10_191 (c_X7_payOfRosters w  ) sh_10 (Nat.le_of_ble_eq_true rfl) rfl (Nat.le_of_ble_eq_true rfl) dX10_roster_10 (fun r5 w6 => ?_)
    exact e_iret dX10_roster_13
set_option maxRecDepth 100000 in
set_option maxHeartbeats 4000000 in
theorem c_X10_roster (w : qW) (a1 : Int32) : q_AC q_vi (some .int) (9) yX10_roster cX10_roster 2 [.ref 0, .int a1] w (f_X10_roster w a1) := q_met_i (k := 0) (by decide +kernel) rfl rfl rfl (fun _ _ G => t_X10_roster G w a1 )
set_option maxRecDepth 100000 in
set_option maxHeartbeats 4000000 in
theorem t_X10_oneMore {E : qE} {Γ : qC} (G : q_Ok E Γ RX10 cX10_oneMore 4 (8)) (w : qW) (a1 : Int32) (a2 : Int32) : q_Ev E Γ 4 (q_Fi E Γ cX10_oneMore) 0 [some (.ref 0), some (.int a1), some (.int a2), none] [] w (f_X10_oneMore w a1 a2) := by
  unfold f_X10_oneMore
  refine e_aload_n G (pc := 0) dX10_oneMore_0 rfl rfl ?_
  refine e_getF G (pc := 1) sh_0 rfl lk_X10_10 dX10_oneMore_1 ?_
  refine e_iconst G (pc := 4) (v := 1) dX10_oneMore_4 (by decide) ?_
  refine e_iload_n G (pc := 5) dX10_oneMore_5 rfl rfl ?_
  refine e_cVi G (pc := 6) (As := [.int 1, .int a1]) (st := []) cv_X10_85 (c_X4_fits w 1 a1 ) sh_1 (Nat.le_of_ble_eq_true rfl) rfl (Nat.le_of_ble_eq_true rfl) dX10_oneMore_6 (fun r1 w2 => ?_)
  refine e_if_eq G (pc := 9) (tgt := 20) dX10_oneMore_9 (by decide) ?_ ?_
  · refine e_iconst G (pc := 20) (v := (-1)) dX10_oneMore_20 (by decide) ?_
    exact e_iret dX10_oneMore_21
  · refine e_iload_n G (pc := 12) dX10_oneMore_12 rfl rfl ?_
    refine e_iconst G (pc := 13) (v := 2) dX10_oneMore_13 (by decide) ?_
    refine e_cSi G (pc := 14) (ci := 0) (id := 0) (sl := []) (As := [.int a2, .int 2]) (st := []) cs_X10_150 (c_X10_isChoice w2 a2 2 ) (Nat.le_of_ble_eq_true rfl) rfl (Nat.le_of_ble_eq_true rfl) dX10_oneMore_14 (fun r3 w4 => ?_)
    refine e_if_ne G (pc := 17) (tgt := 22) dX10_oneMore_17 (by decide) ?_ ?_
    · refine e_aload_n G (pc := 22) dX10_oneMore_22 rfl rfl ?_
      refine e_getF G (pc := 23) sh_0 rfl lk_X10_37 dX10_oneMore_23 ?_
      refine e_iload_n G (pc := 26) dX10_oneMore_26 rfl rfl ?_
      refine e_cVi G (pc := 27) (As := [.int a1]) (st := []) cv_X10_197 (c_X7_bestCell w4 a1 ) sh_10 (Nat.le_of_ble_eq_true rfl) rfl (Nat.le_of_ble_eq_true rfl) dX10_oneMore_27 (fun r5 w6 => ?_)
      refine e_istore_n G (pc := 30) (L' := [some (.ref 0), some (.int a1), some (.int a2), some (.int r5)]) dX10_oneMore_30 rfl (Nat.le_of_ble_eq_true rfl) rfl ?_
      refine e_iload_n G (pc := 31) dX10_oneMore_31 rfl rfl ?_
      refine e_if_ne G (pc := 32) (tgt := 39) dX10_oneMore_32 (by decide) ?_ ?_
      · refine e_aload_n G (pc := 39) dX10_oneMore_39 rfl rfl ?_
        refine e_getF G (pc := 40) sh_0 rfl lk_X10_37 dX10_oneMore_40 ?_
        refine e_iload_n G (pc := 43) dX10_oneMore_43 rfl rfl ?_
        refine e_iload_n G (pc := 44) dX10_oneMore_44 rfl rfl ?_
        refine e_cVi G (pc := 45) (As := [.int a1, .int r5]) (st := []) cv_X10_200 (c_X7_missesBeside w6 a1 r5 ) sh_10 (Nat.le_of_ble_eq_true rfl) rfl (Nat.le_of_ble_eq_true rfl) dX10_oneMore_45 (fun r7 w8 => ?_)
        exact e_iret dX10_oneMore_48
      · refine e_iload_n G (pc := 35) dX10_oneMore_35 rfl rfl ?_
        refine e_goto G (pc := 36) (tgt := 48) dX10_oneMore_36 (by decide) ?_
        exact e_iret dX10_oneMore_48
    · refine e_iconst G (pc := 20) (v := (-1)) dX10_oneMore_20 (by decide) ?_
      exact e_iret dX10_oneMore_21
set_option maxRecDepth 100000 in
set_option maxHeartbeats 4000000 in
theorem c_X10_oneMore (w : qW) (a1 : Int32) (a2 : Int32) : q_AC q_vi (some .int) (8) yX10_oneMore cX10_oneMore 4 [.ref 0, .int a1, .int a2] w (f_X10_oneMore w a1 a2) := q_met_i (k := 1) (by decide +kernel) rfl rfl rfl (fun _ _ G => t_X10_oneMore G w a1 a2 )
set_option maxRecDepth 100000 in
set_option maxHeartbeats 4000000 in
theorem t_X10_step {E : qE} {Γ : qC} (G : q_Ok E Γ RX10 cX10_step 4 (8)) (w : qW) (a1 : Int32) (a2 : Int32) : q_Ev E Γ 4 (q_Fi E Γ cX10_step) 0 [some (.ref 0), some (.int a1), some (.int a2), none] [] w (f_X10_step w a1 a2) := by
  unfold f_X10_step
  refine e_aload_n G (pc := 0) dX10_step_0 rfl rfl ?_
  refine e_getF G (pc := 1) sh_0 rfl lk_X10_10 dX10_step_1 ?_
  refine e_iload_n G (pc := 4) dX10_step_4 rfl rfl ?_
  refine e_iconst G (pc := 5) (v := 0) dX10_step_5 (by decide) ?_
  refine e_cVi G (pc := 6) (As := [.int a1, .int 0]) (st := []) cv_X10_114 (c_X4_has w a1 0 ) sh_1 (Nat.le_of_ble_eq_true rfl) rfl (Nat.le_of_ble_eq_true rfl) dX10_step_6 (fun r1 w2 => ?_)
  refine e_if_eq G (pc := 9) (tgt := 20) dX10_step_9 (by decide) ?_ ?_
  · refine e_iconst G (pc := 20) (v := (-1)) dX10_step_20 (by decide) ?_
    exact e_iret dX10_step_21
  · refine e_iload_n G (pc := 12) dX10_step_12 rfl rfl ?_
    refine e_iconst G (pc := 13) (v := 2) dX10_step_13 (by decide) ?_
    refine e_cSi G (pc := 14) (ci := 0) (id := 0) (sl := []) (As := [.int a2, .int 2]) (st := []) cs_X10_150 (c_X10_isChoice w2 a2 2 ) (Nat.le_of_ble_eq_true rfl) rfl (Nat.le_of_ble_eq_true rfl) dX10_step_14 (fun r3 w4 => ?_)
    refine e_if_ne G (pc := 17) (tgt := 22) dX10_step_17 (by decide) ?_ ?_
    · refine e_aload_n G (pc := 22) dX10_step_22 rfl rfl ?_
      refine e_getF G (pc := 23) sh_0 rfl lk_X10_37 dX10_step_23 ?_
      refine e_iload_n G (pc := 26) dX10_step_26 rfl rfl ?_
      refine e_cVi G (pc := 27) (As := [.int a1]) (st := []) cv_X10_203 (c_X7_bestStep w4 a1 ) sh_10 (Nat.le_of_ble_eq_true rfl) rfl (Nat.le_of_ble_eq_true rfl) dX10_step_27 (fun r5 w6 => ?_)
      refine e_istore_n G (pc := 30) (L' := [some (.ref 0), some (.int a1), some (.int a2), some (.int r5)]) dX10_step_30 rfl (Nat.le_of_ble_eq_true rfl) rfl ?_
      refine e_iload_n G (pc := 31) dX10_step_31 rfl rfl ?_
      refine e_if_ne G (pc := 32) (tgt := 39) dX10_step_32 (by decide) ?_ ?_
      · refine e_aload_n G (pc := 39) dX10_step_39 rfl rfl ?_
        refine e_getF G (pc := 40) sh_0 rfl lk_X10_37 dX10_step_40 ?_
        refine e_iload_n G (pc := 43) dX10_step_43 rfl rfl ?_
        refine e_iload_n G (pc := 44) dX10_step_44 rfl rfl ?_
        refine e_cVi G (pc := 45) (As := [.int a1, .int r5]) (st := []) cv_X10_206 (c_X7_missesAfter w6 a1 r5 ) sh_10 (Nat.le_of_ble_eq_true rfl) rfl (Nat.le_of_ble_eq_true rfl) dX10_step_45 (fun r7 w8 => ?_)
        exact e_iret dX10_step_48
      · refine e_iload_n G (pc := 35) dX10_step_35 rfl rfl ?_
        refine e_goto G (pc := 36) (tgt := 48) dX10_step_36 (by decide) ?_
        exact e_iret dX10_step_48
    · refine e_iconst G (pc := 20) (v := (-1)) dX10_step_20 (by decide) ?_
      exact e_iret dX10_step_21
set_option maxRecDepth 100000 in
set_option maxHeartbeats 4000000 in
theorem c_X10_step (w : qW) (a1 : Int32) (a2 : Int32) : q_AC q_vi (some .int) (8) yX10_step cX10_step 4 [.ref 0, .int a1, .int a2] w (f_X10_step w a1 a2) := q_met_i (k := 1) (by decide +kernel) rfl rfl rfl (fun _ _ G => t_X10_step G w a1 a2 )
set_option maxRecDepth 100000 in
set_option maxHeartbeats 4000000 in
theorem t_X10_judge {E : qE} {Γ : qC} (G : q_Ok E Γ RX10 cX10_judge 4 (8)) (w : qW) (a1 : Int32) (a2 : Int32) : q_Ev E Γ 4 (q_Fi E Γ cX10_judge) 0 [some (.ref 0), some (.int a1), some (.int a2), none] [] w (f_X10_judge w a1 a2) := by
  unfold f_X10_judge
  refine e_iload_n G (pc := 0) dX10_judge_0 rfl rfl ?_
  refine e_cSi G (pc := 1) (ci := 0) (id := 0) (sl := []) (As := [.int a1]) (st := []) cs_X10_97 (c_X10_isShelf w a1 ) (Nat.le_of_ble_eq_true rfl) rfl (Nat.le_of_ble_eq_true rfl) dX10_judge_1 (fun r1 w2 => ?_)
  refine e_if_eq G (pc := 4) (tgt := 14) dX10_judge_4 (by decide) ?_ ?_
  · refine e_iconst G (pc := 14) (v := (-1)) dX10_judge_14 (by decide) ?_
    exact e_iret dX10_judge_15
  · refine e_iload_n G (pc := 7) dX10_judge_7 rfl rfl ?_
    refine e_cSi G (pc := 8) (ci := 0) (id := 0) (sl := []) (As := [.int a2]) (st := []) cs_X10_147 (c_X10_isHour w2 a2 ) (Nat.le_of_ble_eq_true rfl) rfl (Nat.le_of_ble_eq_true rfl) dX10_judge_8 (fun r3 w4 => ?_)
    refine e_if_ne G (pc := 11) (tgt := 16) dX10_judge_11 (by decide) ?_ ?_
    · refine e_aload_n G (pc := 16) dX10_judge_16 rfl rfl ?_
      refine e_getF G (pc := 17) sh_0 rfl lk_X10_80 dX10_judge_17 ?_
      refine e_iload_n G (pc := 20) dX10_judge_20 rfl rfl ?_
      refine e_aald G (pc := 21) dX10_judge_21 (fun id5 hs6 => ?_)
      refine e_iconst G (pc := 22) (v := 0) dX10_judge_22 (by decide) ?_
      refine e_cVi G (pc := 23) (As := [.int 0]) (st := []) cv_X10_209 (c_X6_refusalAs w4 id5 0 hs6) hs6.1 (Nat.le_of_ble_eq_true rfl) rfl (Nat.le_of_ble_eq_true rfl) dX10_judge_23 (fun r7 w8 => ?_)
      refine e_istore_n G (pc := 26) (L' := [some (.ref 0), some (.int a1), some (.int a2), some (.int r7)]) dX10_judge_26 rfl (Nat.le_of_ble_eq_true rfl) rfl ?_
      refine e_iload_n G (pc := 27) dX10_judge_27 rfl rfl ?_
      refine e_if_eq G (pc := 28) (tgt := 33) dX10_judge_28 (by decide) ?_ ?_
      · refine e_aload_n G (pc := 33) dX10_judge_33 rfl rfl ?_
        refine e_getF G (pc := 34) sh_0 rfl lk_X10_44 dX10_judge_34 ?_
        refine e_aload_n G (pc := 37) dX10_judge_37 rfl rfl ?_
        refine e_getF G (pc := 38) sh_0 rfl lk_X10_80 dX10_judge_38 ?_
        refine e_iload_n G (pc := 41) dX10_judge_41 rfl rfl ?_
        refine e_aald G (pc := 42) dX10_judge_42 (fun id9 hs10 => ?_)
        refine e_cVv G (pc := 43) (As := [.ref id9]) (st := []) cv_X10_212 (c_X0_open w8 id9 hs10) sh_16 (Nat.le_of_ble_eq_true rfl) rfl (Nat.le_of_ble_eq_true rfl) dX10_judge_43 (fun r11 w12 => ?_)
        refine e_aload_n G (pc := 46) dX10_judge_46 rfl rfl ?_
        refine e_getF G (pc := 47) sh_0 rfl lk_X10_44 dX10_judge_47 ?_
        refine e_iload_n G (pc := 50) dX10_judge_50 rfl rfl ?_
        refine e_cVi G (pc := 51) (As := [.int a2]) (st := []) cv_X10_216 (c_X0_firstWrong w12 a2 ) sh_16 (Nat.le_of_ble_eq_true rfl) rfl (Nat.le_of_ble_eq_true rfl) dX10_judge_51 (fun r13 w14 => ?_)
        exact e_iret dX10_judge_54
      · refine e_iload_n G (pc := 31) dX10_judge_31 rfl rfl ?_
        exact e_iret dX10_judge_32
    · refine e_iconst G (pc := 14) (v := (-1)) dX10_judge_14 (by decide) ?_
      exact e_iret dX10_judge_15
set_option maxRecDepth 100000 in
set_option maxHeartbeats 4000000 in
theorem c_X10_judge (w : qW) (a1 : Int32) (a2 : Int32) : q_AC q_vi (some .int) (8) yX10_judge cX10_judge 4 [.ref 0, .int a1, .int a2] w (f_X10_judge w a1 a2) := q_met_i (k := 1) (by decide +kernel) rfl rfl rfl (fun _ _ G => t_X10_judge G w a1 a2 )
set_option maxRecDepth 100000 in
set_option maxHeartbeats 4000000 in
theorem t_X10_stood {E : qE} {Γ : qC} (G : q_Ok E Γ RX10 cX10_stood 7 (8)) (w : qW) (a1 : Int32) (a2 : Int32) (a3 : Int32) : q_Ev E Γ 7 (q_Fi E Γ cX10_stood) 0 [some (.ref 0), some (.int a1), some (.int a2), some (.int a3), none, none, none] [] w (f_X10_stood w a1 a2 a3) := by
  unfold f_X10_stood
  refine e_iload_n G (pc := 0) dX10_stood_0 rfl rfl ?_
  refine e_bipush G (pc := 1) (v := 100) dX10_stood_1 (by decide) ?_
  refine e_idiv G (pc := 3) dX10_stood_3 (by decide) ?_
  refine e_ti (fun v1 => ?_)
  refine e_istore G (pc := 4) (L' := [some (.ref 0), some (.int a1), some (.int a2), some (.int a3), some (.int v1), none, none]) dX10_stood_4 (Nat.le_of_ble_eq_true rfl) rfl ?_
  refine e_iload_n G (pc := 6) dX10_stood_6 rfl rfl ?_
  refine e_bipush G (pc := 7) (v := 100) dX10_stood_7 (by decide) ?_
  refine e_irem G (pc := 9) dX10_stood_9 (by decide) ?_
  refine e_ti (fun v2 => ?_)
  refine e_istore G (pc := 10) (L' := [some (.ref 0), some (.int a1), some (.int a2), some (.int a3), some (.int v1), some (.int v2), none]) dX10_stood_10 (Nat.le_of_ble_eq_true rfl) rfl ?_
  refine e_iload_n G (pc := 12) dX10_stood_12 rfl rfl ?_
  refine e_cSi G (pc := 13) (ci := 0) (id := 0) (sl := []) (As := [.int a1]) (st := []) cs_X10_97 (c_X10_isShelf w a1 ) (Nat.le_of_ble_eq_true rfl) rfl (Nat.le_of_ble_eq_true rfl) dX10_stood_13 (fun r3 w4 => ?_)
  refine e_if_eq G (pc := 16) (tgt := 51) dX10_stood_16 (by decide) ?_ ?_
  · refine e_iconst G (pc := 51) (v := (-1)) dX10_stood_51 (by decide) ?_
    exact e_iret dX10_stood_52
  · refine e_iload_n G (pc := 19) dX10_stood_19 rfl rfl ?_
    refine e_if_lt G (pc := 20) (tgt := 51) dX10_stood_20 (by decide) ?_ ?_
    · refine e_iconst G (pc := 51) (v := (-1)) dX10_stood_51 (by decide) ?_
      exact e_iret dX10_stood_52
    · refine e_iload G (pc := 23) dX10_stood_23 rfl ?_
      refine e_aload_n G (pc := 25) dX10_stood_25 rfl rfl ?_
      refine e_getF G (pc := 26) sh_0 rfl lk_X10_10 dX10_stood_26 ?_
      refine e_getI G (pc := 29) sh_1 rfl lk_X10_132 dX10_stood_29 ?_
      refine e_icmp_ge G (pc := 32) (tgt := 51) dX10_stood_32 (by decide) ?_ ?_
      · refine e_iconst G (pc := 51) (v := (-1)) dX10_stood_51 (by decide) ?_
        exact e_iret dX10_stood_52
      · refine e_iload G (pc := 35) dX10_stood_35 rfl ?_
        refine e_cSi G (pc := 37) (ci := 0) (id := 0) (sl := []) (As := [.int v2]) (st := []) cs_X10_147 (c_X10_isHour w4 v2 ) (Nat.le_of_ble_eq_true rfl) rfl (Nat.le_of_ble_eq_true rfl) dX10_stood_37 (fun r5 w6 => ?_)
        refine e_if_eq G (pc := 40) (tgt := 51) dX10_stood_40 (by decide) ?_ ?_
        · refine e_iconst G (pc := 51) (v := (-1)) dX10_stood_51 (by decide) ?_
          exact e_iret dX10_stood_52
        · refine e_iload_n G (pc := 43) dX10_stood_43 rfl rfl ?_
          refine e_iconst G (pc := 44) (v := 3) dX10_stood_44 (by decide) ?_
          refine e_cSi G (pc := 45) (ci := 0) (id := 0) (sl := []) (As := [.int a3, .int 3]) (st := []) cs_X10_150 (c_X10_isChoice w6 a3 3 ) (Nat.le_of_ble_eq_true rfl) rfl (Nat.le_of_ble_eq_true rfl) dX10_stood_45 (fun r7 w8 => ?_)
          refine e_if_ne G (pc := 48) (tgt := 53) dX10_stood_48 (by decide) ?_ ?_
          · refine e_aload_n G (pc := 53) dX10_stood_53 rfl rfl ?_
            refine e_getF G (pc := 54) sh_0 rfl lk_X10_80 dX10_stood_54 ?_
            refine e_iload_n G (pc := 57) dX10_stood_57 rfl rfl ?_
            refine e_aald G (pc := 58) dX10_stood_58 (fun id9 hs10 => ?_)
            refine e_iconst G (pc := 59) (v := 0) dX10_stood_59 (by decide) ?_
            refine e_cVi G (pc := 60) (As := [.int 0]) (st := []) cv_X10_209 (c_X6_refusalAs w8 id9 0 hs10) hs10.1 (Nat.le_of_ble_eq_true rfl) rfl (Nat.le_of_ble_eq_true rfl) dX10_stood_60 (fun r11 w12 => ?_)
            refine e_istore G (pc := 63) (L' := [some (.ref 0), some (.int a1), some (.int a2), some (.int a3), some (.int v1), some (.int v2), some (.int r11)]) dX10_stood_63 (Nat.le_of_ble_eq_true rfl) rfl ?_
            refine e_iload G (pc := 65) dX10_stood_65 rfl ?_
            refine e_if_eq G (pc := 67) (tgt := 73) dX10_stood_67 (by decide) ?_ ?_
            · refine e_aload_n G (pc := 73) dX10_stood_73 rfl rfl ?_
              refine e_getF G (pc := 74) sh_0 rfl lk_X10_44 dX10_stood_74 ?_
              refine e_aload_n G (pc := 77) dX10_stood_77 rfl rfl ?_
              refine e_getF G (pc := 78) sh_0 rfl lk_X10_80 dX10_stood_78 ?_
              refine e_iload_n G (pc := 81) dX10_stood_81 rfl rfl ?_
              refine e_aald G (pc := 82) dX10_stood_82 (fun id13 hs14 => ?_)
              refine e_cVv G (pc := 83) (As := [.ref id13]) (st := []) cv_X10_212 (c_X0_open w12 id13 hs14) sh_16 (Nat.le_of_ble_eq_true rfl) rfl (Nat.le_of_ble_eq_true rfl) dX10_stood_83 (fun r15 w16 => ?_)
              refine e_aload_n G (pc := 86) dX10_stood_86 rfl rfl ?_
              refine e_getF G (pc := 87) sh_0 rfl lk_X10_44 dX10_stood_87 ?_
              refine e_iload G (pc := 90) dX10_stood_90 rfl ?_
              refine e_iload G (pc := 92) dX10_stood_92 rfl ?_
              refine e_cVv G (pc := 94) (As := [.int v1, .int v2]) (st := []) cv_X10_219 (c_X0_leaveOut w16 v1 v2 ) sh_16 (Nat.le_of_ble_eq_true rfl) rfl (Nat.le_of_ble_eq_true rfl) dX10_stood_94 (fun r17 w18 => ?_)
              refine e_iload_n G (pc := 97) dX10_stood_97 rfl rfl ?_
              refine e_ite (fun h21 => ?_) (fun h21 => ?_)
              · refine e_lsw G (pc := 98) (off := 26) (tgt := 124) dX10_stood_98 (by decide) (by rw [h21]; rfl) (by decide) ?_
                refine e_aload_n G (pc := 124) dX10_stood_124 rfl rfl ?_
                refine e_getF G (pc := 125) sh_0 rfl lk_X10_44 dX10_stood_125 ?_
                refine e_cVi G (pc := 128) (As := []) (st := []) cv_X10_223 (c_X0_cellsThatFit w18  ) sh_16 (Nat.le_of_ble_eq_true rfl) rfl (Nat.le_of_ble_eq_true rfl) dX10_stood_128 (fun r19 w20 => ?_)
                exact e_iret dX10_stood_131
              refine e_ite (fun h24 => ?_) (fun h24 => ?_)
              · refine e_lsw G (pc := 98) (off := 34) (tgt := 132) dX10_stood_98 (by decide) (by rw [h24]; rfl) (by decide) ?_
                refine e_aload_n G (pc := 132) dX10_stood_132 rfl rfl ?_
                refine e_getF G (pc := 133) sh_0 rfl lk_X10_44 dX10_stood_133 ?_
                refine e_cVi G (pc := 136) (As := []) (st := []) cv_X10_226 (c_X0_leastCellThatFits w18  ) sh_16 (Nat.le_of_ble_eq_true rfl) rfl (Nat.le_of_ble_eq_true rfl) dX10_stood_136 (fun r22 w23 => ?_)
                exact e_iret dX10_stood_139
              refine e_lsw G (pc := 98) (off := 42) (tgt := 140) dX10_stood_98 (by decide) ((lv_osw h21 (show (0 : Int32).toInt = 0 by decide)).trans ((lv_osw h24 (show (1 : Int32).toInt = 1 by decide)).trans (rfl))) (by decide) ?_
              refine e_aload_n G (pc := 140) dX10_stood_140 rfl rfl ?_
              refine e_getF G (pc := 141) sh_0 rfl lk_X10_44 dX10_stood_141 ?_
              refine e_cVi G (pc := 144) (As := []) (st := []) cv_X10_229 (c_X0_kindsThatFit w18  ) sh_16 (Nat.le_of_ble_eq_true rfl) rfl (Nat.le_of_ble_eq_true rfl) dX10_stood_144 (fun r25 w26 => ?_)
              exact e_iret dX10_stood_147
            · refine e_iload G (pc := 70) dX10_stood_70 rfl ?_
              exact e_iret dX10_stood_72
          · refine e_iconst G (pc := 51) (v := (-1)) dX10_stood_51 (by decide) ?_
            exact e_iret dX10_stood_52
set_option maxRecDepth 100000 in
set_option maxHeartbeats 4000000 in
theorem c_X10_stood (w : qW) (a1 : Int32) (a2 : Int32) (a3 : Int32) : q_AC q_vi (some .int) (8) yX10_stood cX10_stood 7 [.ref 0, .int a1, .int a2, .int a3] w (f_X10_stood w a1 a2 a3) := q_met_i (k := 3) (by decide +kernel) rfl rfl rfl (fun _ _ G => t_X10_stood G w a1 a2 a3 )
set_option maxRecDepth 100000 in
set_option maxHeartbeats 4000000 in
theorem t_X10_who {E : qE} {Γ : qC} (G : q_Ok E Γ RX10 cX10_who 5 (7)) (w : qW) (a1 : Int32) (a2 : Int32) (a3 : Int32) : q_Ev E Γ 5 (q_Fi E Γ cX10_who) 0 [some (.ref 0), some (.int a1), some (.int a2), some (.int a3), none] [] w (f_X10_who w a1 a2 a3) := by
  unfold f_X10_who
  refine e_iload_n G (pc := 0) dX10_who_0 rfl rfl ?_
  refine e_cSi G (pc := 1) (ci := 0) (id := 0) (sl := []) (As := [.int a1]) (st := []) cs_X10_97 (c_X10_isShelf w a1 ) (Nat.le_of_ble_eq_true rfl) rfl (Nat.le_of_ble_eq_true rfl) dX10_who_1 (fun r1 w2 => ?_)
  refine e_if_eq G (pc := 4) (tgt := 22) dX10_who_4 (by decide) ?_ ?_
  · refine e_iconst G (pc := 22) (v := (-1)) dX10_who_22 (by decide) ?_
    exact e_iret dX10_who_23
  · refine e_iload_n G (pc := 7) dX10_who_7 rfl rfl ?_
    refine e_cSi G (pc := 8) (ci := 0) (id := 0) (sl := []) (As := [.int a2]) (st := []) cs_X10_147 (c_X10_isHour w2 a2 ) (Nat.le_of_ble_eq_true rfl) rfl (Nat.le_of_ble_eq_true rfl) dX10_who_8 (fun r3 w4 => ?_)
    refine e_if_eq G (pc := 11) (tgt := 22) dX10_who_11 (by decide) ?_ ?_
    · refine e_iconst G (pc := 22) (v := (-1)) dX10_who_22 (by decide) ?_
      exact e_iret dX10_who_23
    · refine e_iload_n G (pc := 14) dX10_who_14 rfl rfl ?_
      refine e_iconst G (pc := 15) (v := 3) dX10_who_15 (by decide) ?_
      refine e_cSi G (pc := 16) (ci := 0) (id := 0) (sl := []) (As := [.int a3, .int 3]) (st := []) cs_X10_150 (c_X10_isChoice w4 a3 3 ) (Nat.le_of_ble_eq_true rfl) rfl (Nat.le_of_ble_eq_true rfl) dX10_who_16 (fun r5 w6 => ?_)
      refine e_if_ne G (pc := 19) (tgt := 24) dX10_who_19 (by decide) ?_ ?_
      · refine e_aload_n G (pc := 24) dX10_who_24 rfl rfl ?_
        refine e_getF G (pc := 25) sh_0 rfl lk_X10_80 dX10_who_25 ?_
        refine e_iload_n G (pc := 28) dX10_who_28 rfl rfl ?_
        refine e_aald G (pc := 29) dX10_who_29 (fun id7 hs8 => ?_)
        refine e_iconst G (pc := 30) (v := 0) dX10_who_30 (by decide) ?_
        refine e_cVi G (pc := 31) (As := [.int 0]) (st := []) cv_X10_209 (c_X6_refusalAs w6 id7 0 hs8) hs8.1 (Nat.le_of_ble_eq_true rfl) rfl (Nat.le_of_ble_eq_true rfl) dX10_who_31 (fun r9 w10 => ?_)
        refine e_istore G (pc := 34) (L' := [some (.ref 0), some (.int a1), some (.int a2), some (.int a3), some (.int r9)]) dX10_who_34 (Nat.le_of_ble_eq_true rfl) rfl ?_
        refine e_iload G (pc := 36) dX10_who_36 rfl ?_
        refine e_if_eq G (pc := 38) (tgt := 44) dX10_who_38 (by decide) ?_ ?_
        · refine e_aload_n G (pc := 44) dX10_who_44 rfl rfl ?_
          refine e_getF G (pc := 45) sh_0 rfl lk_X10_44 dX10_who_45 ?_
          refine e_aload_n G (pc := 48) dX10_who_48 rfl rfl ?_
          refine e_getF G (pc := 49) sh_0 rfl lk_X10_80 dX10_who_49 ?_
          refine e_iload_n G (pc := 52) dX10_who_52 rfl rfl ?_
          refine e_aald G (pc := 53) dX10_who_53 (fun id11 hs12 => ?_)
          refine e_cVv G (pc := 54) (As := [.ref id11]) (st := []) cv_X10_212 (c_X0_open w10 id11 hs12) sh_16 (Nat.le_of_ble_eq_true rfl) rfl (Nat.le_of_ble_eq_true rfl) dX10_who_54 (fun r13 w14 => ?_)
          refine e_aload_n G (pc := 57) dX10_who_57 rfl rfl ?_
          refine e_getF G (pc := 58) sh_0 rfl lk_X10_44 dX10_who_58 ?_
          refine e_iload_n G (pc := 61) dX10_who_61 rfl rfl ?_
          refine e_cVv G (pc := 62) (As := [.int a2]) (st := []) cv_X10_232 (c_X0_weighMen w14 a2 ) sh_16 (Nat.le_of_ble_eq_true rfl) rfl (Nat.le_of_ble_eq_true rfl) dX10_who_62 (fun r15 w16 => ?_)
          refine e_iload_n G (pc := 65) dX10_who_65 rfl rfl ?_
          refine e_ite (fun h19 => ?_) (fun h19 => ?_)
          · refine e_lsw G (pc := 66) (off := 26) (tgt := 92) dX10_who_66 (by decide) (by rw [h19]; rfl) (by decide) ?_
            refine e_aload_n G (pc := 92) dX10_who_92 rfl rfl ?_
            refine e_getF G (pc := 93) sh_0 rfl lk_X10_44 dX10_who_93 ?_
            refine e_cVi G (pc := 96) (As := []) (st := []) cv_X10_236 (c_X0_setsThatFit w16  ) sh_16 (Nat.le_of_ble_eq_true rfl) rfl (Nat.le_of_ble_eq_true rfl) dX10_who_96 (fun r17 w18 => ?_)
            exact e_iret dX10_who_99
          refine e_ite (fun h22 => ?_) (fun h22 => ?_)
          · refine e_lsw G (pc := 66) (off := 34) (tgt := 100) dX10_who_66 (by decide) (by rw [h22]; rfl) (by decide) ?_
            refine e_aload_n G (pc := 100) dX10_who_100 rfl rfl ?_
            refine e_getF G (pc := 101) sh_0 rfl lk_X10_44 dX10_who_101 ?_
            refine e_cVi G (pc := 104) (As := []) (st := []) cv_X10_239 (c_X0_leastSetThatFits w16  ) sh_16 (Nat.le_of_ble_eq_true rfl) rfl (Nat.le_of_ble_eq_true rfl) dX10_who_104 (fun r20 w21 => ?_)
            exact e_iret dX10_who_107
          refine e_lsw G (pc := 66) (off := 42) (tgt := 108) dX10_who_66 (by decide) ((lv_osw h19 (show (0 : Int32).toInt = 0 by decide)).trans ((lv_osw h22 (show (1 : Int32).toInt = 1 by decide)).trans (rfl))) (by decide) ?_
          refine e_aload_n G (pc := 108) dX10_who_108 rfl rfl ?_
          refine e_getF G (pc := 109) sh_0 rfl lk_X10_44 dX10_who_109 ?_
          refine e_cVi G (pc := 112) (As := []) (st := []) cv_X10_242 (c_X0_certain w16  ) sh_16 (Nat.le_of_ble_eq_true rfl) rfl (Nat.le_of_ble_eq_true rfl) dX10_who_112 (fun r23 w24 => ?_)
          exact e_iret dX10_who_115
        · refine e_iload G (pc := 41) dX10_who_41 rfl ?_
          exact e_iret dX10_who_43
      · refine e_iconst G (pc := 22) (v := (-1)) dX10_who_22 (by decide) ?_
        exact e_iret dX10_who_23
set_option maxRecDepth 100000 in
set_option maxHeartbeats 4000000 in
theorem c_X10_who (w : qW) (a1 : Int32) (a2 : Int32) (a3 : Int32) : q_AC q_vi (some .int) (7) yX10_who cX10_who 5 [.ref 0, .int a1, .int a2, .int a3] w (f_X10_who w a1 a2 a3) := q_met_i (k := 1) (by decide +kernel) rfl rfl rfl (fun _ _ G => t_X10_who G w a1 a2 a3 )
set_option maxRecDepth 100000 in
set_option maxHeartbeats 4000000 in
theorem t_X10_wish_B53 {E : qE} {Γ : qC} (G : q_Ok E Γ RX10 cX10_wish 4 (4)) (w : qW) (s0 : Int32) (j1 : Nat) (g1 : q_shelf j1) : q_Ev E Γ 4 (q_Fi E Γ cX10_wish) 53 [none, none, none, none] [.int s0, .ref j1, .ref 16] w (f_X10_wish_B53 w s0 j1) := by
  unfold f_X10_wish_B53
  refine e_cVi G (pc := 53) (As := [.ref j1, .int s0]) (st := []) cv_X10_245 (c_X0_wishOf w j1 s0 g1) sh_16 (Nat.le_of_ble_eq_true rfl) rfl (Nat.le_of_ble_eq_true rfl) dX10_wish_53 (fun r1 w2 => ?_)
  exact e_iret dX10_wish_56
set_option maxRecDepth 100000 in
set_option maxHeartbeats 4000000 in
theorem t_X10_wish {E : qE} {Γ : qC} (G : q_Ok E Γ RX10 cX10_wish 4 (4)) (w : qW) (a1 : Int32) (a2 : Int32) : q_Ev E Γ 4 (q_Fi E Γ cX10_wish) 0 [some (.ref 0), some (.int a1), some (.int a2), none] [] w (f_X10_wish w a1 a2) := by
  unfold f_X10_wish
  refine e_iload_n G (pc := 0) dX10_wish_0 rfl rfl ?_
  refine e_cSi G (pc := 1) (ci := 0) (id := 0) (sl := []) (As := [.int a1]) (st := []) cs_X10_97 (c_X10_isShelf w a1 ) (Nat.le_of_ble_eq_true rfl) rfl (Nat.le_of_ble_eq_true rfl) dX10_wish_1 (fun r1 w2 => ?_)
  refine e_if_eq G (pc := 4) (tgt := 15) dX10_wish_4 (by decide) ?_ ?_
  · refine e_iconst G (pc := 15) (v := (-1)) dX10_wish_15 (by decide) ?_
    exact e_iret dX10_wish_16
  · refine e_iload_n G (pc := 7) dX10_wish_7 rfl rfl ?_
    refine e_iconst G (pc := 8) (v := 2) dX10_wish_8 (by decide) ?_
    refine e_cSi G (pc := 9) (ci := 0) (id := 0) (sl := []) (As := [.int a2, .int 2]) (st := []) cs_X10_150 (c_X10_isChoice w2 a2 2 ) (Nat.le_of_ble_eq_true rfl) rfl (Nat.le_of_ble_eq_true rfl) dX10_wish_9 (fun r3 w4 => ?_)
    refine e_if_ne G (pc := 12) (tgt := 17) dX10_wish_12 (by decide) ?_ ?_
    · refine e_aload_n G (pc := 17) dX10_wish_17 rfl rfl ?_
      refine e_getF G (pc := 18) sh_0 rfl lk_X10_80 dX10_wish_18 ?_
      refine e_iload_n G (pc := 21) dX10_wish_21 rfl rfl ?_
      refine e_aald G (pc := 22) dX10_wish_22 (fun id5 hs6 => ?_)
      refine e_iconst G (pc := 23) (v := 1) dX10_wish_23 (by decide) ?_
      refine e_cVi G (pc := 24) (As := [.int 1]) (st := []) cv_X10_209 (c_X6_refusalAs w4 id5 1 hs6) hs6.1 (Nat.le_of_ble_eq_true rfl) rfl (Nat.le_of_ble_eq_true rfl) dX10_wish_24 (fun r7 w8 => ?_)
      refine e_istore_n G (pc := 27) (L' := [some (.ref 0), some (.int a1), some (.int a2), some (.int r7)]) dX10_wish_27 rfl (Nat.le_of_ble_eq_true rfl) rfl ?_
      refine e_iload_n G (pc := 28) dX10_wish_28 rfl rfl ?_
      refine e_if_eq G (pc := 29) (tgt := 34) dX10_wish_29 (by decide) ?_ ?_
      · refine e_aload_n G (pc := 34) dX10_wish_34 rfl rfl ?_
        refine e_getF G (pc := 35) sh_0 rfl lk_X10_44 dX10_wish_35 ?_
        refine e_aload_n G (pc := 38) dX10_wish_38 rfl rfl ?_
        refine e_getF G (pc := 39) sh_0 rfl lk_X10_80 dX10_wish_39 ?_
        refine e_iload_n G (pc := 42) dX10_wish_42 rfl rfl ?_
        refine e_aald G (pc := 43) dX10_wish_43 (fun id9 hs10 => ?_)
        refine e_iload_n G (pc := 44) dX10_wish_44 rfl rfl ?_
        refine e_if_ne G (pc := 45) (tgt := 52) dX10_wish_45 (by decide) ?_ ?_
        · refine e_iconst G (pc := 52) (v := 0) dX10_wish_52 (by decide) ?_
          refine e_wk (L' := [none, none, none, none]) (trivial) ?_
          exact t_X10_wish_B53 G w8 0 id9 hs10
        · refine e_iconst G (pc := 48) (v := 1) dX10_wish_48 (by decide) ?_
          refine e_goto G (pc := 49) (tgt := 53) dX10_wish_49 (by decide) ?_
          refine e_wk (L' := [none, none, none, none]) (trivial) ?_
          exact t_X10_wish_B53 G w8 1 id9 hs10
      · refine e_iload_n G (pc := 32) dX10_wish_32 rfl rfl ?_
        exact e_iret dX10_wish_33
    · refine e_iconst G (pc := 15) (v := (-1)) dX10_wish_15 (by decide) ?_
      exact e_iret dX10_wish_16
set_option maxRecDepth 100000 in
set_option maxHeartbeats 4000000 in
theorem c_X10_wish (w : qW) (a1 : Int32) (a2 : Int32) : q_AC q_vi (some .int) (4) yX10_wish cX10_wish 4 [.ref 0, .int a1, .int a2] w (f_X10_wish w a1 a2) := q_met_i (k := 1) (by decide +kernel) rfl rfl rfl (fun _ _ G => t_X10_wish G w a1 a2 )
set_option maxRecDepth 100000 in
set_option maxHeartbeats 4000000 in
theorem t_X10_share {E : qE} {Γ : qC} (G : q_Ok E Γ RX10 cX10_share 5 (8)) (w : qW) (a1 : Int32) (a2 : Int32) : q_Ev E Γ 5 (q_Fi E Γ cX10_share) 0 [some (.ref 0), some (.int a1), some (.int a2), none, none] [] w (f_X10_share w a1 a2) := by
  unfold f_X10_share
  refine e_iload_n G (pc := 0) dX10_share_0 rfl rfl ?_
  refine e_bipush G (pc := 1) (v := 100) dX10_share_1 (by decide) ?_
  refine e_idiv G (pc := 3) dX10_share_3 (by decide) ?_
  refine e_ti (fun v1 => ?_)
  refine e_istore_n G (pc := 4) (L' := [some (.ref 0), some (.int a1), some (.int a2), some (.int v1), none]) dX10_share_4 rfl (Nat.le_of_ble_eq_true rfl) rfl ?_
  refine e_iload_n G (pc := 5) dX10_share_5 rfl rfl ?_
  refine e_bipush G (pc := 6) (v := 100) dX10_share_6 (by decide) ?_
  refine e_irem G (pc := 8) dX10_share_8 (by decide) ?_
  refine e_ti (fun v2 => ?_)
  refine e_istore G (pc := 9) (L' := [some (.ref 0), some (.int a1), some (.int a2), some (.int v1), some (.int v2)]) dX10_share_9 (Nat.le_of_ble_eq_true rfl) rfl ?_
  refine e_iload_n G (pc := 11) dX10_share_11 rfl rfl ?_
  refine e_if_lt G (pc := 12) (tgt := 45) dX10_share_12 (by decide) ?_ ?_
  · refine e_iconst G (pc := 45) (v := (-1)) dX10_share_45 (by decide) ?_
    exact e_iret dX10_share_46
  · refine e_iload_n G (pc := 15) dX10_share_15 rfl rfl ?_
    refine e_aload_n G (pc := 16) dX10_share_16 rfl rfl ?_
    refine e_getF G (pc := 17) sh_0 rfl lk_X10_10 dX10_share_17 ?_
    refine e_getI G (pc := 20) sh_1 rfl lk_X10_132 dX10_share_20 ?_
    refine e_icmp_ge G (pc := 23) (tgt := 45) dX10_share_23 (by decide) ?_ ?_
    · refine e_iconst G (pc := 45) (v := (-1)) dX10_share_45 (by decide) ?_
      exact e_iret dX10_share_46
    · refine e_iload G (pc := 26) dX10_share_26 rfl ?_
      refine e_cSi G (pc := 28) (ci := 0) (id := 0) (sl := []) (As := [.int v2]) (st := []) cs_X10_147 (c_X10_isHour w v2 ) (Nat.le_of_ble_eq_true rfl) rfl (Nat.le_of_ble_eq_true rfl) dX10_share_28 (fun r3 w4 => ?_)
      refine e_if_eq G (pc := 31) (tgt := 45) dX10_share_31 (by decide) ?_ ?_
      · refine e_iconst G (pc := 45) (v := (-1)) dX10_share_45 (by decide) ?_
        exact e_iret dX10_share_46
      · refine e_iload_n G (pc := 34) dX10_share_34 rfl rfl ?_
        refine e_if_lt G (pc := 35) (tgt := 45) dX10_share_35 (by decide) ?_ ?_
        · refine e_iconst G (pc := 45) (v := (-1)) dX10_share_45 (by decide) ?_
          exact e_iret dX10_share_46
        · refine e_iload_n G (pc := 38) dX10_share_38 rfl rfl ?_
          refine e_sipush G (pc := 39) (v := 9999) dX10_share_39 (by decide) ?_
          refine e_icmp_le G (pc := 42) (tgt := 47) dX10_share_42 (by decide) ?_ ?_
          · refine e_aload_n G (pc := 47) dX10_share_47 rfl rfl ?_
            refine e_getF G (pc := 48) sh_0 rfl lk_X10_37 dX10_share_48 ?_
            refine e_iload_n G (pc := 51) dX10_share_51 rfl rfl ?_
            refine e_iload G (pc := 52) dX10_share_52 rfl ?_
            refine e_iload_n G (pc := 54) dX10_share_54 rfl rfl ?_
            refine e_cVi G (pc := 55) (As := [.int v1, .int v2, .int a2]) (st := []) cv_X10_249 (c_X7_shareOf w4 v1 v2 a2 ) sh_10 (Nat.le_of_ble_eq_true rfl) rfl (Nat.le_of_ble_eq_true rfl) dX10_share_55 (fun r5 w6 => ?_)
            exact e_iret dX10_share_58
          · refine e_iconst G (pc := 45) (v := (-1)) dX10_share_45 (by decide) ?_
            exact e_iret dX10_share_46
set_option maxRecDepth 100000 in
set_option maxHeartbeats 4000000 in
theorem c_X10_share (w : qW) (a1 : Int32) (a2 : Int32) : q_AC q_vi (some .int) (8) yX10_share cX10_share 5 [.ref 0, .int a1, .int a2] w (f_X10_share w a1 a2) := q_met_i (k := 2) (by decide +kernel) rfl rfl rfl (fun _ _ G => t_X10_share G w a1 a2 )
set_option maxRecDepth 100000 in
set_option maxHeartbeats 4000000 in
theorem t_X10_late {E : qE} {Γ : qC} (G : q_Ok E Γ RX10 cX10_late 3 (8)) (w : qW) (a1 : Int32) (a2 : Int32) : q_Ev E Γ 3 (q_Fi E Γ cX10_late) 0 [some (.ref 0), some (.int a1), some (.int a2)] [] w (f_X10_late w a1 a2) := by
  unfold f_X10_late
  refine e_aload_n G (pc := 0) dX10_late_0 rfl rfl ?_
  refine e_getF G (pc := 1) sh_0 rfl lk_X10_10 dX10_late_1 ?_
  refine e_iload_n G (pc := 4) dX10_late_4 rfl rfl ?_
  refine e_iconst G (pc := 5) (v := 4) dX10_late_5 (by decide) ?_
  refine e_cVi G (pc := 6) (As := [.int a1, .int 4]) (st := []) cv_X10_114 (c_X4_has w a1 4 ) sh_1 (Nat.le_of_ble_eq_true rfl) rfl (Nat.le_of_ble_eq_true rfl) dX10_late_6 (fun r1 w2 => ?_)
  refine e_if_eq G (pc := 9) (tgt := 19) dX10_late_9 (by decide) ?_ ?_
  · refine e_iconst G (pc := 19) (v := (-1)) dX10_late_19 (by decide) ?_
    exact e_iret dX10_late_20
  · refine e_iload_n G (pc := 12) dX10_late_12 rfl rfl ?_
    refine e_cSi G (pc := 13) (ci := 0) (id := 0) (sl := []) (As := [.int a2]) (st := []) cs_X10_147 (c_X10_isHour w2 a2 ) (Nat.le_of_ble_eq_true rfl) rfl (Nat.le_of_ble_eq_true rfl) dX10_late_13 (fun r3 w4 => ?_)
    refine e_if_ne G (pc := 16) (tgt := 21) dX10_late_16 (by decide) ?_ ?_
    · refine e_aload_n G (pc := 21) dX10_late_21 rfl rfl ?_
      refine e_getF G (pc := 22) sh_0 rfl lk_X10_37 dX10_late_22 ?_
      refine e_iload_n G (pc := 25) dX10_late_25 rfl rfl ?_
      refine e_iload_n G (pc := 26) dX10_late_26 rfl rfl ?_
      refine e_cVi G (pc := 27) (As := [.int a1, .int a2]) (st := []) cv_X10_252 (c_X7_lastServed w4 a1 a2 ) sh_10 (Nat.le_of_ble_eq_true rfl) rfl (Nat.le_of_ble_eq_true rfl) dX10_late_27 (fun r5 w6 => ?_)
      exact e_iret dX10_late_30
    · refine e_iconst G (pc := 19) (v := (-1)) dX10_late_19 (by decide) ?_
      exact e_iret dX10_late_20
set_option maxRecDepth 100000 in
set_option maxHeartbeats 4000000 in
theorem c_X10_late (w : qW) (a1 : Int32) (a2 : Int32) : q_AC q_vi (some .int) (8) yX10_late cX10_late 3 [.ref 0, .int a1, .int a2] w (f_X10_late w a1 a2) := q_met_i (k := 0) (by decide +kernel) rfl rfl rfl (fun _ _ G => t_X10_late G w a1 a2 )
set_option maxRecDepth 100000 in
set_option maxHeartbeats 4000000 in
theorem t_X10_byTurns {E : qE} {Γ : qC} (G : q_Ok E Γ RX10 cX10_byTurns 9 (9)) (w : qW) (a1 : Int32) (a2 : Int32) (a3 : Int32) : q_Ev E Γ 9 (q_Fi E Γ cX10_byTurns) 0 [some (.ref 0), some (.int a1), some (.int a2), some (.int a3), none, none, none, none, none] [] w (f_X10_byTurns w a1 a2 a3) := by
  unfold f_X10_byTurns
  refine e_iload_n G (pc := 0) dX10_byTurns_0 rfl rfl ?_
  refine e_bipush G (pc := 1) (v := 10) dX10_byTurns_1 (by decide) ?_
  refine e_idiv G (pc := 3) dX10_byTurns_3 (by decide) ?_
  refine e_ti (fun v1 => ?_)
  refine e_istore G (pc := 4) (L' := [some (.ref 0), some (.int a1), some (.int a2), some (.int a3), some (.int v1), none, none, none, none]) dX10_byTurns_4 (Nat.le_of_ble_eq_true rfl) rfl ?_
  refine e_iload_n G (pc := 6) dX10_byTurns_6 rfl rfl ?_
  refine e_bipush G (pc := 7) (v := 10) dX10_byTurns_7 (by decide) ?_
  refine e_irem G (pc := 9) dX10_byTurns_9 (by decide) ?_
  refine e_ti (fun v2 => ?_)
  refine e_istore G (pc := 10) (L' := [some (.ref 0), some (.int a1), some (.int a2), some (.int a3), some (.int v1), some (.int v2), none, none, none]) dX10_byTurns_10 (Nat.le_of_ble_eq_true rfl) rfl ?_
  refine e_iload_n G (pc := 12) dX10_byTurns_12 rfl rfl ?_
  refine e_bipush G (pc := 13) (v := 10) dX10_byTurns_13 (by decide) ?_
  refine e_idiv G (pc := 15) dX10_byTurns_15 (by decide) ?_
  refine e_ti (fun v3 => ?_)
  refine e_istore G (pc := 16) (L' := [some (.ref 0), some (.int a1), some (.int a2), some (.int a3), some (.int v1), some (.int v2), some (.int v3), none, none]) dX10_byTurns_16 (Nat.le_of_ble_eq_true rfl) rfl ?_
  refine e_iload_n G (pc := 18) dX10_byTurns_18 rfl rfl ?_
  refine e_bipush G (pc := 19) (v := 10) dX10_byTurns_19 (by decide) ?_
  refine e_irem G (pc := 21) dX10_byTurns_21 (by decide) ?_
  refine e_ti (fun v4 => ?_)
  refine e_istore G (pc := 22) (L' := [some (.ref 0), some (.int a1), some (.int a2), some (.int a3), some (.int v1), some (.int v2), some (.int v3), some (.int v4), none]) dX10_byTurns_22 (Nat.le_of_ble_eq_true rfl) rfl ?_
  refine e_iload_n G (pc := 24) dX10_byTurns_24 rfl rfl ?_
  refine e_if_lt G (pc := 25) (tgt := 60) dX10_byTurns_25 (by decide) ?_ ?_
  · refine e_iconst G (pc := 60) (v := (-1)) dX10_byTurns_60 (by decide) ?_
    exact e_iret dX10_byTurns_61
  · refine e_iload G (pc := 28) dX10_byTurns_28 rfl ?_
    refine e_aload_n G (pc := 30) dX10_byTurns_30 rfl rfl ?_
    refine e_getF G (pc := 31) sh_0 rfl lk_X10_10 dX10_byTurns_31 ?_
    refine e_getI G (pc := 34) sh_1 rfl lk_X10_132 dX10_byTurns_34 ?_
    refine e_icmp_ge G (pc := 37) (tgt := 60) dX10_byTurns_37 (by decide) ?_ ?_
    · refine e_iconst G (pc := 60) (v := (-1)) dX10_byTurns_60 (by decide) ?_
      exact e_iret dX10_byTurns_61
    · refine e_iload G (pc := 40) dX10_byTurns_40 rfl ?_
      refine e_aload_n G (pc := 42) dX10_byTurns_42 rfl rfl ?_
      refine e_getF G (pc := 43) sh_0 rfl lk_X10_10 dX10_byTurns_43 ?_
      refine e_getI G (pc := 46) sh_1 rfl lk_X10_255 dX10_byTurns_46 ?_
      refine e_icmp_ge G (pc := 49) (tgt := 60) dX10_byTurns_49 (by decide) ?_ ?_
      · refine e_iconst G (pc := 60) (v := (-1)) dX10_byTurns_60 (by decide) ?_
        exact e_iret dX10_byTurns_61
      · refine e_iload_n G (pc := 52) dX10_byTurns_52 rfl rfl ?_
        refine e_iconst G (pc := 53) (v := 2) dX10_byTurns_53 (by decide) ?_
        refine e_cSi G (pc := 54) (ci := 0) (id := 0) (sl := []) (As := [.int a3, .int 2]) (st := []) cs_X10_150 (c_X10_isChoice w a3 2 ) (Nat.le_of_ble_eq_true rfl) rfl (Nat.le_of_ble_eq_true rfl) dX10_byTurns_54 (fun r5 w6 => ?_)
        refine e_if_ne G (pc := 57) (tgt := 62) dX10_byTurns_57 (by decide) ?_ ?_
        · refine e_iload_n G (pc := 62) dX10_byTurns_62 rfl rfl ?_
          refine e_if_lt G (pc := 63) (tgt := 85) dX10_byTurns_63 (by decide) ?_ ?_
          · refine e_iconst G (pc := 85) (v := (-1)) dX10_byTurns_85 (by decide) ?_
            exact e_iret dX10_byTurns_86
          · refine e_iload G (pc := 66) dX10_byTurns_66 rfl ?_
            refine e_bipush G (pc := 68) (v := 12) dX10_byTurns_68 (by decide) ?_
            refine e_icmp_ge G (pc := 70) (tgt := 85) dX10_byTurns_70 (by decide) ?_ ?_
            · refine e_iconst G (pc := 85) (v := (-1)) dX10_byTurns_85 (by decide) ?_
              exact e_iret dX10_byTurns_86
            · refine e_iload G (pc := 73) dX10_byTurns_73 rfl ?_
              refine e_iconst G (pc := 75) (v := 1) dX10_byTurns_75 (by decide) ?_
              refine e_icmp_lt G (pc := 76) (tgt := 85) dX10_byTurns_76 (by decide) ?_ ?_
              · refine e_iconst G (pc := 85) (v := (-1)) dX10_byTurns_85 (by decide) ?_
                exact e_iret dX10_byTurns_86
              · refine e_iload G (pc := 79) dX10_byTurns_79 rfl ?_
                refine e_iconst G (pc := 81) (v := 4) dX10_byTurns_81 (by decide) ?_
                refine e_icmp_le G (pc := 82) (tgt := 87) dX10_byTurns_82 (by decide) ?_ ?_
                · refine e_aload_n G (pc := 87) dX10_byTurns_87 rfl rfl ?_
                  refine e_getF G (pc := 88) sh_0 rfl lk_X10_51 dX10_byTurns_88 ?_
                  refine e_iload G (pc := 91) dX10_byTurns_91 rfl ?_
                  refine e_iload G (pc := 93) dX10_byTurns_93 rfl ?_
                  refine e_iload G (pc := 95) dX10_byTurns_95 rfl ?_
                  refine e_iload G (pc := 97) dX10_byTurns_97 rfl ?_
                  refine e_cVi G (pc := 99) (As := [.int v1, .int v2, .int v3, .int v4]) (st := []) cv_X10_258 (c_X9_winningStep w6 v1 v2 v3 v4 ) sh_21 (Nat.le_of_ble_eq_true rfl) rfl (Nat.le_of_ble_eq_true rfl) dX10_byTurns_99 (fun r7 w8 => ?_)
                  refine e_istore G (pc := 102) (L' := [some (.ref 0), some (.int a1), some (.int a2), some (.int a3), some (.int v1), some (.int v2), some (.int v3), some (.int v4), some (.int r7)]) dX10_byTurns_102 (Nat.le_of_ble_eq_true rfl) rfl ?_
                  refine e_iload_n G (pc := 104) dX10_byTurns_104 rfl rfl ?_
                  refine e_if_ne G (pc := 105) (tgt := 119) dX10_byTurns_105 (by decide) ?_ ?_
                  · refine e_iload G (pc := 119) dX10_byTurns_119 rfl ?_
                    refine e_if_ge G (pc := 121) (tgt := 128) dX10_byTurns_121 (by decide) ?_ ?_
                    · refine e_iload G (pc := 128) dX10_byTurns_128 rfl ?_
                      exact e_iret dX10_byTurns_130
                    · refine e_iconst G (pc := 124) (v := 4) dX10_byTurns_124 (by decide) ?_
                      refine e_goto G (pc := 125) (tgt := 130) dX10_byTurns_125 (by decide) ?_
                      exact e_iret dX10_byTurns_130
                  · refine e_iload G (pc := 108) dX10_byTurns_108 rfl ?_
                    refine e_if_ge G (pc := 110) (tgt := 117) dX10_byTurns_110 (by decide) ?_ ?_
                    · refine e_iconst G (pc := 117) (v := 1) dX10_byTurns_117 (by decide) ?_
                      exact e_iret dX10_byTurns_118
                    · refine e_iconst G (pc := 113) (v := 0) dX10_byTurns_113 (by decide) ?_
                      refine e_goto G (pc := 114) (tgt := 118) dX10_byTurns_114 (by decide) ?_
                      exact e_iret dX10_byTurns_118
                · refine e_iconst G (pc := 85) (v := (-1)) dX10_byTurns_85 (by decide) ?_
                  exact e_iret dX10_byTurns_86
        · refine e_iconst G (pc := 60) (v := (-1)) dX10_byTurns_60 (by decide) ?_
          exact e_iret dX10_byTurns_61
set_option maxRecDepth 100000 in
set_option maxHeartbeats 4000000 in
theorem c_X10_byTurns (w : qW) (a1 : Int32) (a2 : Int32) (a3 : Int32) : q_AC q_vi (some .int) (9) yX10_byTurns cX10_byTurns 9 [.ref 0, .int a1, .int a2, .int a3] w (f_X10_byTurns w a1 a2 a3) := q_met_i (k := 5) (by decide +kernel) rfl rfl rfl (fun _ _ G => t_X10_byTurns G w a1 a2 a3 )
set_option maxRecDepth 100000 in
set_option maxHeartbeats 4000000 in
theorem t_X10_drawn {E : qE} {Γ : qC} (G : q_Ok E Γ RX10 cX10_drawn 6 (8)) (w : qW) (a1 : Int32) (a2 : Int32) (a3 : Int32) : q_Ev E Γ 6 (q_Fi E Γ cX10_drawn) 0 [some (.ref 0), some (.int a1), some (.int a2), some (.int a3), none, none] [] w (f_X10_drawn w a1 a2 a3) := by
  unfold f_X10_drawn
  refine e_iload_n G (pc := 0) dX10_drawn_0 rfl rfl ?_
  refine e_bipush G (pc := 1) (v := 100) dX10_drawn_1 (by decide) ?_
  refine e_idiv G (pc := 3) dX10_drawn_3 (by decide) ?_
  refine e_ti (fun v1 => ?_)
  refine e_istore G (pc := 4) (L' := [some (.ref 0), some (.int a1), some (.int a2), some (.int a3), some (.int v1), none]) dX10_drawn_4 (Nat.le_of_ble_eq_true rfl) rfl ?_
  refine e_iload_n G (pc := 6) dX10_drawn_6 rfl rfl ?_
  refine e_bipush G (pc := 7) (v := 100) dX10_drawn_7 (by decide) ?_
  refine e_irem G (pc := 9) dX10_drawn_9 (by decide) ?_
  refine e_ti (fun v2 => ?_)
  refine e_istore G (pc := 10) (L' := [some (.ref 0), some (.int a1), some (.int a2), some (.int a3), some (.int v1), some (.int v2)]) dX10_drawn_10 (Nat.le_of_ble_eq_true rfl) rfl ?_
  refine e_iload_n G (pc := 12) dX10_drawn_12 rfl rfl ?_
  refine e_if_lt G (pc := 13) (tgt := 52) dX10_drawn_13 (by decide) ?_ ?_
  · refine e_iconst G (pc := 52) (v := (-1)) dX10_drawn_52 (by decide) ?_
    exact e_iret dX10_drawn_53
  · refine e_iload G (pc := 16) dX10_drawn_16 rfl ?_
    refine e_iconst G (pc := 18) (v := 1) dX10_drawn_18 (by decide) ?_
    refine e_icmp_lt G (pc := 19) (tgt := 52) dX10_drawn_19 (by decide) ?_ ?_
    · refine e_iconst G (pc := 52) (v := (-1)) dX10_drawn_52 (by decide) ?_
      exact e_iret dX10_drawn_53
    · refine e_iload G (pc := 22) dX10_drawn_22 rfl ?_
      refine e_bipush G (pc := 24) (v := 30) dX10_drawn_24 (by decide) ?_
      refine e_icmp_gt G (pc := 26) (tgt := 52) dX10_drawn_26 (by decide) ?_ ?_
      · refine e_iconst G (pc := 52) (v := (-1)) dX10_drawn_52 (by decide) ?_
        exact e_iret dX10_drawn_53
      · refine e_iload G (pc := 29) dX10_drawn_29 rfl ?_
        refine e_bipush G (pc := 31) (v := 12) dX10_drawn_31 (by decide) ?_
        refine e_icmp_gt G (pc := 33) (tgt := 52) dX10_drawn_33 (by decide) ?_ ?_
        · refine e_iconst G (pc := 52) (v := (-1)) dX10_drawn_52 (by decide) ?_
          exact e_iret dX10_drawn_53
        · refine e_iload_n G (pc := 36) dX10_drawn_36 rfl rfl ?_
          refine e_iconst G (pc := 37) (v := (-1)) dX10_drawn_37 (by decide) ?_
          refine e_icmp_lt G (pc := 38) (tgt := 52) dX10_drawn_38 (by decide) ?_ ?_
          · refine e_iconst G (pc := 52) (v := (-1)) dX10_drawn_52 (by decide) ?_
            exact e_iret dX10_drawn_53
          · refine e_iload_n G (pc := 41) dX10_drawn_41 rfl rfl ?_
            refine e_aload_n G (pc := 42) dX10_drawn_42 rfl rfl ?_
            refine e_getF G (pc := 43) sh_0 rfl lk_X10_10 dX10_drawn_43 ?_
            refine e_getI G (pc := 46) sh_1 rfl lk_X10_255 dX10_drawn_46 ?_
            refine e_icmp_lt G (pc := 49) (tgt := 54) dX10_drawn_49 (by decide) ?_ ?_
            · refine e_aload_n G (pc := 54) dX10_drawn_54 rfl rfl ?_
              refine e_getF G (pc := 55) sh_0 rfl lk_X10_37 dX10_drawn_55 ?_
              refine e_iload_n G (pc := 58) dX10_drawn_58 rfl rfl ?_
              refine e_iload G (pc := 59) dX10_drawn_59 rfl ?_
              refine e_iload G (pc := 61) dX10_drawn_61 rfl ?_
              refine e_iload_n G (pc := 63) dX10_drawn_63 rfl rfl ?_
              refine e_cVi G (pc := 64) (As := [.int a1, .int v1, .int v2, .int a3]) (st := []) cv_X10_262 (c_X7_missesDrawn w a1 v1 v2 a3 ) sh_10 (Nat.le_of_ble_eq_true rfl) rfl (Nat.le_of_ble_eq_true rfl) dX10_drawn_64 (fun r3 w4 => ?_)
              exact e_iret dX10_drawn_67
            · refine e_iconst G (pc := 52) (v := (-1)) dX10_drawn_52 (by decide) ?_
              exact e_iret dX10_drawn_53
set_option maxRecDepth 100000 in
set_option maxHeartbeats 4000000 in
theorem c_X10_drawn (w : qW) (a1 : Int32) (a2 : Int32) (a3 : Int32) : q_AC q_vi (some .int) (8) yX10_drawn cX10_drawn 6 [.ref 0, .int a1, .int a2, .int a3] w (f_X10_drawn w a1 a2 a3) := q_met_i (k := 2) (by decide +kernel) rfl rfl rfl (fun _ _ G => t_X10_drawn G w a1 a2 a3 )
set_option maxRecDepth 100000 in
set_option maxHeartbeats 4000000 in
theorem t_X10_passes {E : qE} {Γ : qC} (G : q_Ok E Γ RX10 cX10_passes 2 (9)) (w : qW) : q_Ev E Γ 2 (q_Fi E Γ cX10_passes) 0 [some (.ref 0), none] [] w (f_X10_passes w ) := by
  unfold f_X10_passes
  refine e_aload_n G (pc := 0) dX10_passes_0 rfl rfl ?_
  refine e_getF G (pc := 1) sh_0 rfl lk_X10_37 dX10_passes_1 ?_
  refine e_aload_n G (pc := 4) dX10_passes_4 rfl rfl ?_
  refine e_getF G (pc := 5) sh_0 rfl lk_X10_67 dX10_passes_5 ?_
  refine e_cVi G (pc := 8) (As := []) (st := [.ref 10]) cv_X10_265 (c_X2_hour w  ) sh_26 (Nat.le_of_ble_eq_true rfl) rfl (Nat.le_of_ble_eq_true rfl) dX10_passes_8 (fun r1 w2 => ?_)
  refine e_cVi G (pc := 11) (As := [.int r1]) (st := []) cv_X10_171 (c_X7_missingAt w2 r1 ) sh_10 (Nat.le_of_ble_eq_true rfl) rfl (Nat.le_of_ble_eq_true rfl) dX10_passes_11 (fun r3 w4 => ?_)
  refine e_cSi G (pc := 14) (ci := 0) (id := 0) (sl := []) (As := [.int r3]) (st := []) cs_X10_177 (c_J6_bitCount_0f7a4 w4 r3 ) (Nat.le_of_ble_eq_true rfl) rfl (Nat.le_of_ble_eq_true rfl) dX10_passes_14 (fun r5 w6 => ?_)
  refine e_istore_n G (pc := 17) (L' := [some (.ref 0), some (.int r5)]) dX10_passes_17 rfl (Nat.le_of_ble_eq_true rfl) rfl ?_
  refine e_aload_n G (pc := 18) dX10_passes_18 rfl rfl ?_
  refine e_getF G (pc := 19) sh_0 rfl lk_X10_67 dX10_passes_19 ?_
  refine e_iload_n G (pc := 22) dX10_passes_22 rfl rfl ?_
  refine e_cVv G (pc := 23) (As := [.int r5]) (st := []) cv_X10_268 (c_X2_hourPasses w6 r5 ) sh_26 (Nat.le_of_ble_eq_true rfl) rfl (Nat.le_of_ble_eq_true rfl) dX10_passes_23 (fun r7 w8 => ?_)
  refine e_iload_n G (pc := 26) dX10_passes_26 rfl rfl ?_
  exact e_iret dX10_passes_27
set_option maxRecDepth 100000 in
set_option maxHeartbeats 4000000 in
theorem c_X10_passes (w : qW) : q_AC q_vi (some .int) (9) yX10_passes cX10_passes 2 [.ref 0] w (f_X10_passes w ) := q_met_i (k := 1) (by decide +kernel) rfl rfl rfl (fun _ _ G => t_X10_passes G w  )
set_option maxRecDepth 100000 in
set_option maxHeartbeats 4000000 in
theorem t_X10_steps {E : qE} {Γ : qC} (G : q_Ok E Γ RX10 cX10_steps 3 (5)) (w : qW) (a1 : Int32) (a2 : Int32) : q_Ev E Γ 3 (q_Fi E Γ cX10_steps) 0 [some (.ref 0), some (.int a1), some (.int a2)] [] w (f_X10_steps w a1 a2) := by
  unfold f_X10_steps
  refine e_aload_n G (pc := 0) dX10_steps_0 rfl rfl ?_
  refine e_getF G (pc := 1) sh_0 rfl lk_X10_10 dX10_steps_1 ?_
  refine e_iload_n G (pc := 4) dX10_steps_4 rfl rfl ?_
  refine e_iconst G (pc := 5) (v := 0) dX10_steps_5 (by decide) ?_
  refine e_cVi G (pc := 6) (As := [.int a1, .int 0]) (st := []) cv_X10_114 (c_X4_has w a1 0 ) sh_1 (Nat.le_of_ble_eq_true rfl) rfl (Nat.le_of_ble_eq_true rfl) dX10_steps_6 (fun r1 w2 => ?_)
  refine e_if_eq G (pc := 9) (tgt := 20) dX10_steps_9 (by decide) ?_ ?_
  · refine e_iconst G (pc := 20) (v := (-1)) dX10_steps_20 (by decide) ?_
    exact e_iret dX10_steps_21
  · refine e_iload_n G (pc := 12) dX10_steps_12 rfl rfl ?_
    refine e_iconst G (pc := 13) (v := 4) dX10_steps_13 (by decide) ?_
    refine e_cSi G (pc := 14) (ci := 0) (id := 0) (sl := []) (As := [.int a2, .int 4]) (st := []) cs_X10_150 (c_X10_isChoice w2 a2 4 ) (Nat.le_of_ble_eq_true rfl) rfl (Nat.le_of_ble_eq_true rfl) dX10_steps_14 (fun r3 w4 => ?_)
    refine e_if_ne G (pc := 17) (tgt := 22) dX10_steps_17 (by decide) ?_ ?_
    · refine e_aload_n G (pc := 22) dX10_steps_22 rfl rfl ?_
      refine e_getF G (pc := 23) sh_0 rfl lk_X10_67 dX10_steps_23 ?_
      refine e_iload_n G (pc := 26) dX10_steps_26 rfl rfl ?_
      refine e_iload_n G (pc := 27) dX10_steps_27 rfl rfl ?_
      refine e_cVi G (pc := 28) (As := [.int a1, .int a2]) (st := []) cv_X10_271 (c_X2_manSteps w4 a1 a2 ) sh_26 (Nat.le_of_ble_eq_true rfl) rfl (Nat.le_of_ble_eq_true rfl) dX10_steps_28 (fun r5 w6 => ?_)
      exact e_iret dX10_steps_31
    · refine e_iconst G (pc := 20) (v := (-1)) dX10_steps_20 (by decide) ?_
      exact e_iret dX10_steps_21
set_option maxRecDepth 100000 in
set_option maxHeartbeats 4000000 in
theorem c_X10_steps (w : qW) (a1 : Int32) (a2 : Int32) : q_AC q_vi (some .int) (5) yX10_steps cX10_steps 3 [.ref 0, .int a1, .int a2] w (f_X10_steps w a1 a2) := q_met_i (k := 0) (by decide +kernel) rfl rfl rfl (fun _ _ G => t_X10_steps G w a1 a2 )
set_option maxRecDepth 100000 in
set_option maxHeartbeats 4000000 in
theorem t_X10_bird {E : qE} {Γ : qC} (G : q_Ok E Γ RX10 cX10_bird 2 (5)) (w : qW) (a1 : Int32) : q_Ev E Γ 2 (q_Fi E Γ cX10_bird) 0 [some (.ref 0), some (.int a1)] [] w (f_X10_bird w a1) := by
  unfold f_X10_bird
  refine e_aload_n G (pc := 0) dX10_bird_0 rfl rfl ?_
  refine e_getF G (pc := 1) sh_0 rfl lk_X10_10 dX10_bird_1 ?_
  refine e_iload_n G (pc := 4) dX10_bird_4 rfl rfl ?_
  refine e_iconst G (pc := 5) (v := 0) dX10_bird_5 (by decide) ?_
  refine e_cVi G (pc := 6) (As := [.int a1, .int 0]) (st := []) cv_X10_114 (c_X4_has w a1 0 ) sh_1 (Nat.le_of_ble_eq_true rfl) rfl (Nat.le_of_ble_eq_true rfl) dX10_bird_6 (fun r1 w2 => ?_)
  refine e_if_eq G (pc := 9) (tgt := 23) dX10_bird_9 (by decide) ?_ ?_
  · refine e_iconst G (pc := 23) (v := (-1)) dX10_bird_23 (by decide) ?_
    exact e_iret dX10_bird_24
  · refine e_aload_n G (pc := 12) dX10_bird_12 rfl rfl ?_
    refine e_getF G (pc := 13) sh_0 rfl lk_X10_67 dX10_bird_13 ?_
    refine e_iload_n G (pc := 16) dX10_bird_16 rfl rfl ?_
    refine e_cVi G (pc := 17) (As := [.int a1]) (st := []) cv_X10_274 (c_X2_birdGetsIn w2 a1 ) sh_26 (Nat.le_of_ble_eq_true rfl) rfl (Nat.le_of_ble_eq_true rfl) dX10_bird_17 (fun r3 w4 => ?_)
    refine e_goto G (pc := 20) (tgt := 24) dX10_bird_20 (by decide) ?_
    exact e_iret dX10_bird_24
set_option maxRecDepth 100000 in
set_option maxHeartbeats 4000000 in
theorem c_X10_bird (w : qW) (a1 : Int32) : q_AC q_vi (some .int) (5) yX10_bird cX10_bird 2 [.ref 0, .int a1] w (f_X10_bird w a1) := q_met_i (k := 0) (by decide +kernel) rfl rfl rfl (fun _ _ G => t_X10_bird G w a1 )
set_option maxRecDepth 100000 in
set_option maxHeartbeats 4000000 in
theorem t_X10_goes {E : qE} {Γ : qC} (G : q_Ok E Γ RX10 cX10_goes 4 (4)) (w : qW) (a1 : Int32) (a2 : Int32) : q_Ev E Γ 4 (q_Fi E Γ cX10_goes) 0 [some (.ref 0), some (.int a1), some (.int a2), none] [] w (f_X10_goes w a1 a2) := by
  unfold f_X10_goes
  refine e_aload_n G (pc := 0) dX10_goes_0 rfl rfl ?_
  refine e_getF G (pc := 1) sh_0 rfl lk_X10_10 dX10_goes_1 ?_
  refine e_iload_n G (pc := 4) dX10_goes_4 rfl rfl ?_
  refine e_iconst G (pc := 5) (v := 4) dX10_goes_5 (by decide) ?_
  refine e_cVi G (pc := 6) (As := [.int a1, .int 4]) (st := []) cv_X10_114 (c_X4_has w a1 4 ) sh_1 (Nat.le_of_ble_eq_true rfl) rfl (Nat.le_of_ble_eq_true rfl) dX10_goes_6 (fun r1 w2 => ?_)
  refine e_if_eq G (pc := 9) (tgt := 24) dX10_goes_9 (by decide) ?_ ?_
  · refine e_iconst G (pc := 24) (v := (-1)) dX10_goes_24 (by decide) ?_
    exact e_iret dX10_goes_25
  · refine e_aload_n G (pc := 12) dX10_goes_12 rfl rfl ?_
    refine e_getF G (pc := 13) sh_0 rfl lk_X10_10 dX10_goes_13 ?_
    refine e_iconst G (pc := 16) (v := 4) dX10_goes_16 (by decide) ?_
    refine e_iload_n G (pc := 17) dX10_goes_17 rfl rfl ?_
    refine e_cVi G (pc := 18) (As := [.int 4, .int a2]) (st := []) cv_X10_85 (c_X4_fits w2 4 a2 ) sh_1 (Nat.le_of_ble_eq_true rfl) rfl (Nat.le_of_ble_eq_true rfl) dX10_goes_18 (fun r3 w4 => ?_)
    refine e_if_ne G (pc := 21) (tgt := 26) dX10_goes_21 (by decide) ?_ ?_
    · refine e_aload_n G (pc := 26) dX10_goes_26 rfl rfl ?_
      refine e_getF G (pc := 27) sh_0 rfl lk_X10_10 dX10_goes_27 ?_
      refine e_iload_n G (pc := 30) dX10_goes_30 rfl rfl ?_
      refine e_iconst G (pc := 31) (v := 4) dX10_goes_31 (by decide) ?_
      refine e_cVi G (pc := 32) (As := [.int a1, .int 4]) (st := []) cv_X10_117 (c_X4_get w4 a1 4 ) sh_1 (Nat.le_of_ble_eq_true rfl) rfl (Nat.le_of_ble_eq_true rfl) dX10_goes_32 (fun r5 w6 => ?_)
      refine e_istore_n G (pc := 35) (L' := [some (.ref 0), some (.int a1), some (.int a2), some (.int r5)]) dX10_goes_35 rfl (Nat.le_of_ble_eq_true rfl) rfl ?_
      refine e_aload_n G (pc := 36) dX10_goes_36 rfl rfl ?_
      refine e_getF G (pc := 37) sh_0 rfl lk_X10_10 dX10_goes_37 ?_
      refine e_iload_n G (pc := 40) dX10_goes_40 rfl rfl ?_
      refine e_iconst G (pc := 41) (v := 4) dX10_goes_41 (by decide) ?_
      refine e_iload_n G (pc := 42) dX10_goes_42 rfl rfl ?_
      refine e_cVv G (pc := 43) (As := [.int a1, .int 4, .int a2]) (st := []) cv_X10_277 (c_X4_set w6 a1 4 a2 ) sh_1 (Nat.le_of_ble_eq_true rfl) rfl (Nat.le_of_ble_eq_true rfl) dX10_goes_43 (fun r7 w8 => ?_)
      refine e_iload_n G (pc := 46) dX10_goes_46 rfl rfl ?_
      exact e_iret dX10_goes_47
    · refine e_iconst G (pc := 24) (v := (-1)) dX10_goes_24 (by decide) ?_
      exact e_iret dX10_goes_25
set_option maxRecDepth 100000 in
set_option maxHeartbeats 4000000 in
theorem c_X10_goes (w : qW) (a1 : Int32) (a2 : Int32) : q_AC q_vi (some .int) (4) yX10_goes cX10_goes 4 [.ref 0, .int a1, .int a2] w (f_X10_goes w a1 a2) := q_met_i (k := 1) (by decide +kernel) rfl rfl rfl (fun _ _ G => t_X10_goes G w a1 a2 )
set_option maxRecDepth 100000 in
set_option maxHeartbeats 4000000 in
theorem t_X10_led {E : qE} {Γ : qC} (G : q_Ok E Γ RX10 cX10_led 2 (3)) (w : qW) (a1 : Int32) : q_Ev E Γ 2 (q_Fi E Γ cX10_led) 0 [some (.ref 0), some (.int a1)] [] w (f_X10_led w a1) := by
  unfold f_X10_led
  refine e_iload_n G (pc := 0) dX10_led_0 rfl rfl ?_
  refine e_bipush G (pc := 1) (v := 6) dX10_led_1 (by decide) ?_
  refine e_cSi G (pc := 3) (ci := 0) (id := 0) (sl := []) (As := [.int a1, .int 6]) (st := []) cs_X10_150 (c_X10_isChoice w a1 6 ) (Nat.le_of_ble_eq_true rfl) rfl (Nat.le_of_ble_eq_true rfl) dX10_led_3 (fun r1 w2 => ?_)
  refine e_if_eq G (pc := 6) (tgt := 20) dX10_led_6 (by decide) ?_ ?_
  · refine e_iconst G (pc := 20) (v := (-1)) dX10_led_20 (by decide) ?_
    exact e_iret dX10_led_21
  · refine e_aload_n G (pc := 9) dX10_led_9 rfl rfl ?_
    refine e_getF G (pc := 10) sh_0 rfl lk_X10_67 dX10_led_10 ?_
    refine e_iload_n G (pc := 13) dX10_led_13 rfl rfl ?_
    refine e_cVi G (pc := 14) (As := [.int a1]) (st := []) cv_X10_280 (c_X2_told w2 a1 ) sh_26 (Nat.le_of_ble_eq_true rfl) rfl (Nat.le_of_ble_eq_true rfl) dX10_led_14 (fun r3 w4 => ?_)
    refine e_goto G (pc := 17) (tgt := 21) dX10_led_17 (by decide) ?_
    exact e_iret dX10_led_21
set_option maxRecDepth 100000 in
set_option maxHeartbeats 4000000 in
theorem c_X10_led (w : qW) (a1 : Int32) : q_AC q_vi (some .int) (3) yX10_led cX10_led 2 [.ref 0, .int a1] w (f_X10_led w a1) := q_met_i (k := 0) (by decide +kernel) rfl rfl rfl (fun _ _ G => t_X10_led G w a1 )
set_option maxRecDepth 100000 in
set_option maxHeartbeats 4000000 in
theorem t_X10_image {E : qE} {Γ : qC} (G : q_Ok E Γ RX10 cX10_image 1 (5)) (w : qW) : q_Ev E Γ 1 (q_Fi E Γ cX10_image) 0 [some (.ref 0)] [] w (f_X10_image w ) := by
  unfold f_X10_image
  refine e_aload_n G (pc := 0) dX10_image_0 rfl rfl ?_
  refine e_getF G (pc := 1) sh_0 rfl lk_X10_67 dX10_image_1 ?_
  refine e_cVi G (pc := 4) (As := []) (st := []) cv_X10_283 (c_X2_keepImage w  ) sh_26 (Nat.le_of_ble_eq_true rfl) rfl (Nat.le_of_ble_eq_true rfl) dX10_image_4 (fun r1 w2 => ?_)
  exact e_iret dX10_image_7
set_option maxRecDepth 100000 in
set_option maxHeartbeats 4000000 in
theorem c_X10_image (w : qW) : q_AC q_vi (some .int) (5) yX10_image cX10_image 1 [.ref 0] w (f_X10_image w ) := q_met_i (k := 0) (by decide +kernel) rfl rfl rfl (fun _ _ G => t_X10_image G w  )
set_option maxRecDepth 100000 in
set_option maxHeartbeats 4000000 in
theorem t_X10_back {E : qE} {Γ : qC} (G : q_Ok E Γ RX10 cX10_back 1 (5)) (w : qW) : q_Ev E Γ 1 (q_Fi E Γ cX10_back) 0 [some (.ref 0)] [] w (f_X10_back w ) := by
  unfold f_X10_back
  refine e_aload_n G (pc := 0) dX10_back_0 rfl rfl ?_
  refine e_getF G (pc := 1) sh_0 rfl lk_X10_67 dX10_back_1 ?_
  refine e_cVi G (pc := 4) (As := []) (st := []) cv_X10_286 (c_X2_layBack w  ) sh_26 (Nat.le_of_ble_eq_true rfl) rfl (Nat.le_of_ble_eq_true rfl) dX10_back_4 (fun r1 w2 => ?_)
  exact e_iret dX10_back_7
set_option maxRecDepth 100000 in
set_option maxHeartbeats 4000000 in
theorem c_X10_back (w : qW) : q_AC q_vi (some .int) (5) yX10_back cX10_back 1 [.ref 0] w (f_X10_back w ) := q_met_i (k := 0) (by decide +kernel) rfl rfl rfl (fun _ _ G => t_X10_back G w  )
set_option maxRecDepth 100000 in
set_option maxHeartbeats 4000000 in
theorem t_X10_undo {E : qE} {Γ : qC} (G : q_Ok E Γ RX10 cX10_undo 1 (5)) (w : qW) : q_Ev E Γ 1 (q_Fi E Γ cX10_undo) 0 [some (.ref 0)] [] w (f_X10_undo w ) := by
  unfold f_X10_undo
  refine e_aload_n G (pc := 0) dX10_undo_0 rfl rfl ?_
  refine e_getF G (pc := 1) sh_0 rfl lk_X10_60 dX10_undo_1 ?_
  refine e_cVi G (pc := 4) (As := []) (st := []) cv_X10_289 (c_X1_takeBack w  ) sh_24 (Nat.le_of_ble_eq_true rfl) rfl (Nat.le_of_ble_eq_true rfl) dX10_undo_4 (fun r1 w2 => ?_)
  exact e_iret dX10_undo_7
set_option maxRecDepth 100000 in
set_option maxHeartbeats 4000000 in
theorem c_X10_undo (w : qW) : q_AC q_vi (some .int) (5) yX10_undo cX10_undo 1 [.ref 0] w (f_X10_undo w ) := q_met_i (k := 0) (by decide +kernel) rfl rfl rfl (fun _ _ G => t_X10_undo G w  )
set_option maxRecDepth 100000 in
set_option maxHeartbeats 4000000 in
theorem t_X10_redo {E : qE} {Γ : qC} (G : q_Ok E Γ RX10 cX10_redo 1 (5)) (w : qW) : q_Ev E Γ 1 (q_Fi E Γ cX10_redo) 0 [some (.ref 0)] [] w (f_X10_redo w ) := by
  unfold f_X10_redo
  refine e_aload_n G (pc := 0) dX10_redo_0 rfl rfl ?_
  refine e_getF G (pc := 1) sh_0 rfl lk_X10_60 dX10_redo_1 ?_
  refine e_cVi G (pc := 4) (As := []) (st := []) cv_X10_292 (c_X1_doAgain w  ) sh_24 (Nat.le_of_ble_eq_true rfl) rfl (Nat.le_of_ble_eq_true rfl) dX10_redo_4 (fun r1 w2 => ?_)
  exact e_iret dX10_redo_7
set_option maxRecDepth 100000 in
set_option maxHeartbeats 4000000 in
theorem c_X10_redo (w : qW) : q_AC q_vi (some .int) (5) yX10_redo cX10_redo 1 [.ref 0] w (f_X10_redo w ) := q_met_i (k := 0) (by decide +kernel) rfl rfl rfl (fun _ _ G => t_X10_redo G w  )
set_option maxRecDepth 100000 in
set_option maxHeartbeats 4000000 in
theorem t_X10_body {E : qE} {Γ : qC} (G : q_Ok E Γ RX10 cX10_body 2 (3)) (w : qW) (a1 : Int32) : q_Ev E Γ 2 (q_Fi E Γ cX10_body) 0 [some (.ref 0), some (.int a1)] [] w (f_X10_body w a1) := by
  unfold f_X10_body
  refine e_iload_n G (pc := 0) dX10_body_0 rfl rfl ?_
  refine e_bipush G (pc := 1) (v := 8) dX10_body_1 (by decide) ?_
  refine e_cSi G (pc := 3) (ci := 0) (id := 0) (sl := []) (As := [.int a1, .int 8]) (st := []) cs_X10_150 (c_X10_isChoice w a1 8 ) (Nat.le_of_ble_eq_true rfl) rfl (Nat.le_of_ble_eq_true rfl) dX10_body_3 (fun r1 w2 => ?_)
  refine e_if_eq G (pc := 6) (tgt := 20) dX10_body_6 (by decide) ?_ ?_
  · refine e_iconst G (pc := 20) (v := (-1)) dX10_body_20 (by decide) ?_
    exact e_iret dX10_body_21
  · refine e_aload_n G (pc := 9) dX10_body_9 rfl rfl ?_
    refine e_getF G (pc := 10) sh_0 rfl lk_X10_74 dX10_body_10 ?_
    refine e_iload_n G (pc := 13) dX10_body_13 rfl rfl ?_
    refine e_cVi G (pc := 14) (As := [.int a1]) (st := []) cv_X10_295 (c_X8_plant w2 a1 ) sh_32 (Nat.le_of_ble_eq_true rfl) rfl (Nat.le_of_ble_eq_true rfl) dX10_body_14 (fun r3 w4 => ?_)
    refine e_goto G (pc := 17) (tgt := 21) dX10_body_17 (by decide) ?_
    exact e_iret dX10_body_21
set_option maxRecDepth 100000 in
set_option maxHeartbeats 4000000 in
theorem c_X10_body (w : qW) (a1 : Int32) : q_AC q_vi (some .int) (3) yX10_body cX10_body 2 [.ref 0, .int a1] w (f_X10_body w a1) := q_met_i (k := 0) (by decide +kernel) rfl rfl rfl (fun _ _ G => t_X10_body G w a1 )
set_option maxRecDepth 100000 in
set_option maxHeartbeats 4000000 in
theorem t_X10_act {E : qE} {Γ : qC} (G : q_Ok E Γ RX10 cX10_act 4 (105)) (w : qW) (a1 : Int32) (a2 : Int32) (a3 : Int32) : q_Ev E Γ 4 (q_Fi E Γ cX10_act) 0 [some (.ref 0), some (.int a1), some (.int a2), some (.int a3)] [] w (f_X10_act w a1 a2 a3) := by
  unfold f_X10_act
  refine e_aload_n G (pc := 0) dX10_act_0 rfl rfl ?_
  refine e_getF G (pc := 1) sh_0 rfl lk_X10_74 dX10_act_1 ?_
  refine e_iload_n G (pc := 4) dX10_act_4 rfl rfl ?_
  refine e_iload_n G (pc := 5) dX10_act_5 rfl rfl ?_
  refine e_iload_n G (pc := 6) dX10_act_6 rfl rfl ?_
  refine e_cVi G (pc := 7) (As := [.int a1, .int a2, .int a3]) (st := []) cv_X10_298 (c_X8_perform w a1 a2 a3 ) sh_32 (Nat.le_of_ble_eq_true rfl) rfl (Nat.le_of_ble_eq_true rfl) dX10_act_7 (fun r1 w2 => ?_)
  exact e_iret dX10_act_10
set_option maxRecDepth 100000 in
set_option maxHeartbeats 4000000 in
theorem c_X10_act (w : qW) (a1 : Int32) (a2 : Int32) (a3 : Int32) : q_AC q_vi (some .int) (105) yX10_act cX10_act 4 [.ref 0, .int a1, .int a2, .int a3] w (f_X10_act w a1 a2 a3) := q_met_i (k := 0) (by decide +kernel) rfl rfl rfl (fun _ _ G => t_X10_act G w a1 a2 a3 )
set_option maxRecDepth 100000 in
set_option maxHeartbeats 4000000 in
theorem t_X10_trace {E : qE} {Γ : qC} (G : q_Ok E Γ RX10 cX10_trace 2 (3)) (w : qW) (a1 : Int32) : q_Ev E Γ 2 (q_Fi E Γ cX10_trace) 0 [some (.ref 0), some (.int a1)] [] w (f_X10_trace w a1) := by
  unfold f_X10_trace
  refine e_aload_n G (pc := 0) dX10_trace_0 rfl rfl ?_
  refine e_getF G (pc := 1) sh_0 rfl lk_X10_74 dX10_trace_1 ?_
  refine e_iload_n G (pc := 4) dX10_trace_4 rfl rfl ?_
  refine e_cVi G (pc := 5) (As := [.int a1]) (st := []) cv_X10_301 (c_X8_traced w a1 ) sh_32 (Nat.le_of_ble_eq_true rfl) rfl (Nat.le_of_ble_eq_true rfl) dX10_trace_5 (fun r1 w2 => ?_)
  exact e_iret dX10_trace_8
set_option maxRecDepth 100000 in
set_option maxHeartbeats 4000000 in
theorem c_X10_trace (w : qW) (a1 : Int32) : q_AC q_vi (some .int) (3) yX10_trace cX10_trace 2 [.ref 0, .int a1] w (f_X10_trace w a1) := q_met_i (k := 0) (by decide +kernel) rfl rfl rfl (fun _ _ G => t_X10_trace G w a1 )
set_option maxRecDepth 100000 in
set_option maxHeartbeats 4000000 in
theorem t_X10_keep {E : qE} {Γ : qC} (G : q_Ok E Γ RX10 cX10_keep 3 (3)) (w : qW) (a1 : Int32) (a2 : Int32) : q_Ev E Γ 3 (q_Fi E Γ cX10_keep) 0 [some (.ref 0), some (.int a1), some (.int a2)] [] w (f_X10_keep w a1 a2) := by
  unfold f_X10_keep
  refine e_iload_n G (pc := 0) dX10_keep_0 rfl rfl ?_
  refine e_cSi G (pc := 1) (ci := 0) (id := 0) (sl := []) (As := [.int a1]) (st := []) cs_X10_97 (c_X10_isShelf w a1 ) (Nat.le_of_ble_eq_true rfl) rfl (Nat.le_of_ble_eq_true rfl) dX10_keep_1 (fun r1 w2 => ?_)
  refine e_if_eq G (pc := 4) (tgt := 23) dX10_keep_4 (by decide) ?_ ?_
  · refine e_iconst G (pc := 23) (v := (-1)) dX10_keep_23 (by decide) ?_
    exact e_iret dX10_keep_24
  · refine e_iload_n G (pc := 7) dX10_keep_7 rfl rfl ?_
    refine e_iconst G (pc := 8) (v := (-1)) dX10_keep_8 (by decide) ?_
    refine e_icmp_lt G (pc := 9) (tgt := 23) dX10_keep_9 (by decide) ?_ ?_
    · refine e_iconst G (pc := 23) (v := (-1)) dX10_keep_23 (by decide) ?_
      exact e_iret dX10_keep_24
    · refine e_iload_n G (pc := 12) dX10_keep_12 rfl rfl ?_
      refine e_aload_n G (pc := 13) dX10_keep_13 rfl rfl ?_
      refine e_getF G (pc := 14) sh_0 rfl lk_X10_74 dX10_keep_14 ?_
      refine e_getI G (pc := 17) sh_32 rfl lk_X10_304 dX10_keep_17 ?_
      refine e_icmp_lt G (pc := 20) (tgt := 25) dX10_keep_20 (by decide) ?_ ?_
      · refine e_aload_n G (pc := 25) dX10_keep_25 rfl rfl ?_
        refine e_getF G (pc := 26) sh_0 rfl lk_X10_80 dX10_keep_26 ?_
        refine e_iload_n G (pc := 29) dX10_keep_29 rfl rfl ?_
        refine e_aald G (pc := 30) dX10_keep_30 (fun id3 hs4 => ?_)
        refine e_iload_n G (pc := 31) dX10_keep_31 rfl rfl ?_
        refine e_cVv G (pc := 32) (As := [.int a2]) (st := []) cv_X10_307 (c_X6_holdTree w2 id3 a2 hs4) hs4.1 (Nat.le_of_ble_eq_true rfl) rfl (Nat.le_of_ble_eq_true rfl) dX10_keep_32 (fun r5 w6 => ?_)
        refine e_iconst G (pc := 35) (v := 1) dX10_keep_35 (by decide) ?_
        exact e_iret dX10_keep_36
      · refine e_iconst G (pc := 23) (v := (-1)) dX10_keep_23 (by decide) ?_
        exact e_iret dX10_keep_24
set_option maxRecDepth 100000 in
set_option maxHeartbeats 4000000 in
theorem c_X10_keep (w : qW) (a1 : Int32) (a2 : Int32) : q_AC q_vi (some .int) (3) yX10_keep cX10_keep 3 [.ref 0, .int a1, .int a2] w (f_X10_keep w a1 a2) := q_met_i (k := 0) (by decide +kernel) rfl rfl rfl (fun _ _ G => t_X10_keep G w a1 a2 )
set_option maxRecDepth 100000 in
set_option maxHeartbeats 4000000 in
theorem t_X10_row {E : qE} {Γ : qC} (G : q_Ok E Γ RX10 cX10_row 4 (4)) (w : qW) (a1 : Int32) (a2 : Int32) (a3 : Int32) : q_Ev E Γ 4 (q_Fi E Γ cX10_row) 0 [some (.ref 0), some (.int a1), some (.int a2), some (.int a3)] [] w (f_X10_row w a1 a2 a3) := by
  unfold f_X10_row
  refine e_iload_n G (pc := 0) dX10_row_0 rfl rfl ?_
  refine e_cSi G (pc := 1) (ci := 0) (id := 0) (sl := []) (As := [.int a1]) (st := []) cs_X10_97 (c_X10_isShelf w a1 ) (Nat.le_of_ble_eq_true rfl) rfl (Nat.le_of_ble_eq_true rfl) dX10_row_1 (fun r1 w2 => ?_)
  refine e_if_eq G (pc := 4) (tgt := 21) dX10_row_4 (by decide) ?_ ?_
  · refine e_iconst G (pc := 21) (v := (-1)) dX10_row_21 (by decide) ?_
    exact e_iret dX10_row_22
  · refine e_iload_n G (pc := 7) dX10_row_7 rfl rfl ?_
    refine e_iconst G (pc := 8) (v := 5) dX10_row_8 (by decide) ?_
    refine e_cSi G (pc := 9) (ci := 0) (id := 0) (sl := []) (As := [.int a2, .int 5]) (st := []) cs_X10_150 (c_X10_isChoice w2 a2 5 ) (Nat.le_of_ble_eq_true rfl) rfl (Nat.le_of_ble_eq_true rfl) dX10_row_9 (fun r3 w4 => ?_)
    refine e_if_eq G (pc := 12) (tgt := 21) dX10_row_12 (by decide) ?_ ?_
    · refine e_iconst G (pc := 21) (v := (-1)) dX10_row_21 (by decide) ?_
      exact e_iret dX10_row_22
    · refine e_iload_n G (pc := 15) dX10_row_15 rfl rfl ?_
      refine e_bipush G (pc := 16) (v := 60) dX10_row_16 (by decide) ?_
      refine e_icmp_le G (pc := 18) (tgt := 23) dX10_row_18 (by decide) ?_ ?_
      · refine e_iload_n G (pc := 23) dX10_row_23 rfl rfl ?_
        refine e_if_ge G (pc := 24) (tgt := 30) dX10_row_24 (by decide) ?_ ?_
        · refine e_aload_n G (pc := 30) dX10_row_30 rfl rfl ?_
          refine e_getF G (pc := 31) sh_0 rfl lk_X10_80 dX10_row_31 ?_
          refine e_iload_n G (pc := 34) dX10_row_34 rfl rfl ?_
          refine e_aald G (pc := 35) dX10_row_35 (fun id5 hs6 => ?_)
          refine e_iload_n G (pc := 36) dX10_row_36 rfl rfl ?_
          refine e_iload_n G (pc := 37) dX10_row_37 rfl rfl ?_
          refine e_cVv G (pc := 38) (As := [.int a2, .int a3]) (st := []) cv_X10_310 (c_X6_holdRow w4 id5 a2 a3 hs6) hs6.1 (Nat.le_of_ble_eq_true rfl) rfl (Nat.le_of_ble_eq_true rfl) dX10_row_38 (fun r7 w8 => ?_)
          refine e_iconst G (pc := 41) (v := 1) dX10_row_41 (by decide) ?_
          exact e_iret dX10_row_42
        · refine e_bipush G (pc := 27) (v := (-14)) dX10_row_27 (by decide) ?_
          exact e_iret dX10_row_29
      · refine e_iconst G (pc := 21) (v := (-1)) dX10_row_21 (by decide) ?_
        exact e_iret dX10_row_22
set_option maxRecDepth 100000 in
set_option maxHeartbeats 4000000 in
theorem c_X10_row (w : qW) (a1 : Int32) (a2 : Int32) (a3 : Int32) : q_AC q_vi (some .int) (4) yX10_row cX10_row 4 [.ref 0, .int a1, .int a2, .int a3] w (f_X10_row w a1 a2 a3) := q_met_i (k := 0) (by decide +kernel) rfl rfl rfl (fun _ _ G => t_X10_row G w a1 a2 a3 )
set_option maxRecDepth 100000 in
set_option maxHeartbeats 4000000 in
theorem t_X10_put {E : qE} {Γ : qC} (G : q_Ok E Γ RX10 cX10_put 6 (4)) (w : qW) (a1 : Int32) (a2 : Int32) (a3 : Int64) : q_Ev E Γ 6 (q_Fi E Γ cX10_put) 0 [some (.ref 0), some (.int a1), some (.int a2), some (.long a3), none, none] [] w (f_X10_put w a1 a2 a3) := by
  unfold f_X10_put
  refine e_iload_n G (pc := 0) dX10_put_0 rfl rfl ?_
  refine e_cSi G (pc := 1) (ci := 0) (id := 0) (sl := []) (As := [.int a1]) (st := []) cs_X10_97 (c_X10_isShelf w a1 ) (Nat.le_of_ble_eq_true rfl) rfl (Nat.le_of_ble_eq_true rfl) dX10_put_1 (fun r1 w2 => ?_)
  refine e_if_ne G (pc := 4) (tgt := 9) dX10_put_4 (by decide) ?_ ?_
  · refine e_aload_n G (pc := 9) dX10_put_9 rfl rfl ?_
    refine e_getF G (pc := 10) sh_0 rfl lk_X10_80 dX10_put_10 ?_
    refine e_iload_n G (pc := 13) dX10_put_13 rfl rfl ?_
    refine e_aald G (pc := 14) dX10_put_14 (fun id3 hs4 => ?_)
    refine e_iload_n G (pc := 15) dX10_put_15 rfl rfl ?_
    refine e_cVi G (pc := 16) (As := [.int a2]) (st := []) cv_X10_313 (c_X6_refusalAt w2 id3 a2 hs4) hs4.1 (Nat.le_of_ble_eq_true rfl) rfl (Nat.le_of_ble_eq_true rfl) dX10_put_16 (fun r5 w6 => ?_)
    refine e_istore G (pc := 19) (L' := [some (.ref 0), some (.int a1), some (.int a2), some (.long a3), none, some (.int r5)]) dX10_put_19 (Nat.le_of_ble_eq_true rfl) rfl ?_
    refine e_iload G (pc := 21) dX10_put_21 rfl ?_
    refine e_if_eq G (pc := 23) (tgt := 29) dX10_put_23 (by decide) ?_ ?_
    · refine e_aload_n G (pc := 29) dX10_put_29 rfl rfl ?_
      refine e_getF G (pc := 30) sh_0 rfl lk_X10_80 dX10_put_30 ?_
      refine e_iload_n G (pc := 33) dX10_put_33 rfl rfl ?_
      refine e_aald G (pc := 34) dX10_put_34 (fun id7 hs8 => ?_)
      refine e_iload_n G (pc := 35) dX10_put_35 rfl rfl ?_
      refine e_lload_n G (pc := 36) dX10_put_36 rfl rfl ?_
      refine e_cVv G (pc := 37) (As := [.int a2, .long a3]) (st := []) cv_X10_316 (c_X6_set w6 id7 a2 a3 hs8) hs8.1 (Nat.le_of_ble_eq_true rfl) rfl (Nat.le_of_ble_eq_true rfl) dX10_put_37 (fun r9 w10 => ?_)
      refine e_iconst G (pc := 40) (v := 1) dX10_put_40 (by decide) ?_
      exact e_iret dX10_put_41
    · refine e_iload G (pc := 26) dX10_put_26 rfl ?_
      exact e_iret dX10_put_28
  · refine e_iconst G (pc := 7) (v := (-1)) dX10_put_7 (by decide) ?_
    exact e_iret dX10_put_8
set_option maxRecDepth 100000 in
set_option maxHeartbeats 4000000 in
theorem c_X10_put (w : qW) (a1 : Int32) (a2 : Int32) (a3 : Int64) : q_AC q_vi (some .int) (4) yX10_put cX10_put 6 [.ref 0, .int a1, .int a2, .long a3] w (f_X10_put w a1 a2 a3) := q_met_i (k := 1) (by decide +kernel) rfl rfl rfl (fun _ _ G => t_X10_put G w a1 a2 a3 )
set_option maxRecDepth 100000 in
set_option maxHeartbeats 4000000 in
theorem t_X10_element {E : qE} {Γ : qC} (G : q_Ok E Γ RX10 cX10_element 3 (4)) (w : qW) (a1 : Int32) (a2 : Int32) : q_Ev E Γ 3 (q_Fl E Γ cX10_element) 0 [some (.ref 0), some (.int a1), some (.int a2)] [] w (f_X10_element w a1 a2) := by
  unfold f_X10_element
  refine e_iload_n G (pc := 0) dX10_element_0 rfl rfl ?_
  refine e_cSi G (pc := 1) (ci := 0) (id := 0) (sl := []) (As := [.int a1]) (st := []) cs_X10_97 (c_X10_isShelf w a1 ) (Nat.le_of_ble_eq_true rfl) rfl (Nat.le_of_ble_eq_true rfl) dX10_element_1 (fun r1 w2 => ?_)
  refine e_if_eq G (pc := 4) (tgt := 20) dX10_element_4 (by decide) ?_ ?_
  · refine e_ldc2 G (pc := 20) kl_X10_321 dX10_element_20 ?_
    exact e_lret dX10_element_23
  · refine e_aload_n G (pc := 7) dX10_element_7 rfl rfl ?_
    refine e_getF G (pc := 8) sh_0 rfl lk_X10_80 dX10_element_8 ?_
    refine e_iload_n G (pc := 11) dX10_element_11 rfl rfl ?_
    refine e_aald G (pc := 12) dX10_element_12 (fun id3 hs4 => ?_)
    refine e_iload_n G (pc := 13) dX10_element_13 rfl rfl ?_
    refine e_cVi G (pc := 14) (As := [.int a2]) (st := []) cv_X10_313 (c_X6_refusalAt w2 id3 a2 hs4) hs4.1 (Nat.le_of_ble_eq_true rfl) rfl (Nat.le_of_ble_eq_true rfl) dX10_element_14 (fun r5 w6 => ?_)
    refine e_if_eq G (pc := 17) (tgt := 24) dX10_element_17 (by decide) ?_ ?_
    · refine e_aload_n G (pc := 24) dX10_element_24 rfl rfl ?_
      refine e_getF G (pc := 25) sh_0 rfl lk_X10_80 dX10_element_25 ?_
      refine e_iload_n G (pc := 28) dX10_element_28 rfl rfl ?_
      refine e_aald G (pc := 29) dX10_element_29 (fun id7 hs8 => ?_)
      refine e_iload_n G (pc := 30) dX10_element_30 rfl rfl ?_
      refine e_cVl G (pc := 31) (As := [.int a2]) (st := []) cv_X10_323 (c_X6_get w6 id7 a2 hs8) hs8.1 (Nat.le_of_ble_eq_true rfl) rfl (Nat.le_of_ble_eq_true rfl) dX10_element_31 (fun r9 w10 => ?_)
      exact e_lret dX10_element_34
    · refine e_ldc2 G (pc := 20) kl_X10_321 dX10_element_20 ?_
      exact e_lret dX10_element_23
set_option maxRecDepth 100000 in
set_option maxHeartbeats 4000000 in
theorem c_X10_element (w : qW) (a1 : Int32) (a2 : Int32) : q_AC q_vl (some .long) (4) yX10_element cX10_element 3 [.ref 0, .int a1, .int a2] w (f_X10_element w a1 a2) := q_met_l (k := 0) (by decide +kernel) rfl rfl rfl (fun _ _ G => t_X10_element G w a1 a2 )
set_option maxRecDepth 100000 in
set_option maxHeartbeats 4000000 in
theorem t_X10_shift {E : qE} {Γ : qC} (G : q_Ok E Γ RX10 cX10_shift 6 (4)) (w : qW) (a1 : Int32) (a2 : Int32) (a3 : Int32) (a4 : Int32) (a5 : Int32) : q_Ev E Γ 6 (q_Fi E Γ cX10_shift) 0 [some (.ref 0), some (.int a1), some (.int a2), some (.int a3), some (.int a4), some (.int a5)] [] w (f_X10_shift w a1 a2 a3 a4 a5) := by
  unfold f_X10_shift
  refine e_iload_n G (pc := 0) dX10_shift_0 rfl rfl ?_
  refine e_cSi G (pc := 1) (ci := 0) (id := 0) (sl := []) (As := [.int a1]) (st := []) cs_X10_97 (c_X10_isShelf w a1 ) (Nat.le_of_ble_eq_true rfl) rfl (Nat.le_of_ble_eq_true rfl) dX10_shift_1 (fun r1 w2 => ?_)
  refine e_if_eq G (pc := 4) (tgt := 14) dX10_shift_4 (by decide) ?_ ?_
  · refine e_iconst G (pc := 14) (v := (-1)) dX10_shift_14 (by decide) ?_
    exact e_iret dX10_shift_15
  · refine e_iload_n G (pc := 7) dX10_shift_7 rfl rfl ?_
    refine e_cSi G (pc := 8) (ci := 0) (id := 0) (sl := []) (As := [.int a3]) (st := []) cs_X10_97 (c_X10_isShelf w2 a3 ) (Nat.le_of_ble_eq_true rfl) rfl (Nat.le_of_ble_eq_true rfl) dX10_shift_8 (fun r3 w4 => ?_)
    refine e_if_ne G (pc := 11) (tgt := 16) dX10_shift_11 (by decide) ?_ ?_
    · refine e_aload_n G (pc := 16) dX10_shift_16 rfl rfl ?_
      refine e_getF G (pc := 17) sh_0 rfl lk_X10_80 dX10_shift_17 ?_
      refine e_iload_n G (pc := 20) dX10_shift_20 rfl rfl ?_
      refine e_aald G (pc := 21) dX10_shift_21 (fun id5 hs6 => ?_)
      refine e_iload_n G (pc := 22) dX10_shift_22 rfl rfl ?_
      refine e_aload_n G (pc := 23) dX10_shift_23 rfl rfl ?_
      refine e_getF G (pc := 24) sh_0 rfl lk_X10_80 dX10_shift_24 ?_
      refine e_iload_n G (pc := 27) dX10_shift_27 rfl rfl ?_
      refine e_aald G (pc := 28) dX10_shift_28 (fun id7 hs8 => ?_)
      refine e_iload G (pc := 29) dX10_shift_29 rfl ?_
      refine e_iload G (pc := 31) dX10_shift_31 rfl ?_
      refine e_cVi G (pc := 33) (As := [.int a2, .ref id7, .int a4, .int a5]) (st := []) cv_X10_326 (c_X6_copyTo w4 id5 a2 id7 a4 a5 hs6 hs8) hs6.1 (Nat.le_of_ble_eq_true rfl) rfl (Nat.le_of_ble_eq_true rfl) dX10_shift_33 (fun r9 w10 => ?_)
      exact e_iret dX10_shift_36
    · refine e_iconst G (pc := 14) (v := (-1)) dX10_shift_14 (by decide) ?_
      exact e_iret dX10_shift_15
set_option maxRecDepth 100000 in
set_option maxHeartbeats 4000000 in
theorem c_X10_shift (w : qW) (a1 : Int32) (a2 : Int32) (a3 : Int32) (a4 : Int32) (a5 : Int32) : q_AC q_vi (some .int) (4) yX10_shift cX10_shift 6 [.ref 0, .int a1, .int a2, .int a3, .int a4, .int a5] w (f_X10_shift w a1 a2 a3 a4 a5) := q_met_i (k := 0) (by decide +kernel) rfl rfl rfl (fun _ _ G => t_X10_shift G w a1 a2 a3 a4 a5 )
set_option maxRecDepth 100000 in
set_option maxHeartbeats 4000000 in
theorem t_X10_taken {E : qE} {Γ : qC} (G : q_Ok E Γ RX10 cX10_taken 5 (3)) (w : qW) (a1 : Int32) (a2 : Int32) : q_Ev E Γ 5 (q_Fi E Γ cX10_taken) 0 [some (.ref 0), some (.int a1), some (.int a2), none, none] [] w (f_X10_taken w a1 a2) := by
  unfold f_X10_taken
  refine e_iload_n G (pc := 0) dX10_taken_0 rfl rfl ?_
  refine e_cSi G (pc := 1) (ci := 0) (id := 0) (sl := []) (As := [.int a1]) (st := []) cs_X10_97 (c_X10_isShelf w a1 ) (Nat.le_of_ble_eq_true rfl) rfl (Nat.le_of_ble_eq_true rfl) dX10_taken_1 (fun r1 w2 => ?_)
  refine e_if_eq G (pc := 4) (tgt := 16) dX10_taken_4 (by decide) ?_ ?_
  · refine e_iconst G (pc := 16) (v := (-1)) dX10_taken_16 (by decide) ?_
    exact e_iret dX10_taken_17
  · refine e_iload_n G (pc := 7) dX10_taken_7 rfl rfl ?_
    refine e_bipush G (pc := 8) (v := 8) dX10_taken_8 (by decide) ?_
    refine e_cSi G (pc := 10) (ci := 0) (id := 0) (sl := []) (As := [.int a2, .int 8]) (st := []) cs_X10_150 (c_X10_isChoice w2 a2 8 ) (Nat.le_of_ble_eq_true rfl) rfl (Nat.le_of_ble_eq_true rfl) dX10_taken_10 (fun r3 w4 => ?_)
    refine e_if_ne G (pc := 13) (tgt := 18) dX10_taken_13 (by decide) ?_ ?_
    · refine e_aload_n G (pc := 18) dX10_taken_18 rfl rfl ?_
      refine e_getF G (pc := 19) sh_0 rfl lk_X10_80 dX10_taken_19 ?_
      refine e_iload_n G (pc := 22) dX10_taken_22 rfl rfl ?_
      refine e_aald G (pc := 23) dX10_taken_23 (fun id5 hs6 => ?_)
      refine e_astore_n G (pc := 24) (L' := [some (.ref 0), some (.int a1), some (.int a2), some (.ref id5), none]) dX10_taken_24 rfl (Nat.le_of_ble_eq_true rfl) rfl ?_
      refine e_aload_n G (pc := 25) dX10_taken_25 rfl rfl ?_
      refine e_cVi G (pc := 26) (As := []) (st := []) cv_X10_101 (c_X6_isEmpty w4 id5 hs6) hs6.1 (Nat.le_of_ble_eq_true rfl) rfl (Nat.le_of_ble_eq_true rfl) dX10_taken_26 (fun r7 w8 => ?_)
      refine e_if_eq G (pc := 29) (tgt := 35) dX10_taken_29 (by decide) ?_ ?_
      · refine e_aload_n G (pc := 35) dX10_taken_35 rfl rfl ?_
        refine e_getF G (pc := 36) sh_0 rfl lk_X10_74 dX10_taken_36 ?_
        refine e_aload_n G (pc := 39) dX10_taken_39 rfl rfl ?_
        refine e_cVi G (pc := 40) (As := []) (st := [.ref 32]) cv_X10_330 (c_X6_tree w8 id5 hs6) hs6.1 (Nat.le_of_ble_eq_true rfl) rfl (Nat.le_of_ble_eq_true rfl) dX10_taken_40 (fun r9 w10 => ?_)
        refine e_cVi G (pc := 43) (As := [.int r9]) (st := []) cv_X10_333 (c_X8_kindOf w10 r9 ) sh_32 (Nat.le_of_ble_eq_true rfl) rfl (Nat.le_of_ble_eq_true rfl) dX10_taken_43 (fun r11 w12 => ?_)
        refine e_istore G (pc := 46) (L' := [some (.ref 0), some (.int a1), some (.int a2), some (.ref id5), some (.int r11)]) dX10_taken_46 (Nat.le_of_ble_eq_true rfl) rfl ?_
        refine e_aload_n G (pc := 48) dX10_taken_48 rfl rfl ?_
        refine e_getF G (pc := 49) sh_0 rfl lk_X10_74 dX10_taken_49 ?_
        refine e_iload G (pc := 52) dX10_taken_52 rfl ?_
        refine e_iload_n G (pc := 54) dX10_taken_54 rfl rfl ?_
        refine e_cVi G (pc := 55) (As := [.int r11, .int a2]) (st := []) cv_X10_336 (c_X8_isUnder w12 r11 a2 ) sh_32 (Nat.le_of_ble_eq_true rfl) rfl (Nat.le_of_ble_eq_true rfl) dX10_taken_55 (fun r13 w14 => ?_)
        refine e_if_eq G (pc := 58) (tgt := 66) dX10_taken_58 (by decide) ?_ ?_
        · refine e_bipush G (pc := 66) (v := (-12)) dX10_taken_66 (by decide) ?_
          exact e_iret dX10_taken_68
        · refine e_iload G (pc := 61) dX10_taken_61 rfl ?_
          refine e_goto G (pc := 63) (tgt := 68) dX10_taken_63 (by decide) ?_
          exact e_iret dX10_taken_68
      · refine e_bipush G (pc := 32) (v := (-11)) dX10_taken_32 (by decide) ?_
        exact e_iret dX10_taken_34
    · refine e_iconst G (pc := 16) (v := (-1)) dX10_taken_16 (by decide) ?_
      exact e_iret dX10_taken_17
set_option maxRecDepth 100000 in
set_option maxHeartbeats 4000000 in
theorem c_X10_taken (w : qW) (a1 : Int32) (a2 : Int32) : q_AC q_vi (some .int) (3) yX10_taken cX10_taken 5 [.ref 0, .int a1, .int a2] w (f_X10_taken w a1 a2) := q_met_i (k := 2) (by decide +kernel) rfl rfl rfl (fun _ _ G => t_X10_taken G w a1 a2 )
set_option maxRecDepth 100000 in
set_option maxHeartbeats 4000000 in
theorem t_X10_count {E : qE} {Γ : qC} (G : q_Ok E Γ RX10 cX10_count 2 (2)) (w : qW) (a1 : Int32) : q_Ev E Γ 2 (q_Fi E Γ cX10_count) 0 [some (.ref 0), some (.int a1)] [] w (f_X10_count w a1) := by
  unfold f_X10_count
  refine e_iload_n G (pc := 0) dX10_count_0 rfl rfl ?_
  refine e_ite (fun h1 => ?_) (fun h1 => ?_)
  · refine e_tsIn G (pc := 1) (off := 39) (tgt := 40) dX10_count_1 (by rw [h1]; decide) (by rw [h1]; decide) (by rw [h1]; rfl) (by decide) ?_
    refine e_aload_n G (pc := 40) dX10_count_40 rfl rfl ?_
    refine e_getF G (pc := 41) sh_0 rfl lk_X10_10 dX10_count_41 ?_
    refine e_getI G (pc := 44) sh_1 rfl lk_X10_132 dX10_count_44 ?_
    exact e_iret dX10_count_47
  refine e_ite (fun h2 => ?_) (fun h2 => ?_)
  · refine e_tsIn G (pc := 1) (off := 47) (tgt := 48) dX10_count_1 (by rw [h2]; decide) (by rw [h2]; decide) (by rw [h2]; rfl) (by decide) ?_
    refine e_aload_n G (pc := 48) dX10_count_48 rfl rfl ?_
    refine e_getF G (pc := 49) sh_0 rfl lk_X10_10 dX10_count_49 ?_
    refine e_getI G (pc := 52) sh_1 rfl lk_X10_255 dX10_count_52 ?_
    exact e_iret dX10_count_55
  refine e_ite (fun h3 => ?_) (fun h3 => ?_)
  · refine e_tsIn G (pc := 1) (off := 55) (tgt := 56) dX10_count_1 (by rw [h3]; decide) (by rw [h3]; decide) (by rw [h3]; rfl) (by decide) ?_
    refine e_aload_n G (pc := 56) dX10_count_56 rfl rfl ?_
    refine e_getF G (pc := 57) sh_0 rfl lk_X10_19 dX10_count_57 ?_
    refine e_getI G (pc := 60) sh_3 rfl lk_X10_339 dX10_count_60 ?_
    exact e_iret dX10_count_63
  refine e_ite (fun h4 => ?_) (fun h4 => ?_)
  · refine e_tsIn G (pc := 1) (off := 63) (tgt := 64) dX10_count_1 (by rw [h4]; decide) (by rw [h4]; decide) (by rw [h4]; rfl) (by decide) ?_
    refine e_aload_n G (pc := 64) dX10_count_64 rfl rfl ?_
    refine e_getF G (pc := 65) sh_0 rfl lk_X10_60 dX10_count_65 ?_
    refine e_getI G (pc := 68) sh_24 rfl lk_X10_342 dX10_count_68 ?_
    exact e_iret dX10_count_71
  refine e_ite (fun h5 => ?_) (fun h5 => ?_)
  · refine e_tsIn G (pc := 1) (off := 71) (tgt := 72) dX10_count_1 (by rw [h5]; decide) (by rw [h5]; decide) (by rw [h5]; rfl) (by decide) ?_
    refine e_aload_n G (pc := 72) dX10_count_72 rfl rfl ?_
    refine e_getF G (pc := 73) sh_0 rfl lk_X10_74 dX10_count_73 ?_
    refine e_getI G (pc := 76) sh_32 rfl lk_X10_304 dX10_count_76 ?_
    exact e_iret dX10_count_79
  refine e_ite (fun h6 => ?_) (fun h6 => ?_)
  · refine e_tsIn G (pc := 1) (off := 79) (tgt := 80) dX10_count_1 (by rw [h6]; decide) (by rw [h6]; decide) (by rw [h6]; rfl) (by decide) ?_
    refine e_aload_n G (pc := 80) dX10_count_80 rfl rfl ?_
    refine e_getF G (pc := 81) sh_0 rfl lk_X10_74 dX10_count_81 ?_
    refine e_getI G (pc := 84) sh_32 rfl lk_X10_345 dX10_count_84 ?_
    exact e_iret dX10_count_87
  have h1 := lv_neT h1 (show (0 : Int32).toInt = 0 by decide)
  have h2 := lv_neT h2 (show (1 : Int32).toInt = 1 by decide)
  have h3 := lv_neT h3 (show (2 : Int32).toInt = 2 by decide)
  have h4 := lv_neT h4 (show (3 : Int32).toInt = 3 by decide)
  have h5 := lv_neT h5 (show (4 : Int32).toInt = 4 by decide)
  have h6 := lv_neT h6 (show (5 : Int32).toInt = 5 by decide)
  refine e_tsOut G (pc := 1) (tgt := 88) dX10_count_1 (by omega) (by decide) ?_
  refine e_iconst G (pc := 88) (v := (-1)) dX10_count_88 (by decide) ?_
  exact e_iret dX10_count_89
set_option maxRecDepth 100000 in
set_option maxHeartbeats 4000000 in
theorem c_X10_count (w : qW) (a1 : Int32) : q_AC q_vi (some .int) (2) yX10_count cX10_count 2 [.ref 0, .int a1] w (f_X10_count w a1) := q_met_i (k := 0) (by decide +kernel) rfl rfl rfl (fun _ _ G => t_X10_count G w a1 )
