set_option maxRecDepth 100000 in
set_option maxHeartbeats 4000000 in
theorem t_X11_served_B71 {E : qE} {Γ : qC} (G : q_Ok E Γ RX11 cX11_served 5 (110)) (k41 : qW → Int32 → Int32 → Int32 → Option (Int32 × qW)) (hk41 : ∀ (w : qW) (l1 : Int32) (l3 : Int32) (l4 : Int32), q_Ev E Γ 5 (q_Fi E Γ cX11_served) 41 [some (.ref 48), some (.int l1), none, some (.int l3), some (.int l4)] [] w (k41 w l1 l3 l4)) (w : qW) (l1 : Int32) (l4 : Int32) (s0 : Int32) (s1 : Int32) : q_Ev E Γ 5 (q_Fi E Γ cX11_served) 71 [some (.ref 48), some (.int l1), none, none, some (.int l4)] [.int s0, .int s1] w (f_X11_served_B71 k41 w l1 l4 s0 s1) := by
  unfold f_X11_served_B71
  refine e_ior G (pc := 71) dX11_served_71 ?_
  refine e_ti (fun v1 => ?_)
  refine e_istore_n G (pc := 72) (L' := [some (.ref 48), some (.int l1), none, some (.int v1), some (.int l4)]) dX11_served_72 rfl (Nat.le_of_ble_eq_true rfl) rfl ?_
  refine e_iinc G (pc := 73) (x := l4) (v := l4 + 1) (L' := fun v2 => [some (.ref 48), some (.int l1), none, some (.int v1), some (.int v2)]) dX11_served_73 (Nat.le_of_ble_eq_true rfl) rfl (by rfl) (fun _ => rfl) (fun v2 => ?_)
  refine e_goto G (pc := 76) (tgt := 41) dX11_served_76 (by decide) ?_
  exact hk41 w l1 v1 v2 
set_option maxRecDepth 100000 in
set_option maxHeartbeats 4000000 in
theorem t_X11_served_B41 {E : qE} {Γ : qC} (G : q_Ok E Γ RX11 cX11_served 5 (110)) (k41 : qW → Int32 → Int32 → Int32 → Option (Int32 × qW)) (hk41 : ∀ (w : qW) (l1 : Int32) (l3 : Int32) (l4 : Int32), q_Ev E Γ 5 (q_Fi E Γ cX11_served) 41 [some (.ref 48), some (.int l1), none, some (.int l3), some (.int l4)] [] w (k41 w l1 l3 l4)) (w : qW) (l1 : Int32) (l3 : Int32) (l4 : Int32) : q_Ev E Γ 5 (q_Fi E Γ cX11_served) 41 [some (.ref 48), some (.int l1), none, some (.int l3), some (.int l4)] [] w (f_X11_served_B41 k41 w l1 l3 l4) := by
  unfold f_X11_served_B41
  refine e_iload G (pc := 41) dX11_served_41 rfl ?_
  refine e_bipush G (pc := 43) (v := 12) dX11_served_43 (by decide) ?_
  refine e_icmp_ge G (pc := 45) (tgt := 79) dX11_served_45 (by decide) ?_ ?_
  · refine e_iload_n G (pc := 79) dX11_served_79 rfl rfl ?_
    exact e_iret dX11_served_80
  · refine e_iload_n G (pc := 48) dX11_served_48 rfl rfl ?_
    refine e_aload_n G (pc := 49) dX11_served_49 rfl rfl ?_
    refine e_iload_n G (pc := 50) dX11_served_50 rfl rfl ?_
    refine e_iload G (pc := 51) dX11_served_51 rfl ?_
    refine e_aload_n G (pc := 53) dX11_served_53 rfl rfl ?_
    refine e_cVi G (pc := 54) (As := []) (st := [.int l4, .int l1, .ref 48, .int l3]) cv_X11_207 (c_X11_everybody w  ) sh_48 (Nat.le_of_ble_eq_true rfl) rfl (Nat.le_of_ble_eq_true rfl) dX11_served_54 (fun r1 w2 => ?_)
    refine e_cVi G (pc := 57) (As := [.int l1, .int l4, .int r1]) (st := [.int l3]) cv_X11_216 (c_X11_isServed w2 l1 l4 r1 ) sh_48 (Nat.le_of_ble_eq_true rfl) rfl (Nat.le_of_ble_eq_true rfl) dX11_served_57 (fun r3 w4 => ?_)
    refine e_if_eq G (pc := 60) (tgt := 70) dX11_served_60 (by decide) ?_ ?_
    · refine e_iconst G (pc := 70) (v := 0) dX11_served_70 (by decide) ?_
      refine e_wk (L' := [some (.ref 48), some (.int l1), none, none, some (.int l4)]) (And.intro rfl (And.intro rfl (And.intro rfl (trivial)))) ?_
      exact t_X11_served_B71 G k41 hk41 w4 l1 l4 0 l3 
    · refine e_iconst G (pc := 63) (v := 1) dX11_served_63 (by decide) ?_
      refine e_iload G (pc := 64) dX11_served_64 rfl ?_
      refine e_ishl G (pc := 66) dX11_served_66 ?_
      refine e_goto G (pc := 67) (tgt := 71) dX11_served_67 (by decide) ?_
      refine e_wk (L' := [some (.ref 48), some (.int l1), none, none, some (.int l4)]) (And.intro rfl (And.intro rfl (And.intro rfl (trivial)))) ?_
      exact t_X11_served_B71 G k41 hk41 w4 l1 l4 ((1 : Int32) <<< (l4 &&& 31)) l3 
set_option maxRecDepth 100000 in
set_option maxHeartbeats 4000000 in
theorem t_X11_served_R41 {E : qE} {Γ : qC} (G : q_Ok E Γ RX11 cX11_served 5 (110)) : ∀ (fuel : Nat) (w : qW) (l1 : Int32) (l3 : Int32) (l4 : Int32) , q_Ev E Γ 5 (q_Fi E Γ cX11_served) 41 [some (.ref 48), some (.int l1), none, some (.int l3), some (.int l4)] [] w (f_X11_served_R41 fuel w l1 l3 l4) := by
  intro fuel
  induction fuel with
  | zero => intros; exact e_none
  | succ fuel ih =>
    intro w l1 l3 l4 
    exact t_X11_served_B41 G _ ih w l1 l3 l4 
set_option maxRecDepth 100000 in
set_option maxHeartbeats 4000000 in
theorem t_X11_served {E : qE} {Γ : qC} (G : q_Ok E Γ RX11 cX11_served 5 (110)) (w : qW) (a1 : Int32) (a2 : Int32) : q_Ev E Γ 5 (q_Fi E Γ cX11_served) 0 [some (.ref 48), some (.int a1), some (.int a2), none, none] [] w (f_X11_served w a1 a2) := by
  unfold f_X11_served
  refine e_aload_n G (pc := 0) dX11_served_0 rfl rfl ?_
  refine e_iload_n G (pc := 1) dX11_served_1 rfl rfl ?_
  refine e_i2l G (pc := 2) dX11_served_2 ?_
  refine e_cVi G (pc := 3) (As := [.long (Int32.toInt64 a1)]) (st := []) cv_X11_121 (c_X11_isSitter w (Int32.toInt64 a1) ) sh_48 (Nat.le_of_ble_eq_true rfl) rfl (Nat.le_of_ble_eq_true rfl) dX11_served_3 (fun r1 w2 => ?_)
  refine e_if_eq G (pc := 6) (tgt := 19) dX11_served_6 (by decide) ?_ ?_
  · refine e_iconst G (pc := 19) (v := (-1)) dX11_served_19 (by decide) ?_
    exact e_iret dX11_served_20
  · refine e_iload_n G (pc := 9) dX11_served_9 rfl rfl ?_
    refine e_i2l G (pc := 10) dX11_served_10 ?_
    refine e_lconst G (pc := 11) (v := 0) dX11_served_11 (by decide) ?_
    refine e_lconst G (pc := 12) (v := 1) dX11_served_12 (by decide) ?_
    refine e_cSi G (pc := 13) (ci := 0) (id := 0) (sl := []) (As := [.long (Int32.toInt64 a2), .long 0, .long 1]) (st := []) cs_X11_78 (c_X11_within w2 (Int32.toInt64 a2) 0 1 ) (Nat.le_of_ble_eq_true rfl) rfl (Nat.le_of_ble_eq_true rfl) dX11_served_13 (fun r3 w4 => ?_)
    refine e_if_ne G (pc := 16) (tgt := 21) dX11_served_16 (by decide) ?_ ?_
    · refine e_iload_n G (pc := 21) dX11_served_21 rfl rfl ?_
      refine e_iconst G (pc := 22) (v := 1) dX11_served_22 (by decide) ?_
      refine e_icmp_ne G (pc := 23) (tgt := 36) dX11_served_23 (by decide) ?_ ?_
      · refine e_iconst G (pc := 36) (v := 0) dX11_served_36 (by decide) ?_
        refine e_istore_n G (pc := 37) (L' := [some (.ref 48), some (.int a1), some (.int a2), some (.int 0), none]) dX11_served_37 rfl (Nat.le_of_ble_eq_true rfl) rfl ?_
        refine e_iconst G (pc := 38) (v := 0) dX11_served_38 (by decide) ?_
        refine e_istore G (pc := 39) (L' := [some (.ref 48), some (.int a1), some (.int a2), some (.int 0), some (.int 0)]) dX11_served_39 (Nat.le_of_ble_eq_true rfl) rfl ?_
        refine e_wk (L' := [some (.ref 48), some (.int a1), none, some (.int 0), some (.int 0)]) (And.intro rfl (And.intro rfl (And.intro rfl (And.intro rfl (trivial))))) ?_
        exact t_X11_served_R41 G  q_fuel w4 a1 0 0 
      · refine e_aload_n G (pc := 26) dX11_served_26 rfl rfl ?_
        refine e_iload_n G (pc := 27) dX11_served_27 rfl rfl ?_
        refine e_aload_n G (pc := 28) dX11_served_28 rfl rfl ?_
        refine e_cVi G (pc := 29) (As := []) (st := [.int a1, .ref 48]) cv_X11_207 (c_X11_everybody w4  ) sh_48 (Nat.le_of_ble_eq_true rfl) rfl (Nat.le_of_ble_eq_true rfl) dX11_served_29 (fun r5 w6 => ?_)
        refine e_cVi G (pc := 32) (As := [.int a1, .int r5]) (st := []) cv_X11_220 (c_X11_missesOf w6 a1 r5 ) sh_48 (Nat.le_of_ble_eq_true rfl) rfl (Nat.le_of_ble_eq_true rfl) dX11_served_32 (fun r7 w8 => ?_)
        exact e_iret dX11_served_35
    · refine e_iconst G (pc := 19) (v := (-1)) dX11_served_19 (by decide) ?_
      exact e_iret dX11_served_20
set_option maxRecDepth 100000 in
set_option maxHeartbeats 4000000 in
theorem c_X11_served (w : qW) (a1 : Int32) (a2 : Int32) : q_AC q_vi (some .int) (110) yX11_served cX11_served 5 [.ref 48, .int a1, .int a2] w (f_X11_served w a1 a2) := q_met_i (k := 2) (by decide +kernel) rfl rfl rfl (fun _ _ G => t_X11_served G w a1 a2 )
set_option maxRecDepth 100000 in
set_option maxHeartbeats 4000000 in
theorem t_X11_at_B102 {E : qE} {Γ : qC} (G : q_Ok E Γ RX11 cX11_at 6 (111)) (k44 : qW → Int32 → Int32 → Int32 → Int32 → Option (Int32 × qW)) (hk44 : ∀ (w : qW) (l1 : Int32) (l2 : Int32) (l3 : Int32) (l4 : Int32), q_Ev E Γ 6 (q_Fi E Γ cX11_at) 44 [some (.ref 48), some (.int l1), some (.int l2), some (.int l3), some (.int l4), none] [] w (k44 w l1 l2 l3 l4)) (w : qW) (l1 : Int32) (l2 : Int32) (l4 : Int32) (s0 : Int32) (s1 : Int32) : q_Ev E Γ 6 (q_Fi E Γ cX11_at) 102 [some (.ref 48), some (.int l1), some (.int l2), none, some (.int l4), none] [.int s0, .int s1] w (f_X11_at_B102 k44 w l1 l2 l4 s0 s1) := by
  unfold f_X11_at_B102
  refine e_ior G (pc := 102) dX11_at_102 ?_
  refine e_ti (fun v1 => ?_)
  refine e_istore_n G (pc := 103) (L' := [some (.ref 48), some (.int l1), some (.int l2), some (.int v1), some (.int l4), none]) dX11_at_103 rfl (Nat.le_of_ble_eq_true rfl) rfl ?_
  refine e_iinc G (pc := 104) (x := l4) (v := l4 + 1) (L' := fun v2 => [some (.ref 48), some (.int l1), some (.int l2), some (.int v1), some (.int v2), none]) dX11_at_104 (Nat.le_of_ble_eq_true rfl) rfl (by rfl) (fun _ => rfl) (fun v2 => ?_)
  refine e_goto G (pc := 107) (tgt := 44) dX11_at_107 (by decide) ?_
  exact hk44 w l1 l2 v1 v2 
set_option maxRecDepth 100000 in
set_option maxHeartbeats 4000000 in
theorem t_X11_at_B101 {E : qE} {Γ : qC} (G : q_Ok E Γ RX11 cX11_at 6 (111)) (k44 : qW → Int32 → Int32 → Int32 → Int32 → Option (Int32 × qW)) (hk44 : ∀ (w : qW) (l1 : Int32) (l2 : Int32) (l3 : Int32) (l4 : Int32), q_Ev E Γ 6 (q_Fi E Γ cX11_at) 44 [some (.ref 48), some (.int l1), some (.int l2), some (.int l3), some (.int l4), none] [] w (k44 w l1 l2 l3 l4)) (w : qW) (l1 : Int32) (l2 : Int32) (l4 : Int32) (s0 : Int32) : q_Ev E Γ 6 (q_Fi E Γ cX11_at) 101 [some (.ref 48), some (.int l1), some (.int l2), none, some (.int l4), none] [.int s0] w (f_X11_at_B101 k44 w l1 l2 l4 s0) := by
  unfold f_X11_at_B101
  refine e_iconst G (pc := 101) (v := 0) dX11_at_101 (by decide) ?_
  exact t_X11_at_B102 G k44 hk44 w l1 l2 l4 0 s0 
set_option maxRecDepth 100000 in
set_option maxHeartbeats 4000000 in
theorem t_X11_at_B94 {E : qE} {Γ : qC} (G : q_Ok E Γ RX11 cX11_at 6 (111)) (k44 : qW → Int32 → Int32 → Int32 → Int32 → Option (Int32 × qW)) (hk44 : ∀ (w : qW) (l1 : Int32) (l2 : Int32) (l3 : Int32) (l4 : Int32), q_Ev E Γ 6 (q_Fi E Γ cX11_at) 44 [some (.ref 48), some (.int l1), some (.int l2), some (.int l3), some (.int l4), none] [] w (k44 w l1 l2 l3 l4)) (w : qW) (l1 : Int32) (l2 : Int32) (l4 : Int32) (s0 : Int32) : q_Ev E Γ 6 (q_Fi E Γ cX11_at) 94 [some (.ref 48), some (.int l1), some (.int l2), none, some (.int l4), none] [.int s0] w (f_X11_at_B94 k44 w l1 l2 l4 s0) := by
  unfold f_X11_at_B94
  refine e_iconst G (pc := 94) (v := 1) dX11_at_94 (by decide) ?_
  refine e_iload G (pc := 95) dX11_at_95 rfl ?_
  refine e_ishl G (pc := 97) dX11_at_97 ?_
  refine e_goto G (pc := 98) (tgt := 102) dX11_at_98 (by decide) ?_
  exact t_X11_at_B102 G k44 hk44 w l1 l2 l4 ((1 : Int32) <<< (l4 &&& 31)) s0 
set_option maxRecDepth 100000 in
set_option maxHeartbeats 4000000 in
theorem t_X11_at_B44 {E : qE} {Γ : qC} (G : q_Ok E Γ RX11 cX11_at 6 (111)) (k44 : qW → Int32 → Int32 → Int32 → Int32 → Option (Int32 × qW)) (hk44 : ∀ (w : qW) (l1 : Int32) (l2 : Int32) (l3 : Int32) (l4 : Int32), q_Ev E Γ 6 (q_Fi E Γ cX11_at) 44 [some (.ref 48), some (.int l1), some (.int l2), some (.int l3), some (.int l4), none] [] w (k44 w l1 l2 l3 l4)) (w : qW) (l1 : Int32) (l2 : Int32) (l3 : Int32) (l4 : Int32) : q_Ev E Γ 6 (q_Fi E Γ cX11_at) 44 [some (.ref 48), some (.int l1), some (.int l2), some (.int l3), some (.int l4), none] [] w (f_X11_at_B44 k44 w l1 l2 l3 l4) := by
  unfold f_X11_at_B44
  refine e_iload G (pc := 44) dX11_at_44 rfl ?_
  refine e_aload_n G (pc := 46) dX11_at_46 rfl rfl ?_
  refine e_getI G (pc := 47) sh_48 rfl lk_X11_82 dX11_at_47 ?_
  refine e_icmp_ge G (pc := 50) (tgt := 110) dX11_at_50 (by decide) ?_ ?_
  · refine e_iload_n G (pc := 110) dX11_at_110 rfl rfl ?_
    exact e_iret dX11_at_111
  · refine e_aload_n G (pc := 53) dX11_at_53 rfl rfl ?_
    refine e_iload G (pc := 54) dX11_at_54 rfl ?_
    refine e_iload_n G (pc := 56) dX11_at_56 rfl rfl ?_
    refine e_aload_n G (pc := 57) dX11_at_57 rfl rfl ?_
    refine e_cVi G (pc := 58) (As := []) (st := [.int l1, .int l4, .ref 48]) cv_X11_207 (c_X11_everybody w  ) sh_48 (Nat.le_of_ble_eq_true rfl) rfl (Nat.le_of_ble_eq_true rfl) dX11_at_58 (fun r1 w2 => ?_)
    refine e_cVi G (pc := 61) (As := [.int l4, .int l1, .int r1]) (st := []) cv_X11_216 (c_X11_isServed w2 l4 l1 r1 ) sh_48 (Nat.le_of_ble_eq_true rfl) rfl (Nat.le_of_ble_eq_true rfl) dX11_at_61 (fun r3 w4 => ?_)
    refine e_istore G (pc := 64) (L' := [some (.ref 48), some (.int l1), some (.int l2), some (.int l3), some (.int l4), some (.int r3)]) dX11_at_64 (Nat.le_of_ble_eq_true rfl) rfl ?_
    refine e_iload_n G (pc := 66) dX11_at_66 rfl rfl ?_
    refine e_iload_n G (pc := 67) dX11_at_67 rfl rfl ?_
    refine e_if_ne G (pc := 68) (tgt := 79) dX11_at_68 (by decide) ?_ ?_
    · refine e_iload G (pc := 79) dX11_at_79 rfl ?_
      refine e_if_ne G (pc := 81) (tgt := 101) dX11_at_81 (by decide) ?_ ?_
      · refine e_wk (L' := [some (.ref 48), some (.int l1), some (.int l2), none, some (.int l4), none]) (And.intro rfl (And.intro rfl (And.intro rfl (And.intro rfl (trivial))))) ?_
        exact t_X11_at_B101 G k44 hk44 w4 l1 l2 l4 l3 
      · refine e_aload_n G (pc := 84) dX11_at_84 rfl rfl ?_
        refine e_iload G (pc := 85) dX11_at_85 rfl ?_
        refine e_iload_n G (pc := 87) dX11_at_87 rfl rfl ?_
        refine e_cVi G (pc := 88) (As := [.int l4, .int l1]) (st := [.int l3]) cv_X11_213 (c_X11_wants w4 l4 l1 ) sh_48 (Nat.le_of_ble_eq_true rfl) rfl (Nat.le_of_ble_eq_true rfl) dX11_at_88 (fun r5 w6 => ?_)
        refine e_if_eq G (pc := 91) (tgt := 101) dX11_at_91 (by decide) ?_ ?_
        · refine e_wk (L' := [some (.ref 48), some (.int l1), some (.int l2), none, some (.int l4), none]) (And.intro rfl (And.intro rfl (And.intro rfl (And.intro rfl (trivial))))) ?_
          exact t_X11_at_B101 G k44 hk44 w6 l1 l2 l4 l3 
        · refine e_wk (L' := [some (.ref 48), some (.int l1), some (.int l2), none, some (.int l4), none]) (And.intro rfl (And.intro rfl (And.intro rfl (And.intro rfl (trivial))))) ?_
          exact t_X11_at_B94 G k44 hk44 w6 l1 l2 l4 l3 
    · refine e_iload G (pc := 71) dX11_at_71 rfl ?_
      refine e_if_eq G (pc := 73) (tgt := 101) dX11_at_73 (by decide) ?_ ?_
      · refine e_wk (L' := [some (.ref 48), some (.int l1), some (.int l2), none, some (.int l4), none]) (And.intro rfl (And.intro rfl (And.intro rfl (And.intro rfl (trivial))))) ?_
        exact t_X11_at_B101 G k44 hk44 w4 l1 l2 l4 l3 
      · refine e_goto G (pc := 76) (tgt := 94) dX11_at_76 (by decide) ?_
        refine e_wk (L' := [some (.ref 48), some (.int l1), some (.int l2), none, some (.int l4), none]) (And.intro rfl (And.intro rfl (And.intro rfl (And.intro rfl (trivial))))) ?_
        exact t_X11_at_B94 G k44 hk44 w4 l1 l2 l4 l3 
set_option maxRecDepth 100000 in
set_option maxHeartbeats 4000000 in
theorem t_X11_at_R44 {E : qE} {Γ : qC} (G : q_Ok E Γ RX11 cX11_at 6 (111)) : ∀ (fuel : Nat) (w : qW) (l1 : Int32) (l2 : Int32) (l3 : Int32) (l4 : Int32) , q_Ev E Γ 6 (q_Fi E Γ cX11_at) 44 [some (.ref 48), some (.int l1), some (.int l2), some (.int l3), some (.int l4), none] [] w (f_X11_at_R44 fuel w l1 l2 l3 l4) := by
  intro fuel
  induction fuel with
  | zero => intros; exact e_none
  | succ fuel ih =>
    intro w l1 l2 l3 l4 
    exact t_X11_at_B44 G _ ih w l1 l2 l3 l4 
set_option maxRecDepth 100000 in
set_option maxHeartbeats 4000000 in
theorem t_X11_at_B19 {E : qE} {Γ : qC} (G : q_Ok E Γ RX11 cX11_at 6 (111)) (w : qW) (l1 : Int32) (l2 : Int32) : q_Ev E Γ 6 (q_Fi E Γ cX11_at) 19 [some (.ref 48), some (.int l1), some (.int l2), none, none, none] [] w (f_X11_at_B19 w l1 l2) := by
  unfold f_X11_at_B19
  refine e_iload_n G (pc := 19) dX11_at_19 rfl rfl ?_
  refine e_i2l G (pc := 20) dX11_at_20 ?_
  refine e_cSi G (pc := 21) (ci := 0) (id := 0) (sl := []) (As := [.long (Int32.toInt64 l1)]) (st := []) cs_X11_204 (c_X11_isHour w (Int32.toInt64 l1) ) (Nat.le_of_ble_eq_true rfl) rfl (Nat.le_of_ble_eq_true rfl) dX11_at_21 (fun r1 w2 => ?_)
  refine e_if_eq G (pc := 24) (tgt := 37) dX11_at_24 (by decide) ?_ ?_
  · refine e_iconst G (pc := 37) (v := (-1)) dX11_at_37 (by decide) ?_
    exact e_iret dX11_at_38
  · refine e_iload_n G (pc := 27) dX11_at_27 rfl rfl ?_
    refine e_i2l G (pc := 28) dX11_at_28 ?_
    refine e_lconst G (pc := 29) (v := 0) dX11_at_29 (by decide) ?_
    refine e_lconst G (pc := 30) (v := 1) dX11_at_30 (by decide) ?_
    refine e_cSi G (pc := 31) (ci := 0) (id := 0) (sl := []) (As := [.long (Int32.toInt64 l2), .long 0, .long 1]) (st := []) cs_X11_78 (c_X11_within w2 (Int32.toInt64 l2) 0 1 ) (Nat.le_of_ble_eq_true rfl) rfl (Nat.le_of_ble_eq_true rfl) dX11_at_31 (fun r3 w4 => ?_)
    refine e_if_ne G (pc := 34) (tgt := 39) dX11_at_34 (by decide) ?_ ?_
    · refine e_iconst G (pc := 39) (v := 0) dX11_at_39 (by decide) ?_
      refine e_istore_n G (pc := 40) (L' := [some (.ref 48), some (.int l1), some (.int l2), some (.int 0), none, none]) dX11_at_40 rfl (Nat.le_of_ble_eq_true rfl) rfl ?_
      refine e_iconst G (pc := 41) (v := 0) dX11_at_41 (by decide) ?_
      refine e_istore G (pc := 42) (L' := [some (.ref 48), some (.int l1), some (.int l2), some (.int 0), some (.int 0), none]) dX11_at_42 (Nat.le_of_ble_eq_true rfl) rfl ?_
      exact t_X11_at_R44 G  q_fuel w4 l1 l2 0 0 
    · refine e_iconst G (pc := 37) (v := (-1)) dX11_at_37 (by decide) ?_
      exact e_iret dX11_at_38
set_option maxRecDepth 100000 in
set_option maxHeartbeats 4000000 in
theorem t_X11_at {E : qE} {Γ : qC} (G : q_Ok E Γ RX11 cX11_at 6 (111)) (w : qW) (a1 : Int32) (a2 : Int32) : q_Ev E Γ 6 (q_Fi E Γ cX11_at) 0 [some (.ref 48), some (.int a1), some (.int a2), none, none, none] [] w (f_X11_at w a1 a2) := by
  unfold f_X11_at
  refine e_iload_n G (pc := 0) dX11_at_0 rfl rfl ?_
  refine e_bipush G (pc := 1) (v := 12) dX11_at_1 (by decide) ?_
  refine e_icmp_ne G (pc := 3) (tgt := 19) dX11_at_3 (by decide) ?_ ?_
  · exact t_X11_at_B19 G w a1 a2 
  · refine e_iload_n G (pc := 6) dX11_at_6 rfl rfl ?_
    refine e_if_ne G (pc := 7) (tgt := 19) dX11_at_7 (by decide) ?_ ?_
    · exact t_X11_at_B19 G w a1 a2 
    · refine e_aload_n G (pc := 10) dX11_at_10 rfl rfl ?_
      refine e_aload_n G (pc := 11) dX11_at_11 rfl rfl ?_
      refine e_cVi G (pc := 12) (As := []) (st := [.ref 48]) cv_X11_207 (c_X11_everybody w  ) sh_48 (Nat.le_of_ble_eq_true rfl) rfl (Nat.le_of_ble_eq_true rfl) dX11_at_12 (fun r1 w2 => ?_)
      refine e_cVi G (pc := 15) (As := [.int r1]) (st := []) cv_X11_223 (c_X11_missesAll w2 r1 ) sh_48 (Nat.le_of_ble_eq_true rfl) rfl (Nat.le_of_ble_eq_true rfl) dX11_at_15 (fun r3 w4 => ?_)
      exact e_iret dX11_at_18
set_option maxRecDepth 100000 in
set_option maxHeartbeats 4000000 in
theorem c_X11_at (w : qW) (a1 : Int32) (a2 : Int32) : q_AC q_vi (some .int) (111) yX11_at cX11_at 6 [.ref 48, .int a1, .int a2] w (f_X11_at w a1 a2) := q_met_i (k := 3) (by decide +kernel) rfl rfl rfl (fun _ _ G => t_X11_at G w a1 a2 )
set_option maxRecDepth 100000 in
set_option maxHeartbeats 4000000 in
theorem t_X11_isEnough_B2 {E : qE} {Γ : qC} (G : q_Ok E Γ RX11 cX11_isEnough 3 (110)) (k2 : qW → Int32 → Int32 → Option (Int32 × qW)) (hk2 : ∀ (w : qW) (l1 : Int32) (l2 : Int32), q_Ev E Γ 3 (q_Fz E Γ cX11_isEnough) 2 [some (.ref 48), some (.int l1), some (.int l2)] [] w (k2 w l1 l2)) (w : qW) (l1 : Int32) (l2 : Int32) : q_Ev E Γ 3 (q_Fz E Γ cX11_isEnough) 2 [some (.ref 48), some (.int l1), some (.int l2)] [] w (f_X11_isEnough_B2 k2 w l1 l2) := by
  unfold f_X11_isEnough_B2
  refine e_iload_n G (pc := 2) dX11_isEnough_2 rfl rfl ?_
  refine e_aload_n G (pc := 3) dX11_isEnough_3 rfl rfl ?_
  refine e_getI G (pc := 4) sh_48 rfl lk_X11_82 dX11_isEnough_4 ?_
  refine e_icmp_ge G (pc := 7) (tgt := 36) dX11_isEnough_7 (by decide) ?_ ?_
  · refine e_iconst G (pc := 36) (v := 1) dX11_isEnough_36 (by decide) ?_
    exact e_zret dX11_isEnough_37
  · refine e_aload_n G (pc := 10) dX11_isEnough_10 rfl rfl ?_
    refine e_iload_n G (pc := 11) dX11_isEnough_11 rfl rfl ?_
    refine e_iload_n G (pc := 12) dX11_isEnough_12 rfl rfl ?_
    refine e_cVi G (pc := 13) (As := [.int l2, .int l1]) (st := []) cv_X11_220 (c_X11_missesOf w l2 l1 ) sh_48 (Nat.le_of_ble_eq_true rfl) rfl (Nat.le_of_ble_eq_true rfl) dX11_isEnough_13 (fun r1 w2 => ?_)
    refine e_aload_n G (pc := 16) dX11_isEnough_16 rfl rfl ?_
    refine e_iload_n G (pc := 17) dX11_isEnough_17 rfl rfl ?_
    refine e_aload_n G (pc := 18) dX11_isEnough_18 rfl rfl ?_
    refine e_cVi G (pc := 19) (As := []) (st := [.int l2, .ref 48, .int r1]) cv_X11_207 (c_X11_everybody w2  ) sh_48 (Nat.le_of_ble_eq_true rfl) rfl (Nat.le_of_ble_eq_true rfl) dX11_isEnough_19 (fun r3 w4 => ?_)
    refine e_cVi G (pc := 22) (As := [.int l2, .int r3]) (st := [.int r1]) cv_X11_220 (c_X11_missesOf w4 l2 r3 ) sh_48 (Nat.le_of_ble_eq_true rfl) rfl (Nat.le_of_ble_eq_true rfl) dX11_isEnough_22 (fun r5 w6 => ?_)
    refine e_icmp_le G (pc := 25) (tgt := 30) dX11_isEnough_25 (by decide) ?_ ?_
    · refine e_iinc G (pc := 30) (x := l2) (v := l2 + 1) (L' := fun v7 => [some (.ref 48), some (.int l1), some (.int v7)]) dX11_isEnough_30 (Nat.le_of_ble_eq_true rfl) rfl (by rfl) (fun _ => rfl) (fun v7 => ?_)
      refine e_goto G (pc := 33) (tgt := 2) dX11_isEnough_33 (by decide) ?_
      exact hk2 w6 l1 v7 
    · refine e_iconst G (pc := 28) (v := 0) dX11_isEnough_28 (by decide) ?_
      exact e_zret dX11_isEnough_29
set_option maxRecDepth 100000 in
set_option maxHeartbeats 4000000 in
theorem t_X11_isEnough_R2 {E : qE} {Γ : qC} (G : q_Ok E Γ RX11 cX11_isEnough 3 (110)) : ∀ (fuel : Nat) (w : qW) (l1 : Int32) (l2 : Int32) , q_Ev E Γ 3 (q_Fz E Γ cX11_isEnough) 2 [some (.ref 48), some (.int l1), some (.int l2)] [] w (f_X11_isEnough_R2 fuel w l1 l2) := by
  intro fuel
  induction fuel with
  | zero => intros; exact e_none
  | succ fuel ih =>
    intro w l1 l2 
    exact t_X11_isEnough_B2 G _ ih w l1 l2 
set_option maxRecDepth 100000 in
set_option maxHeartbeats 4000000 in
theorem t_X11_isEnough {E : qE} {Γ : qC} (G : q_Ok E Γ RX11 cX11_isEnough 3 (110)) (w : qW) (a1 : Int32) : q_Ev E Γ 3 (q_Fz E Γ cX11_isEnough) 0 [some (.ref 48), some (.int a1), none] [] w (f_X11_isEnough w a1) := by
  unfold f_X11_isEnough
  refine e_iconst G (pc := 0) (v := 0) dX11_isEnough_0 (by decide) ?_
  refine e_istore_n G (pc := 1) (L' := [some (.ref 48), some (.int a1), some (.int 0)]) dX11_isEnough_1 rfl (Nat.le_of_ble_eq_true rfl) rfl ?_
  exact t_X11_isEnough_R2 G  q_fuel w a1 0 
set_option maxRecDepth 100000 in
set_option maxHeartbeats 4000000 in
theorem c_X11_isEnough (w : qW) (a1 : Int32) : q_AC q_vi (some .boolean) (110) yX11_isEnough cX11_isEnough 3 [.ref 48, .int a1] w (f_X11_isEnough w a1) := q_met_z (k := 1) (by decide +kernel) rfl rfl rfl (fun _ _ G => t_X11_isEnough G w a1 )
set_option maxRecDepth 100000 in
set_option maxHeartbeats 4000000 in
theorem t_X11_payOf_B34 {E : qE} {Γ : qC} (G : q_Ok E Γ RX11 cX11_payOf 4 (3)) (k4 : qW → Int32 → Int32 → Int32 → Option (Int32 × qW)) (hk4 : ∀ (w : qW) (l1 : Int32) (l2 : Int32) (l3 : Int32), q_Ev E Γ 4 (q_Fi E Γ cX11_payOf) 4 [some (.ref 48), some (.int l1), some (.int l2), some (.int l3)] [] w (k4 w l1 l2 l3)) (w : qW) (l1 : Int32) (l3 : Int32) (s0 : Int32) (s1 : Int32) : q_Ev E Γ 4 (q_Fi E Γ cX11_payOf) 34 [some (.ref 48), some (.int l1), none, some (.int l3)] [.int s0, .int s1] w (f_X11_payOf_B34 k4 w l1 l3 s0 s1) := by
  unfold f_X11_payOf_B34
  refine e_iadd G (pc := 34) dX11_payOf_34 ?_
  refine e_ti (fun v1 => ?_)
  refine e_istore_n G (pc := 35) (L' := [some (.ref 48), some (.int l1), some (.int v1), some (.int l3)]) dX11_payOf_35 rfl (Nat.le_of_ble_eq_true rfl) rfl ?_
  refine e_iinc G (pc := 36) (x := l3) (v := l3 + 1) (L' := fun v2 => [some (.ref 48), some (.int l1), some (.int v1), some (.int v2)]) dX11_payOf_36 (Nat.le_of_ble_eq_true rfl) rfl (by rfl) (fun _ => rfl) (fun v2 => ?_)
  refine e_goto G (pc := 39) (tgt := 4) dX11_payOf_39 (by decide) ?_
  exact hk4 w l1 v1 v2 
set_option maxRecDepth 100000 in
set_option maxHeartbeats 4000000 in
theorem t_X11_payOf_B4 {E : qE} {Γ : qC} (G : q_Ok E Γ RX11 cX11_payOf 4 (3)) (k4 : qW → Int32 → Int32 → Int32 → Option (Int32 × qW)) (hk4 : ∀ (w : qW) (l1 : Int32) (l2 : Int32) (l3 : Int32), q_Ev E Γ 4 (q_Fi E Γ cX11_payOf) 4 [some (.ref 48), some (.int l1), some (.int l2), some (.int l3)] [] w (k4 w l1 l2 l3)) (w : qW) (l1 : Int32) (l2 : Int32) (l3 : Int32) : q_Ev E Γ 4 (q_Fi E Γ cX11_payOf) 4 [some (.ref 48), some (.int l1), some (.int l2), some (.int l3)] [] w (f_X11_payOf_B4 k4 w l1 l2 l3) := by
  unfold f_X11_payOf_B4
  refine e_iload_n G (pc := 4) dX11_payOf_4 rfl rfl ?_
  refine e_aload_n G (pc := 5) dX11_payOf_5 rfl rfl ?_
  refine e_getI G (pc := 6) sh_48 rfl lk_X11_75 dX11_payOf_6 ?_
  refine e_icmp_ge G (pc := 9) (tgt := 42) dX11_payOf_9 (by decide) ?_ ?_
  · refine e_iload_n G (pc := 42) dX11_payOf_42 rfl rfl ?_
    exact e_iret dX11_payOf_43
  · refine e_iload_n G (pc := 12) dX11_payOf_12 rfl rfl ?_
    refine e_iload_n G (pc := 13) dX11_payOf_13 rfl rfl ?_
    refine e_iload_n G (pc := 14) dX11_payOf_14 rfl rfl ?_
    refine e_cSi G (pc := 15) (ci := 0) (id := 0) (sl := []) (As := [.int l1, .int l3]) (st := [.int l2]) cs_X11_197 (c_X11_isIn w l1 l3 ) (Nat.le_of_ble_eq_true rfl) rfl (Nat.le_of_ble_eq_true rfl) dX11_payOf_15 (fun r1 w2 => ?_)
    refine e_if_eq G (pc := 18) (tgt := 33) dX11_payOf_18 (by decide) ?_ ?_
    · refine e_iconst G (pc := 33) (v := 0) dX11_payOf_33 (by decide) ?_
      refine e_wk (L' := [some (.ref 48), some (.int l1), none, some (.int l3)]) (And.intro rfl (And.intro rfl (And.intro rfl (trivial)))) ?_
      exact t_X11_payOf_B34 G k4 hk4 w2 l1 l3 0 l2 
    · refine e_aload_n G (pc := 21) dX11_payOf_21 rfl rfl ?_
      refine e_getF G (pc := 22) sh_48 rfl lk_X11_9 dX11_payOf_22 ?_
      refine e_bipush G (pc := 25) (v := 24) dX11_payOf_25 (by decide) ?_
      refine e_iload_n G (pc := 27) dX11_payOf_27 rfl rfl ?_
      refine e_iadd G (pc := 28) dX11_payOf_28 ?_
      refine e_iald G (pc := 29) sh_49 dX11_payOf_29 (fun v3 => ?_)
      refine e_goto G (pc := 30) (tgt := 34) dX11_payOf_30 (by decide) ?_
      refine e_wk (L' := [some (.ref 48), some (.int l1), none, some (.int l3)]) (And.intro rfl (And.intro rfl (And.intro rfl (trivial)))) ?_
      exact t_X11_payOf_B34 G k4 hk4 w2 l1 l3 v3 l2 
set_option maxRecDepth 100000 in
set_option maxHeartbeats 4000000 in
theorem t_X11_payOf_R4 {E : qE} {Γ : qC} (G : q_Ok E Γ RX11 cX11_payOf 4 (3)) : ∀ (fuel : Nat) (w : qW) (l1 : Int32) (l2 : Int32) (l3 : Int32) , q_Ev E Γ 4 (q_Fi E Γ cX11_payOf) 4 [some (.ref 48), some (.int l1), some (.int l2), some (.int l3)] [] w (f_X11_payOf_R4 fuel w l1 l2 l3) := by
  intro fuel
  induction fuel with
  | zero => intros; exact e_none
  | succ fuel ih =>
    intro w l1 l2 l3 
    exact t_X11_payOf_B4 G _ ih w l1 l2 l3 
set_option maxRecDepth 100000 in
set_option maxHeartbeats 4000000 in
theorem t_X11_payOf {E : qE} {Γ : qC} (G : q_Ok E Γ RX11 cX11_payOf 4 (3)) (w : qW) (a1 : Int32) : q_Ev E Γ 4 (q_Fi E Γ cX11_payOf) 0 [some (.ref 48), some (.int a1), none, none] [] w (f_X11_payOf w a1) := by
  unfold f_X11_payOf
  refine e_iconst G (pc := 0) (v := 0) dX11_payOf_0 (by decide) ?_
  refine e_istore_n G (pc := 1) (L' := [some (.ref 48), some (.int a1), some (.int 0), none]) dX11_payOf_1 rfl (Nat.le_of_ble_eq_true rfl) rfl ?_
  refine e_iconst G (pc := 2) (v := 0) dX11_payOf_2 (by decide) ?_
  refine e_istore_n G (pc := 3) (L' := [some (.ref 48), some (.int a1), some (.int 0), some (.int 0)]) dX11_payOf_3 rfl (Nat.le_of_ble_eq_true rfl) rfl ?_
  exact t_X11_payOf_R4 G  q_fuel w a1 0 0 
set_option maxRecDepth 100000 in
set_option maxHeartbeats 4000000 in
theorem c_X11_payOf (w : qW) (a1 : Int32) : q_AC q_vi (some .int) (3) yX11_payOf cX11_payOf 4 [.ref 48, .int a1] w (f_X11_payOf w a1) := q_met_i (k := 2) (by decide +kernel) rfl rfl rfl (fun _ _ G => t_X11_payOf G w a1 )
set_option maxRecDepth 100000 in
set_option maxHeartbeats 4000000 in
theorem t_X11_enough_B135 {E : qE} {Γ : qC} (G : q_Ok E Γ RX11 cX11_enough 5 (111)) (k78 : qW → Int32 → Int32 → Int32 → Option (Int32 × qW)) (hk78 : ∀ (w : qW) (l1 : Int32) (l2 : Int32) (l3 : Int32), q_Ev E Γ 5 (q_Fi E Γ cX11_enough) 78 [some (.ref 48), some (.int l1), some (.int l2), some (.int l3), none] [] w (k78 w l1 l2 l3)) (w : qW) (l1 : Int32) (l2 : Int32) (l3 : Int32) : q_Ev E Γ 5 (q_Fi E Γ cX11_enough) 135 [some (.ref 48), some (.int l1), some (.int l2), some (.int l3), none] [] w (f_X11_enough_B135 k78 w l1 l2 l3) := by
  unfold f_X11_enough_B135
  refine e_iinc G (pc := 135) (x := l3) (v := l3 + (-1)) (L' := fun v1 => [some (.ref 48), some (.int l1), some (.int l2), some (.int v1), none]) dX11_enough_135 (Nat.le_of_ble_eq_true rfl) rfl (by rfl) (fun _ => rfl) (fun v1 => ?_)
  refine e_goto G (pc := 138) (tgt := 78) dX11_enough_138 (by decide) ?_
  exact hk78 w l1 l2 v1 
set_option maxRecDepth 100000 in
set_option maxHeartbeats 4000000 in
theorem t_X11_enough_B125 {E : qE} {Γ : qC} (G : q_Ok E Γ RX11 cX11_enough 5 (111)) (k78 : qW → Int32 → Int32 → Int32 → Option (Int32 × qW)) (hk78 : ∀ (w : qW) (l1 : Int32) (l2 : Int32) (l3 : Int32), q_Ev E Γ 5 (q_Fi E Γ cX11_enough) 78 [some (.ref 48), some (.int l1), some (.int l2), some (.int l3), none] [] w (k78 w l1 l2 l3)) (w : qW) (l1 : Int32) (l2 : Int32) (l3 : Int32) : q_Ev E Γ 5 (q_Fi E Γ cX11_enough) 125 [some (.ref 48), some (.int l1), some (.int l2), some (.int l3), none] [] w (f_X11_enough_B125 k78 w l1 l2 l3) := by
  unfold f_X11_enough_B125
  refine e_aload_n G (pc := 125) dX11_enough_125 rfl rfl ?_
  refine e_iload_n G (pc := 126) dX11_enough_126 rfl rfl ?_
  refine e_cVi G (pc := 127) (As := [.int l3]) (st := []) cv_X11_226 (c_X11_isEnough w l3 ) sh_48 (Nat.le_of_ble_eq_true rfl) rfl (Nat.le_of_ble_eq_true rfl) dX11_enough_127 (fun r1 w2 => ?_)
  refine e_if_eq G (pc := 130) (tgt := 135) dX11_enough_130 (by decide) ?_ ?_
  · exact t_X11_enough_B135 G k78 hk78 w2 l1 l2 l3 
  · refine e_iload_n G (pc := 133) dX11_enough_133 rfl rfl ?_
    refine e_istore_n G (pc := 134) (L' := [some (.ref 48), some (.int l1), some (.int l3), some (.int l3), none]) dX11_enough_134 rfl (Nat.le_of_ble_eq_true rfl) rfl ?_
    exact t_X11_enough_B135 G k78 hk78 w2 l1 l3 l3 
set_option maxRecDepth 100000 in
set_option maxHeartbeats 4000000 in
theorem t_X11_enough_B102 {E : qE} {Γ : qC} (G : q_Ok E Γ RX11 cX11_enough 5 (111)) (k78 : qW → Int32 → Int32 → Int32 → Option (Int32 × qW)) (hk78 : ∀ (w : qW) (l1 : Int32) (l2 : Int32) (l3 : Int32), q_Ev E Γ 5 (q_Fi E Γ cX11_enough) 78 [some (.ref 48), some (.int l1), some (.int l2), some (.int l3), none] [] w (k78 w l1 l2 l3)) (w : qW) (l1 : Int32) (l2 : Int32) (l3 : Int32) (s0 : Int32) : q_Ev E Γ 5 (q_Fi E Γ cX11_enough) 102 [some (.ref 48), some (.int l1), some (.int l2), some (.int l3), none] [.int s0] w (f_X11_enough_B102 k78 w l1 l2 l3 s0) := by
  unfold f_X11_enough_B102
  refine e_istore G (pc := 102) (L' := [some (.ref 48), some (.int l1), some (.int l2), some (.int l3), some (.int s0)]) dX11_enough_102 (Nat.le_of_ble_eq_true rfl) rfl ?_
  refine e_iload G (pc := 104) dX11_enough_104 rfl ?_
  refine e_if_lt G (pc := 106) (tgt := 125) dX11_enough_106 (by decide) ?_ ?_
  · refine e_wk (L' := [some (.ref 48), some (.int l1), some (.int l2), some (.int l3), none]) (And.intro rfl (And.intro rfl (And.intro rfl (And.intro rfl (trivial))))) ?_
    exact t_X11_enough_B125 G k78 hk78 w l1 l2 l3 
  · refine e_iload G (pc := 109) dX11_enough_109 rfl ?_
    refine e_if_ne G (pc := 111) (tgt := 135) dX11_enough_111 (by decide) ?_ ?_
    · refine e_wk (L' := [some (.ref 48), some (.int l1), some (.int l2), some (.int l3), none]) (And.intro rfl (And.intro rfl (And.intro rfl (And.intro rfl (trivial))))) ?_
      exact t_X11_enough_B135 G k78 hk78 w l1 l2 l3 
    · refine e_iload_n G (pc := 114) dX11_enough_114 rfl rfl ?_
      refine e_cSi G (pc := 115) (ci := 0) (id := 0) (sl := []) (As := [.int l3]) (st := []) cs_X11_232 (c_X11_bitsOf w l3 ) (Nat.le_of_ble_eq_true rfl) rfl (Nat.le_of_ble_eq_true rfl) dX11_enough_115 (fun r1 w2 => ?_)
      refine e_iload_n G (pc := 118) dX11_enough_118 rfl rfl ?_
      refine e_cSi G (pc := 119) (ci := 0) (id := 0) (sl := []) (As := [.int l2]) (st := [.int r1]) cs_X11_232 (c_X11_bitsOf w2 l2 ) (Nat.le_of_ble_eq_true rfl) rfl (Nat.le_of_ble_eq_true rfl) dX11_enough_119 (fun r3 w4 => ?_)
      refine e_icmp_gt G (pc := 122) (tgt := 135) dX11_enough_122 (by decide) ?_ ?_
      · refine e_wk (L' := [some (.ref 48), some (.int l1), some (.int l2), some (.int l3), none]) (And.intro rfl (And.intro rfl (And.intro rfl (And.intro rfl (trivial))))) ?_
        exact t_X11_enough_B135 G k78 hk78 w4 l1 l2 l3 
      · refine e_wk (L' := [some (.ref 48), some (.int l1), some (.int l2), some (.int l3), none]) (And.intro rfl (And.intro rfl (And.intro rfl (And.intro rfl (trivial))))) ?_
        exact t_X11_enough_B125 G k78 hk78 w4 l1 l2 l3 
set_option maxRecDepth 100000 in
set_option maxHeartbeats 4000000 in
theorem t_X11_enough_B78 {E : qE} {Γ : qC} (G : q_Ok E Γ RX11 cX11_enough 5 (111)) (k78 : qW → Int32 → Int32 → Int32 → Option (Int32 × qW)) (hk78 : ∀ (w : qW) (l1 : Int32) (l2 : Int32) (l3 : Int32), q_Ev E Γ 5 (q_Fi E Γ cX11_enough) 78 [some (.ref 48), some (.int l1), some (.int l2), some (.int l3), none] [] w (k78 w l1 l2 l3)) (w : qW) (l1 : Int32) (l2 : Int32) (l3 : Int32) : q_Ev E Γ 5 (q_Fi E Γ cX11_enough) 78 [some (.ref 48), some (.int l1), some (.int l2), some (.int l3), none] [] w (f_X11_enough_B78 k78 w l1 l2 l3) := by
  unfold f_X11_enough_B78
  refine e_iload_n G (pc := 78) dX11_enough_78 rfl rfl ?_
  refine e_if_lt G (pc := 79) (tgt := 141) dX11_enough_79 (by decide) ?_ ?_
  · refine e_iload_n G (pc := 141) dX11_enough_141 rfl rfl ?_
    refine e_if_ne G (pc := 142) (tgt := 152) dX11_enough_142 (by decide) ?_ ?_
    · refine e_iload_n G (pc := 152) dX11_enough_152 rfl rfl ?_
      refine e_iconst G (pc := 153) (v := 3) dX11_enough_153 (by decide) ?_
      refine e_icmp_ne G (pc := 154) (tgt := 165) dX11_enough_154 (by decide) ?_ ?_
      · refine e_iload_n G (pc := 165) dX11_enough_165 rfl rfl ?_
        exact e_iret dX11_enough_166
      · refine e_aload_n G (pc := 157) dX11_enough_157 rfl rfl ?_
        refine e_iload_n G (pc := 158) dX11_enough_158 rfl rfl ?_
        refine e_cVi G (pc := 159) (As := [.int l2]) (st := []) cv_X11_229 (c_X11_payOf w l2 ) sh_48 (Nat.le_of_ble_eq_true rfl) rfl (Nat.le_of_ble_eq_true rfl) dX11_enough_159 (fun r1 w2 => ?_)
        refine e_goto G (pc := 162) (tgt := 166) dX11_enough_162 (by decide) ?_
        exact e_iret dX11_enough_166
    · refine e_iload_n G (pc := 145) dX11_enough_145 rfl rfl ?_
      refine e_cSi G (pc := 146) (ci := 0) (id := 0) (sl := []) (As := [.int l2]) (st := []) cs_X11_232 (c_X11_bitsOf w l2 ) (Nat.le_of_ble_eq_true rfl) rfl (Nat.le_of_ble_eq_true rfl) dX11_enough_146 (fun r3 w4 => ?_)
      refine e_goto G (pc := 149) (tgt := 166) dX11_enough_149 (by decide) ?_
      exact e_iret dX11_enough_166
  · refine e_iload_n G (pc := 82) dX11_enough_82 rfl rfl ?_
    refine e_iconst G (pc := 83) (v := 2) dX11_enough_83 (by decide) ?_
    refine e_icmp_ge G (pc := 84) (tgt := 91) dX11_enough_84 (by decide) ?_ ?_
    · refine e_aload_n G (pc := 91) dX11_enough_91 rfl rfl ?_
      refine e_iload_n G (pc := 92) dX11_enough_92 rfl rfl ?_
      refine e_cVi G (pc := 93) (As := [.int l3]) (st := []) cv_X11_229 (c_X11_payOf w l3 ) sh_48 (Nat.le_of_ble_eq_true rfl) rfl (Nat.le_of_ble_eq_true rfl) dX11_enough_93 (fun r5 w6 => ?_)
      refine e_aload_n G (pc := 96) dX11_enough_96 rfl rfl ?_
      refine e_iload_n G (pc := 97) dX11_enough_97 rfl rfl ?_
      refine e_cVi G (pc := 98) (As := [.int l2]) (st := [.int r5]) cv_X11_229 (c_X11_payOf w6 l2 ) sh_48 (Nat.le_of_ble_eq_true rfl) rfl (Nat.le_of_ble_eq_true rfl) dX11_enough_98 (fun r7 w8 => ?_)
      refine e_isub G (pc := 101) dX11_enough_101 ?_
      exact t_X11_enough_B102 G k78 hk78 w8 l1 l2 l3 (r5 - r7) 
    · refine e_iconst G (pc := 87) (v := 0) dX11_enough_87 (by decide) ?_
      refine e_goto G (pc := 88) (tgt := 102) dX11_enough_88 (by decide) ?_
      exact t_X11_enough_B102 G k78 hk78 w l1 l2 l3 0 
set_option maxRecDepth 100000 in
set_option maxHeartbeats 4000000 in
theorem t_X11_enough_R78 {E : qE} {Γ : qC} (G : q_Ok E Γ RX11 cX11_enough 5 (111)) : ∀ (fuel : Nat) (w : qW) (l1 : Int32) (l2 : Int32) (l3 : Int32) , q_Ev E Γ 5 (q_Fi E Γ cX11_enough) 78 [some (.ref 48), some (.int l1), some (.int l2), some (.int l3), none] [] w (f_X11_enough_R78 fuel w l1 l2 l3) := by
  intro fuel
  induction fuel with
  | zero => intros; exact e_none
  | succ fuel ih =>
    intro w l1 l2 l3 
    exact t_X11_enough_B78 G _ ih w l1 l2 l3 
set_option maxRecDepth 100000 in
set_option maxHeartbeats 4000000 in
theorem t_X11_enough_B56 {E : qE} {Γ : qC} (G : q_Ok E Γ RX11 cX11_enough 5 (111)) (k23 : qW → Int32 → Int32 → Option (Int32 × qW)) (hk23 : ∀ (w : qW) (l2 : Int32) (l3 : Int32), q_Ev E Γ 5 (q_Fi E Γ cX11_enough) 23 [some (.ref 48), none, some (.int l2), some (.int l3), none] [] w (k23 w l2 l3)) (w : qW) (l3 : Int32) (s0 : Int32) (s1 : Int32) : q_Ev E Γ 5 (q_Fi E Γ cX11_enough) 56 [some (.ref 48), none, none, some (.int l3), none] [.int s0, .int s1] w (f_X11_enough_B56 k23 w l3 s0 s1) := by
  unfold f_X11_enough_B56
  refine e_ior G (pc := 56) dX11_enough_56 ?_
  refine e_ti (fun v1 => ?_)
  refine e_istore_n G (pc := 57) (L' := [some (.ref 48), none, some (.int v1), some (.int l3), none]) dX11_enough_57 rfl (Nat.le_of_ble_eq_true rfl) rfl ?_
  refine e_iinc G (pc := 58) (x := l3) (v := l3 + 1) (L' := fun v2 => [some (.ref 48), none, some (.int v1), some (.int v2), none]) dX11_enough_58 (Nat.le_of_ble_eq_true rfl) rfl (by rfl) (fun _ => rfl) (fun v2 => ?_)
  refine e_goto G (pc := 61) (tgt := 23) dX11_enough_61 (by decide) ?_
  exact hk23 w v1 v2 
set_option maxRecDepth 100000 in
set_option maxHeartbeats 4000000 in
theorem t_X11_enough_B23 {E : qE} {Γ : qC} (G : q_Ok E Γ RX11 cX11_enough 5 (111)) (k23 : qW → Int32 → Int32 → Option (Int32 × qW)) (hk23 : ∀ (w : qW) (l2 : Int32) (l3 : Int32), q_Ev E Γ 5 (q_Fi E Γ cX11_enough) 23 [some (.ref 48), none, some (.int l2), some (.int l3), none] [] w (k23 w l2 l3)) (w : qW) (l2 : Int32) (l3 : Int32) : q_Ev E Γ 5 (q_Fi E Γ cX11_enough) 23 [some (.ref 48), none, some (.int l2), some (.int l3), none] [] w (f_X11_enough_B23 k23 w l2 l3) := by
  unfold f_X11_enough_B23
  refine e_iload_n G (pc := 23) dX11_enough_23 rfl rfl ?_
  refine e_aload_n G (pc := 24) dX11_enough_24 rfl rfl ?_
  refine e_getI G (pc := 25) sh_48 rfl lk_X11_75 dX11_enough_25 ?_
  refine e_icmp_ge G (pc := 28) (tgt := 64) dX11_enough_28 (by decide) ?_ ?_
  · refine e_iload_n G (pc := 64) dX11_enough_64 rfl rfl ?_
    exact e_iret dX11_enough_65
  · refine e_iload_n G (pc := 31) dX11_enough_31 rfl rfl ?_
    refine e_aload_n G (pc := 32) dX11_enough_32 rfl rfl ?_
    refine e_aload_n G (pc := 33) dX11_enough_33 rfl rfl ?_
    refine e_cVi G (pc := 34) (As := []) (st := [.ref 48, .int l2]) cv_X11_207 (c_X11_everybody w  ) sh_48 (Nat.le_of_ble_eq_true rfl) rfl (Nat.le_of_ble_eq_true rfl) dX11_enough_34 (fun r1 w2 => ?_)
    refine e_iconst G (pc := 37) (v := 1) dX11_enough_37 (by decide) ?_
    refine e_iload_n G (pc := 38) dX11_enough_38 rfl rfl ?_
    refine e_ishl G (pc := 39) dX11_enough_39 ?_
    refine e_iconst G (pc := 40) (v := (-1)) dX11_enough_40 (by decide) ?_
    refine e_ixor G (pc := 41) dX11_enough_41 ?_
    refine e_iand G (pc := 42) dX11_enough_42 ?_
    refine e_cVi G (pc := 43) (As := [.int (r1 &&& (((1 : Int32) <<< (l3 &&& 31)) ^^^ (-1)))]) (st := [.int l2]) cv_X11_226 (c_X11_isEnough w2 (r1 &&& (((1 : Int32) <<< (l3 &&& 31)) ^^^ (-1))) ) sh_48 (Nat.le_of_ble_eq_true rfl) rfl (Nat.le_of_ble_eq_true rfl) dX11_enough_43 (fun r3 w4 => ?_)
    refine e_if_eq G (pc := 46) (tgt := 53) dX11_enough_46 (by decide) ?_ ?_
    · refine e_iconst G (pc := 53) (v := 1) dX11_enough_53 (by decide) ?_
      refine e_iload_n G (pc := 54) dX11_enough_54 rfl rfl ?_
      refine e_ishl G (pc := 55) dX11_enough_55 ?_
      refine e_wk (L' := [some (.ref 48), none, none, some (.int l3), none]) (And.intro rfl (And.intro rfl (trivial))) ?_
      exact t_X11_enough_B56 G k23 hk23 w4 l3 ((1 : Int32) <<< (l3 &&& 31)) l2 
    · refine e_iconst G (pc := 49) (v := 0) dX11_enough_49 (by decide) ?_
      refine e_goto G (pc := 50) (tgt := 56) dX11_enough_50 (by decide) ?_
      refine e_wk (L' := [some (.ref 48), none, none, some (.int l3), none]) (And.intro rfl (And.intro rfl (trivial))) ?_
      exact t_X11_enough_B56 G k23 hk23 w4 l3 0 l2 
set_option maxRecDepth 100000 in
set_option maxHeartbeats 4000000 in
theorem t_X11_enough_R23 {E : qE} {Γ : qC} (G : q_Ok E Γ RX11 cX11_enough 5 (111)) : ∀ (fuel : Nat) (w : qW) (l2 : Int32) (l3 : Int32) , q_Ev E Γ 5 (q_Fi E Γ cX11_enough) 23 [some (.ref 48), none, some (.int l2), some (.int l3), none] [] w (f_X11_enough_R23 fuel w l2 l3) := by
  intro fuel
  induction fuel with
  | zero => intros; exact e_none
  | succ fuel ih =>
    intro w l2 l3 
    exact t_X11_enough_B23 G _ ih w l2 l3 
set_option maxRecDepth 100000 in
set_option maxHeartbeats 4000000 in
theorem t_X11_enough {E : qE} {Γ : qC} (G : q_Ok E Γ RX11 cX11_enough 5 (111)) (w : qW) (a1 : Int32) : q_Ev E Γ 5 (q_Fi E Γ cX11_enough) 0 [some (.ref 48), some (.int a1), none, none, none] [] w (f_X11_enough w a1) := by
  unfold f_X11_enough
  refine e_iload_n G (pc := 0) dX11_enough_0 rfl rfl ?_
  refine e_i2l G (pc := 1) dX11_enough_1 ?_
  refine e_lconst G (pc := 2) (v := 0) dX11_enough_2 (by decide) ?_
  refine e_ldc2 G (pc := 3) kl_X11_119 dX11_enough_3 ?_
  refine e_cSi G (pc := 6) (ci := 0) (id := 0) (sl := []) (As := [.long (Int32.toInt64 a1), .long 0, .long 4]) (st := []) cs_X11_78 (c_X11_within w (Int32.toInt64 a1) 0 4 ) (Nat.le_of_ble_eq_true rfl) rfl (Nat.le_of_ble_eq_true rfl) dX11_enough_6 (fun r1 w2 => ?_)
  refine e_if_ne G (pc := 9) (tgt := 14) dX11_enough_9 (by decide) ?_ ?_
  · refine e_iload_n G (pc := 14) dX11_enough_14 rfl rfl ?_
    refine e_iconst G (pc := 15) (v := 4) dX11_enough_15 (by decide) ?_
    refine e_icmp_ne G (pc := 16) (tgt := 66) dX11_enough_16 (by decide) ?_ ?_
    · refine e_aload_n G (pc := 66) dX11_enough_66 rfl rfl ?_
      refine e_cVi G (pc := 67) (As := []) (st := []) cv_X11_207 (c_X11_everybody w2  ) sh_48 (Nat.le_of_ble_eq_true rfl) rfl (Nat.le_of_ble_eq_true rfl) dX11_enough_67 (fun r3 w4 => ?_)
      refine e_istore_n G (pc := 70) (L' := [some (.ref 48), some (.int a1), some (.int r3), none, none]) dX11_enough_70 rfl (Nat.le_of_ble_eq_true rfl) rfl ?_
      refine e_aload_n G (pc := 71) dX11_enough_71 rfl rfl ?_
      refine e_cVi G (pc := 72) (As := []) (st := []) cv_X11_207 (c_X11_everybody w4  ) sh_48 (Nat.le_of_ble_eq_true rfl) rfl (Nat.le_of_ble_eq_true rfl) dX11_enough_72 (fun r5 w6 => ?_)
      refine e_iconst G (pc := 75) (v := 1) dX11_enough_75 (by decide) ?_
      refine e_isub G (pc := 76) dX11_enough_76 ?_
      refine e_ti (fun v7 => ?_)
      refine e_istore_n G (pc := 77) (L' := [some (.ref 48), some (.int a1), some (.int r3), some (.int v7), none]) dX11_enough_77 rfl (Nat.le_of_ble_eq_true rfl) rfl ?_
      exact t_X11_enough_R78 G  q_fuel w6 a1 r3 v7 
    · refine e_iconst G (pc := 19) (v := 0) dX11_enough_19 (by decide) ?_
      refine e_istore_n G (pc := 20) (L' := [some (.ref 48), some (.int a1), some (.int 0), none, none]) dX11_enough_20 rfl (Nat.le_of_ble_eq_true rfl) rfl ?_
      refine e_iconst G (pc := 21) (v := 0) dX11_enough_21 (by decide) ?_
      refine e_istore_n G (pc := 22) (L' := [some (.ref 48), some (.int a1), some (.int 0), some (.int 0), none]) dX11_enough_22 rfl (Nat.le_of_ble_eq_true rfl) rfl ?_
      refine e_wk (L' := [some (.ref 48), none, some (.int 0), some (.int 0), none]) (And.intro rfl (And.intro rfl (And.intro rfl (trivial)))) ?_
      exact t_X11_enough_R23 G  q_fuel w2 0 0 
  · refine e_iconst G (pc := 12) (v := (-1)) dX11_enough_12 (by decide) ?_
    exact e_iret dX11_enough_13
set_option maxRecDepth 100000 in
set_option maxHeartbeats 4000000 in
theorem c_X11_enough (w : qW) (a1 : Int32) : q_AC q_vi (some .int) (111) yX11_enough cX11_enough 5 [.ref 48, .int a1] w (f_X11_enough w a1) := q_met_i (k := 3) (by decide +kernel) rfl rfl rfl (fun _ _ G => t_X11_enough G w a1 )
set_option maxRecDepth 100000 in
set_option maxHeartbeats 4000000 in
theorem t_X11_isEnoughAt_B44 {E : qE} {Γ : qC} (G : q_Ok E Γ RX11 cX11_isEnoughAt 4 (109)) (k2 : qW → Int32 → Int32 → Int32 → Option (Int32 × qW)) (hk2 : ∀ (w : qW) (l1 : Int32) (l2 : Int32) (l3 : Int32), q_Ev E Γ 4 (q_Fz E Γ cX11_isEnoughAt) 2 [some (.ref 48), some (.int l1), some (.int l2), some (.int l3)] [] w (k2 w l1 l2 l3)) (w : qW) (l1 : Int32) (l2 : Int32) (l3 : Int32) : q_Ev E Γ 4 (q_Fz E Γ cX11_isEnoughAt) 44 [some (.ref 48), some (.int l1), some (.int l2), some (.int l3)] [] w (f_X11_isEnoughAt_B44 k2 w l1 l2 l3) := by
  unfold f_X11_isEnoughAt_B44
  refine e_iinc G (pc := 44) (x := l3) (v := l3 + 1) (L' := fun v1 => [some (.ref 48), some (.int l1), some (.int l2), some (.int v1)]) dX11_isEnoughAt_44 (Nat.le_of_ble_eq_true rfl) rfl (by rfl) (fun _ => rfl) (fun v1 => ?_)
  refine e_goto G (pc := 47) (tgt := 2) dX11_isEnoughAt_47 (by decide) ?_
  exact hk2 w l1 l2 v1 
set_option maxRecDepth 100000 in
set_option maxHeartbeats 4000000 in
theorem t_X11_isEnoughAt_B2 {E : qE} {Γ : qC} (G : q_Ok E Γ RX11 cX11_isEnoughAt 4 (109)) (k2 : qW → Int32 → Int32 → Int32 → Option (Int32 × qW)) (hk2 : ∀ (w : qW) (l1 : Int32) (l2 : Int32) (l3 : Int32), q_Ev E Γ 4 (q_Fz E Γ cX11_isEnoughAt) 2 [some (.ref 48), some (.int l1), some (.int l2), some (.int l3)] [] w (k2 w l1 l2 l3)) (w : qW) (l1 : Int32) (l2 : Int32) (l3 : Int32) : q_Ev E Γ 4 (q_Fz E Γ cX11_isEnoughAt) 2 [some (.ref 48), some (.int l1), some (.int l2), some (.int l3)] [] w (f_X11_isEnoughAt_B2 k2 w l1 l2 l3) := by
  unfold f_X11_isEnoughAt_B2
  refine e_iload_n G (pc := 2) dX11_isEnoughAt_2 rfl rfl ?_
  refine e_aload_n G (pc := 3) dX11_isEnoughAt_3 rfl rfl ?_
  refine e_getI G (pc := 4) sh_48 rfl lk_X11_82 dX11_isEnoughAt_4 ?_
  refine e_icmp_ge G (pc := 7) (tgt := 50) dX11_isEnoughAt_7 (by decide) ?_ ?_
  · refine e_iconst G (pc := 50) (v := 1) dX11_isEnoughAt_50 (by decide) ?_
    exact e_zret dX11_isEnoughAt_51
  · refine e_aload_n G (pc := 10) dX11_isEnoughAt_10 rfl rfl ?_
    refine e_iload_n G (pc := 11) dX11_isEnoughAt_11 rfl rfl ?_
    refine e_iload_n G (pc := 12) dX11_isEnoughAt_12 rfl rfl ?_
    refine e_cVi G (pc := 13) (As := [.int l3, .int l1]) (st := []) cv_X11_213 (c_X11_wants w l3 l1 ) sh_48 (Nat.le_of_ble_eq_true rfl) rfl (Nat.le_of_ble_eq_true rfl) dX11_isEnoughAt_13 (fun r1 w2 => ?_)
    refine e_if_eq G (pc := 16) (tgt := 44) dX11_isEnoughAt_16 (by decide) ?_ ?_
    · exact t_X11_isEnoughAt_B44 G k2 hk2 w2 l1 l2 l3 
    · refine e_aload_n G (pc := 19) dX11_isEnoughAt_19 rfl rfl ?_
      refine e_iload_n G (pc := 20) dX11_isEnoughAt_20 rfl rfl ?_
      refine e_iload_n G (pc := 21) dX11_isEnoughAt_21 rfl rfl ?_
      refine e_aload_n G (pc := 22) dX11_isEnoughAt_22 rfl rfl ?_
      refine e_cVi G (pc := 23) (As := []) (st := [.int l1, .int l3, .ref 48]) cv_X11_207 (c_X11_everybody w2  ) sh_48 (Nat.le_of_ble_eq_true rfl) rfl (Nat.le_of_ble_eq_true rfl) dX11_isEnoughAt_23 (fun r3 w4 => ?_)
      refine e_cVi G (pc := 26) (As := [.int l3, .int l1, .int r3]) (st := []) cv_X11_216 (c_X11_isServed w4 l3 l1 r3 ) sh_48 (Nat.le_of_ble_eq_true rfl) rfl (Nat.le_of_ble_eq_true rfl) dX11_isEnoughAt_26 (fun r5 w6 => ?_)
      refine e_if_eq G (pc := 29) (tgt := 44) dX11_isEnoughAt_29 (by decide) ?_ ?_
      · exact t_X11_isEnoughAt_B44 G k2 hk2 w6 l1 l2 l3 
      · refine e_aload_n G (pc := 32) dX11_isEnoughAt_32 rfl rfl ?_
        refine e_iload_n G (pc := 33) dX11_isEnoughAt_33 rfl rfl ?_
        refine e_iload_n G (pc := 34) dX11_isEnoughAt_34 rfl rfl ?_
        refine e_iload_n G (pc := 35) dX11_isEnoughAt_35 rfl rfl ?_
        refine e_cVi G (pc := 36) (As := [.int l3, .int l1, .int l2]) (st := []) cv_X11_216 (c_X11_isServed w6 l3 l1 l2 ) sh_48 (Nat.le_of_ble_eq_true rfl) rfl (Nat.le_of_ble_eq_true rfl) dX11_isEnoughAt_36 (fun r7 w8 => ?_)
        refine e_if_ne G (pc := 39) (tgt := 44) dX11_isEnoughAt_39 (by decide) ?_ ?_
        · exact t_X11_isEnoughAt_B44 G k2 hk2 w8 l1 l2 l3 
        · refine e_iconst G (pc := 42) (v := 0) dX11_isEnoughAt_42 (by decide) ?_
          exact e_zret dX11_isEnoughAt_43
set_option maxRecDepth 100000 in
set_option maxHeartbeats 4000000 in
theorem t_X11_isEnoughAt_R2 {E : qE} {Γ : qC} (G : q_Ok E Γ RX11 cX11_isEnoughAt 4 (109)) : ∀ (fuel : Nat) (w : qW) (l1 : Int32) (l2 : Int32) (l3 : Int32) , q_Ev E Γ 4 (q_Fz E Γ cX11_isEnoughAt) 2 [some (.ref 48), some (.int l1), some (.int l2), some (.int l3)] [] w (f_X11_isEnoughAt_R2 fuel w l1 l2 l3) := by
  intro fuel
  induction fuel with
  | zero => intros; exact e_none
  | succ fuel ih =>
    intro w l1 l2 l3 
    exact t_X11_isEnoughAt_B2 G _ ih w l1 l2 l3 
set_option maxRecDepth 100000 in
set_option maxHeartbeats 4000000 in
theorem t_X11_isEnoughAt {E : qE} {Γ : qC} (G : q_Ok E Γ RX11 cX11_isEnoughAt 4 (109)) (w : qW) (a1 : Int32) (a2 : Int32) : q_Ev E Γ 4 (q_Fz E Γ cX11_isEnoughAt) 0 [some (.ref 48), some (.int a1), some (.int a2), none] [] w (f_X11_isEnoughAt w a1 a2) := by
  unfold f_X11_isEnoughAt
  refine e_iconst G (pc := 0) (v := 0) dX11_isEnoughAt_0 (by decide) ?_
  refine e_istore_n G (pc := 1) (L' := [some (.ref 48), some (.int a1), some (.int a2), some (.int 0)]) dX11_isEnoughAt_1 rfl (Nat.le_of_ble_eq_true rfl) rfl ?_
  exact t_X11_isEnoughAt_R2 G  q_fuel w a1 a2 0 
set_option maxRecDepth 100000 in
set_option maxHeartbeats 4000000 in
theorem c_X11_isEnoughAt (w : qW) (a1 : Int32) (a2 : Int32) : q_AC q_vi (some .boolean) (109) yX11_isEnoughAt cX11_isEnoughAt 4 [.ref 48, .int a1, .int a2] w (f_X11_isEnoughAt w a1 a2) := q_met_z (k := 1) (by decide +kernel) rfl rfl rfl (fun _ _ G => t_X11_isEnoughAt G w a1 a2 )
set_option maxRecDepth 100000 in
set_option maxHeartbeats 4000000 in
theorem t_X11_rosterAt_B40 {E : qE} {Γ : qC} (G : q_Ok E Γ RX11 cX11_rosterAt 4 (110)) (k12 : qW → Int32 → Int32 → Int32 → Option (Int32 × qW)) (hk12 : ∀ (w : qW) (l1 : Int32) (l2 : Int32) (l3 : Int32), q_Ev E Γ 4 (q_Fi E Γ cX11_rosterAt) 12 [some (.ref 48), some (.int l1), some (.int l2), some (.int l3)] [] w (k12 w l1 l2 l3)) (w : qW) (l1 : Int32) (l2 : Int32) (l3 : Int32) : q_Ev E Γ 4 (q_Fi E Γ cX11_rosterAt) 40 [some (.ref 48), some (.int l1), some (.int l2), some (.int l3)] [] w (f_X11_rosterAt_B40 k12 w l1 l2 l3) := by
  unfold f_X11_rosterAt_B40
  refine e_iinc G (pc := 40) (x := l3) (v := l3 + (-1)) (L' := fun v1 => [some (.ref 48), some (.int l1), some (.int l2), some (.int v1)]) dX11_rosterAt_40 (Nat.le_of_ble_eq_true rfl) rfl (by rfl) (fun _ => rfl) (fun v1 => ?_)
  refine e_goto G (pc := 43) (tgt := 12) dX11_rosterAt_43 (by decide) ?_
  exact hk12 w l1 l2 v1 
set_option maxRecDepth 100000 in
set_option maxHeartbeats 4000000 in
theorem t_X11_rosterAt_B12 {E : qE} {Γ : qC} (G : q_Ok E Γ RX11 cX11_rosterAt 4 (110)) (k12 : qW → Int32 → Int32 → Int32 → Option (Int32 × qW)) (hk12 : ∀ (w : qW) (l1 : Int32) (l2 : Int32) (l3 : Int32), q_Ev E Γ 4 (q_Fi E Γ cX11_rosterAt) 12 [some (.ref 48), some (.int l1), some (.int l2), some (.int l3)] [] w (k12 w l1 l2 l3)) (w : qW) (l1 : Int32) (l2 : Int32) (l3 : Int32) : q_Ev E Γ 4 (q_Fi E Γ cX11_rosterAt) 12 [some (.ref 48), some (.int l1), some (.int l2), some (.int l3)] [] w (f_X11_rosterAt_B12 k12 w l1 l2 l3) := by
  unfold f_X11_rosterAt_B12
  refine e_iload_n G (pc := 12) dX11_rosterAt_12 rfl rfl ?_
  refine e_if_lt G (pc := 13) (tgt := 46) dX11_rosterAt_13 (by decide) ?_ ?_
  · refine e_iload_n G (pc := 46) dX11_rosterAt_46 rfl rfl ?_
    exact e_iret dX11_rosterAt_47
  · refine e_aload_n G (pc := 16) dX11_rosterAt_16 rfl rfl ?_
    refine e_iload_n G (pc := 17) dX11_rosterAt_17 rfl rfl ?_
    refine e_cVi G (pc := 18) (As := [.int l3]) (st := []) cv_X11_229 (c_X11_payOf w l3 ) sh_48 (Nat.le_of_ble_eq_true rfl) rfl (Nat.le_of_ble_eq_true rfl) dX11_rosterAt_18 (fun r1 w2 => ?_)
    refine e_aload_n G (pc := 21) dX11_rosterAt_21 rfl rfl ?_
    refine e_iload_n G (pc := 22) dX11_rosterAt_22 rfl rfl ?_
    refine e_cVi G (pc := 23) (As := [.int l2]) (st := [.int r1]) cv_X11_229 (c_X11_payOf w2 l2 ) sh_48 (Nat.le_of_ble_eq_true rfl) rfl (Nat.le_of_ble_eq_true rfl) dX11_rosterAt_23 (fun r3 w4 => ?_)
    refine e_icmp_gt G (pc := 26) (tgt := 40) dX11_rosterAt_26 (by decide) ?_ ?_
    · exact t_X11_rosterAt_B40 G k12 hk12 w4 l1 l2 l3 
    · refine e_aload_n G (pc := 29) dX11_rosterAt_29 rfl rfl ?_
      refine e_iload_n G (pc := 30) dX11_rosterAt_30 rfl rfl ?_
      refine e_iload_n G (pc := 31) dX11_rosterAt_31 rfl rfl ?_
      refine e_cVi G (pc := 32) (As := [.int l1, .int l3]) (st := []) cv_X11_235 (c_X11_isEnoughAt w4 l1 l3 ) sh_48 (Nat.le_of_ble_eq_true rfl) rfl (Nat.le_of_ble_eq_true rfl) dX11_rosterAt_32 (fun r5 w6 => ?_)
      refine e_if_eq G (pc := 35) (tgt := 40) dX11_rosterAt_35 (by decide) ?_ ?_
      · exact t_X11_rosterAt_B40 G k12 hk12 w6 l1 l2 l3 
      · refine e_iload_n G (pc := 38) dX11_rosterAt_38 rfl rfl ?_
        refine e_istore_n G (pc := 39) (L' := [some (.ref 48), some (.int l1), some (.int l3), some (.int l3)]) dX11_rosterAt_39 rfl (Nat.le_of_ble_eq_true rfl) rfl ?_
        exact t_X11_rosterAt_B40 G k12 hk12 w6 l1 l3 l3 
set_option maxRecDepth 100000 in
set_option maxHeartbeats 4000000 in
theorem t_X11_rosterAt_R12 {E : qE} {Γ : qC} (G : q_Ok E Γ RX11 cX11_rosterAt 4 (110)) : ∀ (fuel : Nat) (w : qW) (l1 : Int32) (l2 : Int32) (l3 : Int32) , q_Ev E Γ 4 (q_Fi E Γ cX11_rosterAt) 12 [some (.ref 48), some (.int l1), some (.int l2), some (.int l3)] [] w (f_X11_rosterAt_R12 fuel w l1 l2 l3) := by
  intro fuel
  induction fuel with
  | zero => intros; exact e_none
  | succ fuel ih =>
    intro w l1 l2 l3 
    exact t_X11_rosterAt_B12 G _ ih w l1 l2 l3 
set_option maxRecDepth 100000 in
set_option maxHeartbeats 4000000 in
theorem t_X11_rosterAt {E : qE} {Γ : qC} (G : q_Ok E Γ RX11 cX11_rosterAt 4 (110)) (w : qW) (a1 : Int32) : q_Ev E Γ 4 (q_Fi E Γ cX11_rosterAt) 0 [some (.ref 48), some (.int a1), none, none] [] w (f_X11_rosterAt w a1) := by
  unfold f_X11_rosterAt
  refine e_aload_n G (pc := 0) dX11_rosterAt_0 rfl rfl ?_
  refine e_cVi G (pc := 1) (As := []) (st := []) cv_X11_207 (c_X11_everybody w  ) sh_48 (Nat.le_of_ble_eq_true rfl) rfl (Nat.le_of_ble_eq_true rfl) dX11_rosterAt_1 (fun r1 w2 => ?_)
  refine e_istore_n G (pc := 4) (L' := [some (.ref 48), some (.int a1), some (.int r1), none]) dX11_rosterAt_4 rfl (Nat.le_of_ble_eq_true rfl) rfl ?_
  refine e_aload_n G (pc := 5) dX11_rosterAt_5 rfl rfl ?_
  refine e_cVi G (pc := 6) (As := []) (st := []) cv_X11_207 (c_X11_everybody w2  ) sh_48 (Nat.le_of_ble_eq_true rfl) rfl (Nat.le_of_ble_eq_true rfl) dX11_rosterAt_6 (fun r3 w4 => ?_)
  refine e_iconst G (pc := 9) (v := 1) dX11_rosterAt_9 (by decide) ?_
  refine e_isub G (pc := 10) dX11_rosterAt_10 ?_
  refine e_ti (fun v5 => ?_)
  refine e_istore_n G (pc := 11) (L' := [some (.ref 48), some (.int a1), some (.int r1), some (.int v5)]) dX11_rosterAt_11 rfl (Nat.le_of_ble_eq_true rfl) rfl ?_
  exact t_X11_rosterAt_R12 G  q_fuel w4 a1 r1 v5 
set_option maxRecDepth 100000 in
set_option maxHeartbeats 4000000 in
theorem c_X11_rosterAt (w : qW) (a1 : Int32) : q_AC q_vi (some .int) (110) yX11_rosterAt cX11_rosterAt 4 [.ref 48, .int a1] w (f_X11_rosterAt w a1) := q_met_i (k := 2) (by decide +kernel) rfl rfl rfl (fun _ _ G => t_X11_rosterAt G w a1 )
set_option maxRecDepth 100000 in
set_option maxHeartbeats 4000000 in
theorem t_X11_roster_B30 {E : qE} {Γ : qC} (G : q_Ok E Γ RX11 cX11_roster 4 (111)) (k30 : qW → Int32 → Int32 → Option (Int32 × qW)) (hk30 : ∀ (w : qW) (l2 : Int32) (l3 : Int32), q_Ev E Γ 4 (q_Fi E Γ cX11_roster) 30 [some (.ref 48), none, some (.int l2), some (.int l3)] [] w (k30 w l2 l3)) (w : qW) (l2 : Int32) (l3 : Int32) : q_Ev E Γ 4 (q_Fi E Γ cX11_roster) 30 [some (.ref 48), none, some (.int l2), some (.int l3)] [] w (f_X11_roster_B30 k30 w l2 l3) := by
  unfold f_X11_roster_B30
  refine e_iload_n G (pc := 30) dX11_roster_30 rfl rfl ?_
  refine e_bipush G (pc := 31) (v := 12) dX11_roster_31 (by decide) ?_
  refine e_icmp_ge G (pc := 33) (tgt := 54) dX11_roster_33 (by decide) ?_ ?_
  · refine e_iload_n G (pc := 54) dX11_roster_54 rfl rfl ?_
    exact e_iret dX11_roster_55
  · refine e_iload_n G (pc := 36) dX11_roster_36 rfl rfl ?_
    refine e_aload_n G (pc := 37) dX11_roster_37 rfl rfl ?_
    refine e_aload_n G (pc := 38) dX11_roster_38 rfl rfl ?_
    refine e_iload_n G (pc := 39) dX11_roster_39 rfl rfl ?_
    refine e_cVi G (pc := 40) (As := [.int l3]) (st := [.ref 48, .int l2]) cv_X11_238 (c_X11_rosterAt w l3 ) sh_48 (Nat.le_of_ble_eq_true rfl) rfl (Nat.le_of_ble_eq_true rfl) dX11_roster_40 (fun r1 w2 => ?_)
    refine e_cVi G (pc := 43) (As := [.int r1]) (st := [.int l2]) cv_X11_229 (c_X11_payOf w2 r1 ) sh_48 (Nat.le_of_ble_eq_true rfl) rfl (Nat.le_of_ble_eq_true rfl) dX11_roster_43 (fun r3 w4 => ?_)
    refine e_iadd G (pc := 46) dX11_roster_46 ?_
    refine e_ti (fun v5 => ?_)
    refine e_istore_n G (pc := 47) (L' := [some (.ref 48), none, some (.int v5), some (.int l3)]) dX11_roster_47 rfl (Nat.le_of_ble_eq_true rfl) rfl ?_
    refine e_iinc G (pc := 48) (x := l3) (v := l3 + 1) (L' := fun v6 => [some (.ref 48), none, some (.int v5), some (.int v6)]) dX11_roster_48 (Nat.le_of_ble_eq_true rfl) rfl (by rfl) (fun _ => rfl) (fun v6 => ?_)
    refine e_goto G (pc := 51) (tgt := 30) dX11_roster_51 (by decide) ?_
    exact hk30 w4 v5 v6 
set_option maxRecDepth 100000 in
set_option maxHeartbeats 4000000 in
theorem t_X11_roster_R30 {E : qE} {Γ : qC} (G : q_Ok E Γ RX11 cX11_roster 4 (111)) : ∀ (fuel : Nat) (w : qW) (l2 : Int32) (l3 : Int32) , q_Ev E Γ 4 (q_Fi E Γ cX11_roster) 30 [some (.ref 48), none, some (.int l2), some (.int l3)] [] w (f_X11_roster_R30 fuel w l2 l3) := by
  intro fuel
  induction fuel with
  | zero => intros; exact e_none
  | succ fuel ih =>
    intro w l2 l3 
    exact t_X11_roster_B30 G _ ih w l2 l3 
set_option maxRecDepth 100000 in
set_option maxHeartbeats 4000000 in
theorem t_X11_roster {E : qE} {Γ : qC} (G : q_Ok E Γ RX11 cX11_roster 4 (111)) (w : qW) (a1 : Int32) : q_Ev E Γ 4 (q_Fi E Γ cX11_roster) 0 [some (.ref 48), some (.int a1), none, none] [] w (f_X11_roster w a1) := by
  unfold f_X11_roster
  refine e_iload_n G (pc := 0) dX11_roster_0 rfl rfl ?_
  refine e_i2l G (pc := 1) dX11_roster_1 ?_
  refine e_lconst G (pc := 2) (v := 0) dX11_roster_2 (by decide) ?_
  refine e_ldc2 G (pc := 3) kl_X11_97 dX11_roster_3 ?_
  refine e_cSi G (pc := 6) (ci := 0) (id := 0) (sl := []) (As := [.long (Int32.toInt64 a1), .long 0, .long 12]) (st := []) cs_X11_78 (c_X11_within w (Int32.toInt64 a1) 0 12 ) (Nat.le_of_ble_eq_true rfl) rfl (Nat.le_of_ble_eq_true rfl) dX11_roster_6 (fun r1 w2 => ?_)
  refine e_if_ne G (pc := 9) (tgt := 14) dX11_roster_9 (by decide) ?_ ?_
  · refine e_iload_n G (pc := 14) dX11_roster_14 rfl rfl ?_
    refine e_bipush G (pc := 15) (v := 12) dX11_roster_15 (by decide) ?_
    refine e_icmp_ge G (pc := 17) (tgt := 26) dX11_roster_17 (by decide) ?_ ?_
    · refine e_iconst G (pc := 26) (v := 0) dX11_roster_26 (by decide) ?_
      refine e_istore_n G (pc := 27) (L' := [some (.ref 48), some (.int a1), some (.int 0), none]) dX11_roster_27 rfl (Nat.le_of_ble_eq_true rfl) rfl ?_
      refine e_iconst G (pc := 28) (v := 0) dX11_roster_28 (by decide) ?_
      refine e_istore_n G (pc := 29) (L' := [some (.ref 48), some (.int a1), some (.int 0), some (.int 0)]) dX11_roster_29 rfl (Nat.le_of_ble_eq_true rfl) rfl ?_
      refine e_wk (L' := [some (.ref 48), none, some (.int 0), some (.int 0)]) (And.intro rfl (And.intro rfl (And.intro rfl (trivial)))) ?_
      exact t_X11_roster_R30 G  q_fuel w2 0 0 
    · refine e_aload_n G (pc := 20) dX11_roster_20 rfl rfl ?_
      refine e_iload_n G (pc := 21) dX11_roster_21 rfl rfl ?_
      refine e_cVi G (pc := 22) (As := [.int a1]) (st := []) cv_X11_238 (c_X11_rosterAt w2 a1 ) sh_48 (Nat.le_of_ble_eq_true rfl) rfl (Nat.le_of_ble_eq_true rfl) dX11_roster_22 (fun r3 w4 => ?_)
      exact e_iret dX11_roster_25
  · refine e_iconst G (pc := 12) (v := (-1)) dX11_roster_12 (by decide) ?_
    exact e_iret dX11_roster_13
set_option maxRecDepth 100000 in
set_option maxHeartbeats 4000000 in
theorem c_X11_roster (w : qW) (a1 : Int32) : q_AC q_vi (some .int) (111) yX11_roster cX11_roster 4 [.ref 48, .int a1] w (f_X11_roster w a1) := q_met_i (k := 2) (by decide +kernel) rfl rfl rfl (fun _ _ G => t_X11_roster G w a1 )
set_option maxRecDepth 100000 in
set_option maxHeartbeats 4000000 in
theorem t_X11_oneMore_B123 {E : qE} {Γ : qC} (G : q_Ok E Γ RX11 cX11_oneMore 7 (111)) (k59 : qW → Int32 → Int32 → Int32 → Int32 → Option (Int32 × qW)) (hk59 : ∀ (w : qW) (l2 : Int32) (l3 : Int32) (l4 : Int32) (l5 : Int32), q_Ev E Γ 7 (q_Fi E Γ cX11_oneMore) 59 [some (.ref 48), none, some (.int l2), some (.int l3), some (.int l4), some (.int l5), none] [] w (k59 w l2 l3 l4 l5)) (w : qW) (l2 : Int32) (l3 : Int32) (l5 : Int32) (s0 : Int32) : q_Ev E Γ 7 (q_Fi E Γ cX11_oneMore) 123 [some (.ref 48), none, some (.int l2), some (.int l3), none, some (.int l5), none] [.int s0] w (f_X11_oneMore_B123 k59 w l2 l3 l5 s0) := by
  unfold f_X11_oneMore_B123
  refine e_istore G (pc := 123) (L' := [some (.ref 48), none, some (.int l2), some (.int l3), some (.int s0), some (.int l5), none]) dX11_oneMore_123 (Nat.le_of_ble_eq_true rfl) rfl ?_
  refine e_iinc G (pc := 125) (x := l5) (v := l5 + 1) (L' := fun v1 => [some (.ref 48), none, some (.int l2), some (.int l3), some (.int s0), some (.int v1), none]) dX11_oneMore_125 (Nat.le_of_ble_eq_true rfl) rfl (by rfl) (fun _ => rfl) (fun v1 => ?_)
  refine e_goto G (pc := 128) (tgt := 59) dX11_oneMore_128 (by decide) ?_
  exact hk59 w l2 l3 s0 v1 
set_option maxRecDepth 100000 in
set_option maxHeartbeats 4000000 in
theorem t_X11_oneMore_B108 {E : qE} {Γ : qC} (G : q_Ok E Γ RX11 cX11_oneMore 7 (111)) (k59 : qW → Int32 → Int32 → Int32 → Int32 → Option (Int32 × qW)) (hk59 : ∀ (w : qW) (l2 : Int32) (l3 : Int32) (l4 : Int32) (l5 : Int32), q_Ev E Γ 7 (q_Fi E Γ cX11_oneMore) 59 [some (.ref 48), none, some (.int l2), some (.int l3), some (.int l4), some (.int l5), none] [] w (k59 w l2 l3 l4 l5)) (w : qW) (l2 : Int32) (l4 : Int32) (l5 : Int32) (l6 : Int32) (s0 : Int32) : q_Ev E Γ 7 (q_Fi E Γ cX11_oneMore) 108 [some (.ref 48), none, some (.int l2), none, some (.int l4), some (.int l5), some (.int l6)] [.int s0] w (f_X11_oneMore_B108 k59 w l2 l4 l5 l6 s0) := by
  unfold f_X11_oneMore_B108
  refine e_istore_n G (pc := 108) (L' := [some (.ref 48), none, some (.int l2), some (.int s0), some (.int l4), some (.int l5), some (.int l6)]) dX11_oneMore_108 rfl (Nat.le_of_ble_eq_true rfl) rfl ?_
  refine e_iload G (pc := 109) dX11_oneMore_109 rfl ?_
  refine e_iload G (pc := 111) dX11_oneMore_111 rfl ?_
  refine e_icmp_ge G (pc := 113) (tgt := 121) dX11_oneMore_113 (by decide) ?_ ?_
  · refine e_iload G (pc := 121) dX11_oneMore_121 rfl ?_
    refine e_wk (L' := [some (.ref 48), none, some (.int l2), some (.int s0), none, some (.int l5), none]) (And.intro rfl (And.intro rfl (And.intro rfl (And.intro rfl (trivial))))) ?_
    exact t_X11_oneMore_B123 G k59 hk59 w l2 s0 l5 l4 
  · refine e_iload G (pc := 116) dX11_oneMore_116 rfl ?_
    refine e_goto G (pc := 118) (tgt := 123) dX11_oneMore_118 (by decide) ?_
    refine e_wk (L' := [some (.ref 48), none, some (.int l2), some (.int s0), none, some (.int l5), none]) (And.intro rfl (And.intro rfl (And.intro rfl (And.intro rfl (trivial))))) ?_
    exact t_X11_oneMore_B123 G k59 hk59 w l2 s0 l5 l6 
set_option maxRecDepth 100000 in
set_option maxHeartbeats 4000000 in
theorem t_X11_oneMore_B59 {E : qE} {Γ : qC} (G : q_Ok E Γ RX11 cX11_oneMore 7 (111)) (k59 : qW → Int32 → Int32 → Int32 → Int32 → Option (Int32 × qW)) (hk59 : ∀ (w : qW) (l2 : Int32) (l3 : Int32) (l4 : Int32) (l5 : Int32), q_Ev E Γ 7 (q_Fi E Γ cX11_oneMore) 59 [some (.ref 48), none, some (.int l2), some (.int l3), some (.int l4), some (.int l5), none] [] w (k59 w l2 l3 l4 l5)) (w : qW) (l2 : Int32) (l3 : Int32) (l4 : Int32) (l5 : Int32) : q_Ev E Γ 7 (q_Fi E Γ cX11_oneMore) 59 [some (.ref 48), none, some (.int l2), some (.int l3), some (.int l4), some (.int l5), none] [] w (f_X11_oneMore_B59 k59 w l2 l3 l4 l5) := by
  unfold f_X11_oneMore_B59
  refine e_iload G (pc := 59) dX11_oneMore_59 rfl ?_
  refine e_sipush G (pc := 61) (v := 144) dX11_oneMore_61 (by decide) ?_
  refine e_icmp_ge G (pc := 64) (tgt := 131) dX11_oneMore_64 (by decide) ?_ ?_
  · refine e_aload_n G (pc := 131) dX11_oneMore_131 rfl rfl ?_
    refine e_getF G (pc := 132) sh_48 rfl lk_X11_9 dX11_oneMore_132 ?_
    refine e_aload_n G (pc := 135) dX11_oneMore_135 rfl rfl ?_
    refine e_getI G (pc := 136) sh_48 rfl lk_X11_75 dX11_oneMore_136 ?_
    refine e_iconst G (pc := 139) (v := 0) dX11_oneMore_139 (by decide) ?_
    refine e_iast G (pc := 140) sh_49 dX11_oneMore_140 (fun w1 => ?_)
    refine e_iload_n G (pc := 141) dX11_oneMore_141 rfl rfl ?_
    refine e_if_ne G (pc := 142) (tgt := 149) dX11_oneMore_142 (by decide) ?_ ?_
    · refine e_iload G (pc := 149) dX11_oneMore_149 rfl ?_
      exact e_iret dX11_oneMore_151
    · refine e_iload_n G (pc := 145) dX11_oneMore_145 rfl rfl ?_
      refine e_goto G (pc := 146) (tgt := 151) dX11_oneMore_146 (by decide) ?_
      exact e_iret dX11_oneMore_151
  · refine e_aload_n G (pc := 67) dX11_oneMore_67 rfl rfl ?_
    refine e_getF G (pc := 68) sh_48 rfl lk_X11_9 dX11_oneMore_68 ?_
    refine e_aload_n G (pc := 71) dX11_oneMore_71 rfl rfl ?_
    refine e_getI G (pc := 72) sh_48 rfl lk_X11_75 dX11_oneMore_72 ?_
    refine e_iload G (pc := 75) dX11_oneMore_75 rfl ?_
    refine e_iast G (pc := 77) sh_49 dX11_oneMore_77 (fun w2 => ?_)
    refine e_aload_n G (pc := 78) dX11_oneMore_78 rfl rfl ?_
    refine e_aload_n G (pc := 79) dX11_oneMore_79 rfl rfl ?_
    refine e_cVi G (pc := 80) (As := []) (st := [.ref 48]) cv_X11_207 (c_X11_everybody w2  ) sh_48 (Nat.le_of_ble_eq_true rfl) rfl (Nat.le_of_ble_eq_true rfl) dX11_oneMore_80 (fun r3 w4 => ?_)
    refine e_iconst G (pc := 83) (v := 1) dX11_oneMore_83 (by decide) ?_
    refine e_aload_n G (pc := 84) dX11_oneMore_84 rfl rfl ?_
    refine e_getI G (pc := 85) sh_48 rfl lk_X11_75 dX11_oneMore_85 ?_
    refine e_ishl G (pc := 88) dX11_oneMore_88 ?_
    refine e_ior G (pc := 89) dX11_oneMore_89 ?_
    refine e_cVi G (pc := 90) (As := [.int (r3 ||| ((1 : Int32) <<< ((q_I w4 48 6) &&& 31)))]) (st := []) cv_X11_223 (c_X11_missesAll w4 (r3 ||| ((1 : Int32) <<< ((q_I w4 48 6) &&& 31))) ) sh_48 (Nat.le_of_ble_eq_true rfl) rfl (Nat.le_of_ble_eq_true rfl) dX11_oneMore_90 (fun r5 w6 => ?_)
    refine e_istore G (pc := 93) (L' := [some (.ref 48), none, some (.int l2), some (.int l3), some (.int l4), some (.int l5), some (.int r5)]) dX11_oneMore_93 (Nat.le_of_ble_eq_true rfl) rfl ?_
    refine e_iload G (pc := 95) dX11_oneMore_95 rfl ?_
    refine e_iload G (pc := 97) dX11_oneMore_97 rfl ?_
    refine e_icmp_ge G (pc := 99) (tgt := 107) dX11_oneMore_99 (by decide) ?_ ?_
    · refine e_iload_n G (pc := 107) dX11_oneMore_107 rfl rfl ?_
      refine e_wk (L' := [some (.ref 48), none, some (.int l2), none, some (.int l4), some (.int l5), some (.int r5)]) (And.intro rfl (And.intro rfl (And.intro rfl (And.intro rfl (And.intro rfl (trivial)))))) ?_
      exact t_X11_oneMore_B108 G k59 hk59 w6 l2 l4 l5 r5 l3 
    · refine e_iload G (pc := 102) dX11_oneMore_102 rfl ?_
      refine e_goto G (pc := 104) (tgt := 108) dX11_oneMore_104 (by decide) ?_
      refine e_wk (L' := [some (.ref 48), none, some (.int l2), none, some (.int l4), some (.int l5), some (.int r5)]) (And.intro rfl (And.intro rfl (And.intro rfl (And.intro rfl (And.intro rfl (trivial)))))) ?_
      exact t_X11_oneMore_B108 G k59 hk59 w6 l2 l4 l5 r5 l5 
set_option maxRecDepth 100000 in
set_option maxHeartbeats 4000000 in
theorem t_X11_oneMore_R59 {E : qE} {Γ : qC} (G : q_Ok E Γ RX11 cX11_oneMore 7 (111)) : ∀ (fuel : Nat) (w : qW) (l2 : Int32) (l3 : Int32) (l4 : Int32) (l5 : Int32) , q_Ev E Γ 7 (q_Fi E Γ cX11_oneMore) 59 [some (.ref 48), none, some (.int l2), some (.int l3), some (.int l4), some (.int l5), none] [] w (f_X11_oneMore_R59 fuel w l2 l3 l4 l5) := by
  intro fuel
  induction fuel with
  | zero => intros; exact e_none
  | succ fuel ih =>
    intro w l2 l3 l4 l5 
    exact t_X11_oneMore_B59 G _ ih w l2 l3 l4 l5 
set_option maxRecDepth 100000 in
set_option maxHeartbeats 4000000 in
theorem t_X11_oneMore {E : qE} {Γ : qC} (G : q_Ok E Γ RX11 cX11_oneMore 7 (111)) (w : qW) (a1 : Int32) (a2 : Int32) : q_Ev E Γ 7 (q_Fi E Γ cX11_oneMore) 0 [some (.ref 48), some (.int a1), some (.int a2), none, none, none, none] [] w (f_X11_oneMore w a1 a2) := by
  unfold f_X11_oneMore
  refine e_iload_n G (pc := 0) dX11_oneMore_0 rfl rfl ?_
  refine e_i2l G (pc := 1) dX11_oneMore_1 ?_
  refine e_lconst G (pc := 2) (v := 0) dX11_oneMore_2 (by decide) ?_
  refine e_ldc2 G (pc := 3) kl_X11_93 dX11_oneMore_3 ?_
  refine e_cSi G (pc := 6) (ci := 0) (id := 0) (sl := []) (As := [.long (Int32.toInt64 a1), .long 0, .long 2]) (st := []) cs_X11_78 (c_X11_within w (Int32.toInt64 a1) 0 2 ) (Nat.le_of_ble_eq_true rfl) rfl (Nat.le_of_ble_eq_true rfl) dX11_oneMore_6 (fun r1 w2 => ?_)
  refine e_if_eq G (pc := 9) (tgt := 22) dX11_oneMore_9 (by decide) ?_ ?_
  · refine e_iconst G (pc := 22) (v := (-1)) dX11_oneMore_22 (by decide) ?_
    exact e_iret dX11_oneMore_23
  · refine e_iload_n G (pc := 12) dX11_oneMore_12 rfl rfl ?_
    refine e_i2l G (pc := 13) dX11_oneMore_13 ?_
    refine e_lconst G (pc := 14) (v := 0) dX11_oneMore_14 (by decide) ?_
    refine e_lconst G (pc := 15) (v := 1) dX11_oneMore_15 (by decide) ?_
    refine e_cSi G (pc := 16) (ci := 0) (id := 0) (sl := []) (As := [.long (Int32.toInt64 a2), .long 0, .long 1]) (st := []) cs_X11_78 (c_X11_within w2 (Int32.toInt64 a2) 0 1 ) (Nat.le_of_ble_eq_true rfl) rfl (Nat.le_of_ble_eq_true rfl) dX11_oneMore_16 (fun r3 w4 => ?_)
    refine e_if_ne G (pc := 19) (tgt := 24) dX11_oneMore_19 (by decide) ?_ ?_
    · refine e_iconst G (pc := 24) (v := 0) dX11_oneMore_24 (by decide) ?_
      refine e_istore_n G (pc := 25) (L' := [some (.ref 48), some (.int a1), some (.int a2), some (.int 0), none, none, none]) dX11_oneMore_25 rfl (Nat.le_of_ble_eq_true rfl) rfl ?_
      refine e_ldc G (pc := 26) kc_X11_241 dX11_oneMore_26 ?_
      refine e_istore G (pc := 28) (L' := [some (.ref 48), some (.int a1), some (.int a2), some (.int 0), some (.int 1000000), none, none]) dX11_oneMore_28 (Nat.le_of_ble_eq_true rfl) rfl ?_
      refine e_aload_n G (pc := 30) dX11_oneMore_30 rfl rfl ?_
      refine e_getF G (pc := 31) sh_48 rfl lk_X11_9 dX11_oneMore_31 ?_
      refine e_bipush G (pc := 34) (v := 8) dX11_oneMore_34 (by decide) ?_
      refine e_aload_n G (pc := 36) dX11_oneMore_36 rfl rfl ?_
      refine e_getI G (pc := 37) sh_48 rfl lk_X11_75 dX11_oneMore_37 ?_
      refine e_iadd G (pc := 40) dX11_oneMore_40 ?_
      refine e_iload_n G (pc := 41) dX11_oneMore_41 rfl rfl ?_
      refine e_iast G (pc := 42) sh_49 dX11_oneMore_42 (fun w5 => ?_)
      refine e_aload_n G (pc := 43) dX11_oneMore_43 rfl rfl ?_
      refine e_getF G (pc := 44) sh_48 rfl lk_X11_9 dX11_oneMore_44 ?_
      refine e_bipush G (pc := 47) (v := 16) dX11_oneMore_47 (by decide) ?_
      refine e_aload_n G (pc := 49) dX11_oneMore_49 rfl rfl ?_
      refine e_getI G (pc := 50) sh_48 rfl lk_X11_75 dX11_oneMore_50 ?_
      refine e_iadd G (pc := 53) dX11_oneMore_53 ?_
      refine e_iconst G (pc := 54) (v := 1) dX11_oneMore_54 (by decide) ?_
      refine e_iast G (pc := 55) sh_49 dX11_oneMore_55 (fun w6 => ?_)
      refine e_iconst G (pc := 56) (v := 0) dX11_oneMore_56 (by decide) ?_
      refine e_istore G (pc := 57) (L' := [some (.ref 48), some (.int a1), some (.int a2), some (.int 0), some (.int 1000000), some (.int 0), none]) dX11_oneMore_57 (Nat.le_of_ble_eq_true rfl) rfl ?_
      refine e_wk (L' := [some (.ref 48), none, some (.int a2), some (.int 0), some (.int 1000000), some (.int 0), none]) (And.intro rfl (And.intro rfl (And.intro rfl (And.intro rfl (And.intro rfl (trivial)))))) ?_
      exact t_X11_oneMore_R59 G  q_fuel w6 a2 0 1000000 0 
    · refine e_iconst G (pc := 22) (v := (-1)) dX11_oneMore_22 (by decide) ?_
      exact e_iret dX11_oneMore_23
set_option maxRecDepth 100000 in
set_option maxHeartbeats 4000000 in
theorem c_X11_oneMore (w : qW) (a1 : Int32) (a2 : Int32) : q_AC q_vi (some .int) (111) yX11_oneMore cX11_oneMore 7 [.ref 48, .int a1, .int a2] w (f_X11_oneMore w a1 a2) := q_met_i (k := 4) (by decide +kernel) rfl rfl rfl (fun _ _ G => t_X11_oneMore G w a1 a2 )
set_option maxRecDepth 100000 in
set_option maxHeartbeats 4000000 in
theorem t_X11_stepFrom_B54 {E : qE} {Γ : qC} (G : q_Ok E Γ RX11 cX11_stepFrom 4 (3)) (w : qW) (l2 : Int32) (s0 : Int32) (s1 : Int32) : q_Ev E Γ 4 (q_Fi E Γ cX11_stepFrom) 54 [none, none, some (.int l2), none] [.int s0, .int s1] w (f_X11_stepFrom_B54 w l2 s0 s1) := by
  unfold f_X11_stepFrom_B54
  refine e_iadd G (pc := 54) dX11_stepFrom_54 ?_
  refine e_ti (fun v1 => ?_)
  refine e_istore_n G (pc := 55) (L' := [none, none, some (.int l2), some (.int v1)]) dX11_stepFrom_55 rfl (Nat.le_of_ble_eq_true rfl) rfl ?_
  refine e_iload_n G (pc := 56) dX11_stepFrom_56 rfl rfl ?_
  refine e_i2l G (pc := 57) dX11_stepFrom_57 ?_
  refine e_lconst G (pc := 58) (v := 0) dX11_stepFrom_58 (by decide) ?_
  refine e_ldc2 G (pc := 59) kl_X11_87 dX11_stepFrom_59 ?_
  refine e_cSi G (pc := 62) (ci := 0) (id := 0) (sl := []) (As := [.long (Int32.toInt64 l2), .long 0, .long 11]) (st := []) cs_X11_78 (c_X11_within w (Int32.toInt64 l2) 0 11 ) (Nat.le_of_ble_eq_true rfl) rfl (Nat.le_of_ble_eq_true rfl) dX11_stepFrom_62 (fun r2 w3 => ?_)
  refine e_if_eq G (pc := 65) (tgt := 89) dX11_stepFrom_65 (by decide) ?_ ?_
  · refine e_iconst G (pc := 89) (v := (-1)) dX11_stepFrom_89 (by decide) ?_
    exact e_iret dX11_stepFrom_90
  · refine e_iload_n G (pc := 68) dX11_stepFrom_68 rfl rfl ?_
    refine e_i2l G (pc := 69) dX11_stepFrom_69 ?_
    refine e_lconst G (pc := 70) (v := 0) dX11_stepFrom_70 (by decide) ?_
    refine e_ldc2 G (pc := 71) kl_X11_87 dX11_stepFrom_71 ?_
    refine e_cSi G (pc := 74) (ci := 0) (id := 0) (sl := []) (As := [.long (Int32.toInt64 v1), .long 0, .long 11]) (st := []) cs_X11_78 (c_X11_within w3 (Int32.toInt64 v1) 0 11 ) (Nat.le_of_ble_eq_true rfl) rfl (Nat.le_of_ble_eq_true rfl) dX11_stepFrom_74 (fun r4 w5 => ?_)
    refine e_if_eq G (pc := 77) (tgt := 89) dX11_stepFrom_77 (by decide) ?_ ?_
    · refine e_iconst G (pc := 89) (v := (-1)) dX11_stepFrom_89 (by decide) ?_
      exact e_iret dX11_stepFrom_90
    · refine e_bipush G (pc := 80) (v := 12) dX11_stepFrom_80 (by decide) ?_
      refine e_iload_n G (pc := 82) dX11_stepFrom_82 rfl rfl ?_
      refine e_imul G (pc := 83) dX11_stepFrom_83 ?_
      refine e_iload_n G (pc := 84) dX11_stepFrom_84 rfl rfl ?_
      refine e_iadd G (pc := 85) dX11_stepFrom_85 ?_
      refine e_goto G (pc := 86) (tgt := 90) dX11_stepFrom_86 (by decide) ?_
      exact e_iret dX11_stepFrom_90
set_option maxRecDepth 100000 in
set_option maxHeartbeats 4000000 in
theorem t_X11_stepFrom_B30 {E : qE} {Γ : qC} (G : q_Ok E Γ RX11 cX11_stepFrom 4 (3)) (w : qW) (l0 : Int32) (l1 : Int32) (s0 : Int32) (s1 : Int32) : q_Ev E Γ 4 (q_Fi E Γ cX11_stepFrom) 30 [some (.int l0), some (.int l1), none, none] [.int s0, .int s1] w (f_X11_stepFrom_B30 w l0 l1 s0 s1) := by
  unfold f_X11_stepFrom_B30
  refine e_iadd G (pc := 30) dX11_stepFrom_30 ?_
  refine e_ti (fun v1 => ?_)
  refine e_istore_n G (pc := 31) (L' := [some (.int l0), some (.int l1), some (.int v1), none]) dX11_stepFrom_31 rfl (Nat.le_of_ble_eq_true rfl) rfl ?_
  refine e_iload_n G (pc := 32) dX11_stepFrom_32 rfl rfl ?_
  refine e_bipush G (pc := 33) (v := 12) dX11_stepFrom_33 (by decide) ?_
  refine e_idiv G (pc := 35) dX11_stepFrom_35 (by decide) ?_
  refine e_iload_n G (pc := 36) dX11_stepFrom_36 rfl rfl ?_
  refine e_if_ne G (pc := 37) (tgt := 44) dX11_stepFrom_37 (by decide) ?_ ?_
  · refine e_iload_n G (pc := 44) dX11_stepFrom_44 rfl rfl ?_
    refine e_iconst G (pc := 45) (v := 2) dX11_stepFrom_45 (by decide) ?_
    refine e_icmp_ne G (pc := 46) (tgt := 53) dX11_stepFrom_46 (by decide) ?_ ?_
    · refine e_iconst G (pc := 53) (v := 0) dX11_stepFrom_53 (by decide) ?_
      refine e_wk (L' := [none, none, some (.int v1), none]) (And.intro rfl (trivial)) ?_
      exact t_X11_stepFrom_B54 G w v1 0 (l0 / 12) 
    · refine e_iconst G (pc := 49) (v := 1) dX11_stepFrom_49 (by decide) ?_
      refine e_goto G (pc := 50) (tgt := 54) dX11_stepFrom_50 (by decide) ?_
      refine e_wk (L' := [none, none, some (.int v1), none]) (And.intro rfl (trivial)) ?_
      exact t_X11_stepFrom_B54 G w v1 1 (l0 / 12) 
  · refine e_iconst G (pc := 40) (v := (-1)) dX11_stepFrom_40 (by decide) ?_
    refine e_goto G (pc := 41) (tgt := 54) dX11_stepFrom_41 (by decide) ?_
    refine e_wk (L' := [none, none, some (.int v1), none]) (And.intro rfl (trivial)) ?_
    exact t_X11_stepFrom_B54 G w v1 (-1) (l0 / 12) 
set_option maxRecDepth 100000 in
set_option maxHeartbeats 4000000 in
theorem t_X11_stepFrom {E : qE} {Γ : qC} (G : q_Ok E Γ RX11 cX11_stepFrom 4 (3)) (w : qW) (a1 : Int32) (a2 : Int32) : q_Ev E Γ 4 (q_Fi E Γ cX11_stepFrom) 0 [some (.int a1), some (.int a2), none, none] [] w (f_X11_stepFrom w a1 a2) := by
  unfold f_X11_stepFrom
  refine e_iload_n G (pc := 0) dX11_stepFrom_0 rfl rfl ?_
  refine e_iconst G (pc := 1) (v := 4) dX11_stepFrom_1 (by decide) ?_
  refine e_icmp_ne G (pc := 2) (tgt := 7) dX11_stepFrom_2 (by decide) ?_ ?_
  · refine e_iload_n G (pc := 7) dX11_stepFrom_7 rfl rfl ?_
    refine e_bipush G (pc := 8) (v := 12) dX11_stepFrom_8 (by decide) ?_
    refine e_irem G (pc := 10) dX11_stepFrom_10 (by decide) ?_
    refine e_iload_n G (pc := 11) dX11_stepFrom_11 rfl rfl ?_
    refine e_iconst G (pc := 12) (v := 1) dX11_stepFrom_12 (by decide) ?_
    refine e_icmp_ne G (pc := 13) (tgt := 20) dX11_stepFrom_13 (by decide) ?_ ?_
    · refine e_iload_n G (pc := 20) dX11_stepFrom_20 rfl rfl ?_
      refine e_iconst G (pc := 21) (v := 3) dX11_stepFrom_21 (by decide) ?_
      refine e_icmp_ne G (pc := 22) (tgt := 29) dX11_stepFrom_22 (by decide) ?_ ?_
      · refine e_iconst G (pc := 29) (v := 0) dX11_stepFrom_29 (by decide) ?_
        exact t_X11_stepFrom_B30 G w a1 a2 0 (q_rem a1 12) 
      · refine e_iconst G (pc := 25) (v := (-1)) dX11_stepFrom_25 (by decide) ?_
        refine e_goto G (pc := 26) (tgt := 30) dX11_stepFrom_26 (by decide) ?_
        exact t_X11_stepFrom_B30 G w a1 a2 (-1) (q_rem a1 12) 
    · refine e_iconst G (pc := 16) (v := 1) dX11_stepFrom_16 (by decide) ?_
      refine e_goto G (pc := 17) (tgt := 30) dX11_stepFrom_17 (by decide) ?_
      exact t_X11_stepFrom_B30 G w a1 a2 1 (q_rem a1 12) 
  · refine e_iload_n G (pc := 5) dX11_stepFrom_5 rfl rfl ?_
    exact e_iret dX11_stepFrom_6
set_option maxRecDepth 100000 in
set_option maxHeartbeats 4000000 in
theorem c_X11_stepFrom (w : qW) (a1 : Int32) (a2 : Int32) : q_AC q_vi (some .int) (3) yX11_stepFrom cX11_stepFrom 4 [.int a1, .int a2] w (f_X11_stepFrom w a1 a2) := q_met_i (k := 2) (by decide +kernel) rfl rfl rfl (fun _ _ G => t_X11_stepFrom G w a1 a2 )
set_option maxRecDepth 100000 in
set_option maxHeartbeats 4000000 in
theorem t_X11_step_B113 {E : qE} {Γ : qC} (G : q_Ok E Γ RX11 cX11_step 9 (111)) (k44 : qW → Int32 → Int32 → Int32 → Int32 → Int32 → Int32 → Option (Int32 × qW)) (hk44 : ∀ (w : qW) (l1 : Int32) (l2 : Int32) (l3 : Int32) (l4 : Int32) (l5 : Int32) (l6 : Int32), q_Ev E Γ 9 (q_Fi E Γ cX11_step) 44 [some (.ref 48), some (.int l1), some (.int l2), some (.int l3), some (.int l4), some (.int l5), some (.int l6), none, none] [] w (k44 w l1 l2 l3 l4 l5 l6)) (w : qW) (l1 : Int32) (l2 : Int32) (l3 : Int32) (l4 : Int32) (l5 : Int32) (l6 : Int32) : q_Ev E Γ 9 (q_Fi E Γ cX11_step) 113 [some (.ref 48), some (.int l1), some (.int l2), some (.int l3), some (.int l4), some (.int l5), some (.int l6), none, none] [] w (f_X11_step_B113 k44 w l1 l2 l3 l4 l5 l6) := by
  unfold f_X11_step_B113
  refine e_iinc G (pc := 113) (x := l6) (v := l6 + 1) (L' := fun v1 => [some (.ref 48), some (.int l1), some (.int l2), some (.int l3), some (.int l4), some (.int l5), some (.int v1), none, none]) dX11_step_113 (Nat.le_of_ble_eq_true rfl) rfl (by rfl) (fun _ => rfl) (fun v1 => ?_)
  refine e_goto G (pc := 116) (tgt := 44) dX11_step_116 (by decide) ?_
  exact hk44 w l1 l2 l3 l4 l5 v1 
set_option maxRecDepth 100000 in
set_option maxHeartbeats 4000000 in
theorem t_X11_step_B111 {E : qE} {Γ : qC} (G : q_Ok E Γ RX11 cX11_step 9 (111)) (k44 : qW → Int32 → Int32 → Int32 → Int32 → Int32 → Int32 → Option (Int32 × qW)) (hk44 : ∀ (w : qW) (l1 : Int32) (l2 : Int32) (l3 : Int32) (l4 : Int32) (l5 : Int32) (l6 : Int32), q_Ev E Γ 9 (q_Fi E Γ cX11_step) 44 [some (.ref 48), some (.int l1), some (.int l2), some (.int l3), some (.int l4), some (.int l5), some (.int l6), none, none] [] w (k44 w l1 l2 l3 l4 l5 l6)) (w : qW) (l1 : Int32) (l2 : Int32) (l3 : Int32) (l4 : Int32) (l6 : Int32) (s0 : Int32) : q_Ev E Γ 9 (q_Fi E Γ cX11_step) 111 [some (.ref 48), some (.int l1), some (.int l2), some (.int l3), some (.int l4), none, some (.int l6), none, none] [.int s0] w (f_X11_step_B111 k44 w l1 l2 l3 l4 l6 s0) := by
  unfold f_X11_step_B111
  refine e_istore G (pc := 111) (L' := [some (.ref 48), some (.int l1), some (.int l2), some (.int l3), some (.int l4), some (.int s0), some (.int l6), none, none]) dX11_step_111 (Nat.le_of_ble_eq_true rfl) rfl ?_
  exact t_X11_step_B113 G k44 hk44 w l1 l2 l3 l4 s0 l6 
set_option maxRecDepth 100000 in
set_option maxHeartbeats 4000000 in
theorem t_X11_step_B95 {E : qE} {Γ : qC} (G : q_Ok E Γ RX11 cX11_step 9 (111)) (k44 : qW → Int32 → Int32 → Int32 → Int32 → Int32 → Int32 → Option (Int32 × qW)) (hk44 : ∀ (w : qW) (l1 : Int32) (l2 : Int32) (l3 : Int32) (l4 : Int32) (l5 : Int32) (l6 : Int32), q_Ev E Γ 9 (q_Fi E Γ cX11_step) 44 [some (.ref 48), some (.int l1), some (.int l2), some (.int l3), some (.int l4), some (.int l5), some (.int l6), none, none] [] w (k44 w l1 l2 l3 l4 l5 l6)) (w : qW) (l1 : Int32) (l2 : Int32) (l3 : Int32) (l5 : Int32) (l6 : Int32) (l8 : Int32) (s0 : Int32) : q_Ev E Γ 9 (q_Fi E Γ cX11_step) 95 [some (.ref 48), some (.int l1), some (.int l2), some (.int l3), none, some (.int l5), some (.int l6), none, some (.int l8)] [.int s0] w (f_X11_step_B95 k44 w l1 l2 l3 l5 l6 l8 s0) := by
  unfold f_X11_step_B95
  refine e_istore G (pc := 95) (L' := [some (.ref 48), some (.int l1), some (.int l2), some (.int l3), some (.int s0), some (.int l5), some (.int l6), none, some (.int l8)]) dX11_step_95 (Nat.le_of_ble_eq_true rfl) rfl ?_
  refine e_iload G (pc := 97) dX11_step_97 rfl ?_
  refine e_iload G (pc := 99) dX11_step_99 rfl ?_
  refine e_icmp_ge G (pc := 101) (tgt := 109) dX11_step_101 (by decide) ?_ ?_
  · refine e_iload G (pc := 109) dX11_step_109 rfl ?_
    refine e_wk (L' := [some (.ref 48), some (.int l1), some (.int l2), some (.int l3), some (.int s0), none, some (.int l6), none, none]) (And.intro rfl (And.intro rfl (And.intro rfl (And.intro rfl (And.intro rfl (And.intro rfl (trivial))))))) ?_
    exact t_X11_step_B111 G k44 hk44 w l1 l2 l3 s0 l6 l5 
  · refine e_iload G (pc := 104) dX11_step_104 rfl ?_
    refine e_goto G (pc := 106) (tgt := 111) dX11_step_106 (by decide) ?_
    refine e_wk (L' := [some (.ref 48), some (.int l1), some (.int l2), some (.int l3), some (.int s0), none, some (.int l6), none, none]) (And.intro rfl (And.intro rfl (And.intro rfl (And.intro rfl (And.intro rfl (And.intro rfl (trivial))))))) ?_
    exact t_X11_step_B111 G k44 hk44 w l1 l2 l3 s0 l6 l8 
set_option maxRecDepth 100000 in
set_option maxHeartbeats 4000000 in
theorem t_X11_step_B44 {E : qE} {Γ : qC} (G : q_Ok E Γ RX11 cX11_step 9 (111)) (k44 : qW → Int32 → Int32 → Int32 → Int32 → Int32 → Int32 → Option (Int32 × qW)) (hk44 : ∀ (w : qW) (l1 : Int32) (l2 : Int32) (l3 : Int32) (l4 : Int32) (l5 : Int32) (l6 : Int32), q_Ev E Γ 9 (q_Fi E Γ cX11_step) 44 [some (.ref 48), some (.int l1), some (.int l2), some (.int l3), some (.int l4), some (.int l5), some (.int l6), none, none] [] w (k44 w l1 l2 l3 l4 l5 l6)) (w : qW) (l1 : Int32) (l2 : Int32) (l3 : Int32) (l4 : Int32) (l5 : Int32) (l6 : Int32) : q_Ev E Γ 9 (q_Fi E Γ cX11_step) 44 [some (.ref 48), some (.int l1), some (.int l2), some (.int l3), some (.int l4), some (.int l5), some (.int l6), none, none] [] w (f_X11_step_B44 k44 w l1 l2 l3 l4 l5 l6) := by
  unfold f_X11_step_B44
  refine e_iload G (pc := 44) dX11_step_44 rfl ?_
  refine e_iconst G (pc := 46) (v := 4) dX11_step_46 (by decide) ?_
  refine e_icmp_ge G (pc := 47) (tgt := 119) dX11_step_47 (by decide) ?_ ?_
  · refine e_aload_n G (pc := 119) dX11_step_119 rfl rfl ?_
    refine e_getF G (pc := 120) sh_48 rfl lk_X11_9 dX11_step_120 ?_
    refine e_iload_n G (pc := 123) dX11_step_123 rfl rfl ?_
    refine e_iload_n G (pc := 124) dX11_step_124 rfl rfl ?_
    refine e_iast G (pc := 125) sh_49 dX11_step_125 (fun w1 => ?_)
    refine e_iload_n G (pc := 126) dX11_step_126 rfl rfl ?_
    refine e_if_ne G (pc := 127) (tgt := 135) dX11_step_127 (by decide) ?_ ?_
    · refine e_iload G (pc := 135) dX11_step_135 rfl ?_
      exact e_iret dX11_step_137
    · refine e_iload G (pc := 130) dX11_step_130 rfl ?_
      refine e_goto G (pc := 132) (tgt := 137) dX11_step_132 (by decide) ?_
      exact e_iret dX11_step_137
  · refine e_iload_n G (pc := 50) dX11_step_50 rfl rfl ?_
    refine e_iload G (pc := 51) dX11_step_51 rfl ?_
    refine e_cSi G (pc := 53) (ci := 0) (id := 0) (sl := []) (As := [.int l3, .int l6]) (st := []) cs_X11_242 (c_X11_stepFrom w l3 l6 ) (Nat.le_of_ble_eq_true rfl) rfl (Nat.le_of_ble_eq_true rfl) dX11_step_53 (fun r2 w3 => ?_)
    refine e_istore G (pc := 56) (L' := [some (.ref 48), some (.int l1), some (.int l2), some (.int l3), some (.int l4), some (.int l5), some (.int l6), some (.int r2), none]) dX11_step_56 (Nat.le_of_ble_eq_true rfl) rfl ?_
    refine e_iload G (pc := 58) dX11_step_58 rfl ?_
    refine e_if_lt G (pc := 60) (tgt := 113) dX11_step_60 (by decide) ?_ ?_
    · refine e_wk (L' := [some (.ref 48), some (.int l1), some (.int l2), some (.int l3), some (.int l4), some (.int l5), some (.int l6), none, none]) (And.intro rfl (And.intro rfl (And.intro rfl (And.intro rfl (And.intro rfl (And.intro rfl (And.intro rfl (trivial)))))))) ?_
      exact t_X11_step_B113 G k44 hk44 w3 l1 l2 l3 l4 l5 l6 
    · refine e_aload_n G (pc := 63) dX11_step_63 rfl rfl ?_
      refine e_getF G (pc := 64) sh_48 rfl lk_X11_9 dX11_step_64 ?_
      refine e_iload_n G (pc := 67) dX11_step_67 rfl rfl ?_
      refine e_iload G (pc := 68) dX11_step_68 rfl ?_
      refine e_iast G (pc := 70) sh_49 dX11_step_70 (fun w4 => ?_)
      refine e_aload_n G (pc := 71) dX11_step_71 rfl rfl ?_
      refine e_aload_n G (pc := 72) dX11_step_72 rfl rfl ?_
      refine e_cVi G (pc := 73) (As := []) (st := [.ref 48]) cv_X11_207 (c_X11_everybody w4  ) sh_48 (Nat.le_of_ble_eq_true rfl) rfl (Nat.le_of_ble_eq_true rfl) dX11_step_73 (fun r5 w6 => ?_)
      refine e_cVi G (pc := 76) (As := [.int r5]) (st := []) cv_X11_223 (c_X11_missesAll w6 r5 ) sh_48 (Nat.le_of_ble_eq_true rfl) rfl (Nat.le_of_ble_eq_true rfl) dX11_step_76 (fun r7 w8 => ?_)
      refine e_istore G (pc := 79) (L' := [some (.ref 48), some (.int l1), some (.int l2), some (.int l3), some (.int l4), some (.int l5), some (.int l6), some (.int r2), some (.int r7)]) dX11_step_79 (Nat.le_of_ble_eq_true rfl) rfl ?_
      refine e_iload G (pc := 81) dX11_step_81 rfl ?_
      refine e_iload G (pc := 83) dX11_step_83 rfl ?_
      refine e_icmp_ge G (pc := 85) (tgt := 93) dX11_step_85 (by decide) ?_ ?_
      · refine e_iload G (pc := 93) dX11_step_93 rfl ?_
        refine e_wk (L' := [some (.ref 48), some (.int l1), some (.int l2), some (.int l3), none, some (.int l5), some (.int l6), none, some (.int r7)]) (And.intro rfl (And.intro rfl (And.intro rfl (And.intro rfl (And.intro rfl (And.intro rfl (And.intro rfl (trivial)))))))) ?_
        exact t_X11_step_B95 G k44 hk44 w8 l1 l2 l3 l5 l6 r7 l4 
      · refine e_iload G (pc := 88) dX11_step_88 rfl ?_
        refine e_goto G (pc := 90) (tgt := 95) dX11_step_90 (by decide) ?_
        refine e_wk (L' := [some (.ref 48), some (.int l1), some (.int l2), some (.int l3), none, some (.int l5), some (.int l6), none, some (.int r7)]) (And.intro rfl (And.intro rfl (And.intro rfl (And.intro rfl (And.intro rfl (And.intro rfl (And.intro rfl (trivial)))))))) ?_
        exact t_X11_step_B95 G k44 hk44 w8 l1 l2 l3 l5 l6 r7 l6 
set_option maxRecDepth 100000 in
set_option maxHeartbeats 4000000 in
theorem t_X11_step_R44 {E : qE} {Γ : qC} (G : q_Ok E Γ RX11 cX11_step 9 (111)) : ∀ (fuel : Nat) (w : qW) (l1 : Int32) (l2 : Int32) (l3 : Int32) (l4 : Int32) (l5 : Int32) (l6 : Int32) , q_Ev E Γ 9 (q_Fi E Γ cX11_step) 44 [some (.ref 48), some (.int l1), some (.int l2), some (.int l3), some (.int l4), some (.int l5), some (.int l6), none, none] [] w (f_X11_step_R44 fuel w l1 l2 l3 l4 l5 l6) := by
  intro fuel
  induction fuel with
  | zero => intros; exact e_none
  | succ fuel ih =>
    intro w l1 l2 l3 l4 l5 l6 
    exact t_X11_step_B44 G _ ih w l1 l2 l3 l4 l5 l6 
set_option maxRecDepth 100000 in
set_option maxHeartbeats 4000000 in
theorem t_X11_step {E : qE} {Γ : qC} (G : q_Ok E Γ RX11 cX11_step 9 (111)) (w : qW) (a1 : Int32) (a2 : Int32) : q_Ev E Γ 9 (q_Fi E Γ cX11_step) 0 [some (.ref 48), some (.int a1), some (.int a2), none, none, none, none, none, none] [] w (f_X11_step w a1 a2) := by
  unfold f_X11_step
  refine e_aload_n G (pc := 0) dX11_step_0 rfl rfl ?_
  refine e_iload_n G (pc := 1) dX11_step_1 rfl rfl ?_
  refine e_i2l G (pc := 2) dX11_step_2 ?_
  refine e_cVi G (pc := 3) (As := [.long (Int32.toInt64 a1)]) (st := []) cv_X11_116 (c_X11_isMan w (Int32.toInt64 a1) ) sh_48 (Nat.le_of_ble_eq_true rfl) rfl (Nat.le_of_ble_eq_true rfl) dX11_step_3 (fun r1 w2 => ?_)
  refine e_if_eq G (pc := 6) (tgt := 19) dX11_step_6 (by decide) ?_ ?_
  · refine e_iconst G (pc := 19) (v := (-1)) dX11_step_19 (by decide) ?_
    exact e_iret dX11_step_20
  · refine e_iload_n G (pc := 9) dX11_step_9 rfl rfl ?_
    refine e_i2l G (pc := 10) dX11_step_10 ?_
    refine e_lconst G (pc := 11) (v := 0) dX11_step_11 (by decide) ?_
    refine e_lconst G (pc := 12) (v := 1) dX11_step_12 (by decide) ?_
    refine e_cSi G (pc := 13) (ci := 0) (id := 0) (sl := []) (As := [.long (Int32.toInt64 a2), .long 0, .long 1]) (st := []) cs_X11_78 (c_X11_within w2 (Int32.toInt64 a2) 0 1 ) (Nat.le_of_ble_eq_true rfl) rfl (Nat.le_of_ble_eq_true rfl) dX11_step_13 (fun r3 w4 => ?_)
    refine e_if_ne G (pc := 16) (tgt := 21) dX11_step_16 (by decide) ?_ ?_
    · refine e_aload_n G (pc := 21) dX11_step_21 rfl rfl ?_
      refine e_getF G (pc := 22) sh_48 rfl lk_X11_9 dX11_step_22 ?_
      refine e_iload_n G (pc := 25) dX11_step_25 rfl rfl ?_
      refine e_iald G (pc := 26) sh_49 dX11_step_26 (fun v5 => ?_)
      refine e_istore_n G (pc := 27) (L' := [some (.ref 48), some (.int a1), some (.int a2), some (.int v5), none, none, none, none, none]) dX11_step_27 rfl (Nat.le_of_ble_eq_true rfl) rfl ?_
      refine e_iconst G (pc := 28) (v := 4) dX11_step_28 (by decide) ?_
      refine e_istore G (pc := 29) (L' := [some (.ref 48), some (.int a1), some (.int a2), some (.int v5), some (.int 4), none, none, none, none]) dX11_step_29 (Nat.le_of_ble_eq_true rfl) rfl ?_
      refine e_aload_n G (pc := 31) dX11_step_31 rfl rfl ?_
      refine e_aload_n G (pc := 32) dX11_step_32 rfl rfl ?_
      refine e_cVi G (pc := 33) (As := []) (st := [.ref 48]) cv_X11_207 (c_X11_everybody w4  ) sh_48 (Nat.le_of_ble_eq_true rfl) rfl (Nat.le_of_ble_eq_true rfl) dX11_step_33 (fun r6 w7 => ?_)
      refine e_cVi G (pc := 36) (As := [.int r6]) (st := []) cv_X11_223 (c_X11_missesAll w7 r6 ) sh_48 (Nat.le_of_ble_eq_true rfl) rfl (Nat.le_of_ble_eq_true rfl) dX11_step_36 (fun r8 w9 => ?_)
      refine e_istore G (pc := 39) (L' := [some (.ref 48), some (.int a1), some (.int a2), some (.int v5), some (.int 4), some (.int r8), none, none, none]) dX11_step_39 (Nat.le_of_ble_eq_true rfl) rfl ?_
      refine e_iconst G (pc := 41) (v := 0) dX11_step_41 (by decide) ?_
      refine e_istore G (pc := 42) (L' := [some (.ref 48), some (.int a1), some (.int a2), some (.int v5), some (.int 4), some (.int r8), some (.int 0), none, none]) dX11_step_42 (Nat.le_of_ble_eq_true rfl) rfl ?_
      exact t_X11_step_R44 G  q_fuel w9 a1 a2 v5 4 r8 0 
    · refine e_iconst G (pc := 19) (v := (-1)) dX11_step_19 (by decide) ?_
      exact e_iret dX11_step_20
set_option maxRecDepth 100000 in
set_option maxHeartbeats 4000000 in
theorem c_X11_step (w : qW) (a1 : Int32) (a2 : Int32) : q_AC q_vi (some .int) (111) yX11_step cX11_step 9 [.ref 48, .int a1, .int a2] w (f_X11_step w a1 a2) := q_met_i (k := 6) (by decide +kernel) rfl rfl rfl (fun _ _ G => t_X11_step G w a1 a2 )
set_option maxRecDepth 100000 in
set_option maxHeartbeats 4000000 in
theorem t_X11_rowIs {E : qE} {Γ : qC} (G : q_Ok E Γ RX11 cX11_rowIs 3 (4)) (w : qW) (a1 : Int32) (a2 : Int32) : q_Ev E Γ 3 (q_Fi E Γ cX11_rowIs) 0 [some (.ref 48), some (.int a1), some (.int a2)] [] w (f_X11_rowIs w a1 a2) := by
  unfold f_X11_rowIs
  refine e_iload_n G (pc := 0) dX11_rowIs_0 rfl rfl ?_
  refine e_cSi G (pc := 1) (ci := 0) (id := 0) (sl := []) (As := [.int a1]) (st := []) cs_X11_108 (c_X11_isShelf w a1 ) (Nat.le_of_ble_eq_true rfl) rfl (Nat.le_of_ble_eq_true rfl) dX11_rowIs_1 (fun r1 w2 => ?_)
  refine e_if_ne G (pc := 4) (tgt := 11) dX11_rowIs_4 (by decide) ?_ ?_
  · refine e_aload_n G (pc := 11) dX11_rowIs_11 rfl rfl ?_
    refine e_getF G (pc := 12) sh_48 rfl lk_X11_52 dX11_rowIs_12 ?_
    refine e_iload_n G (pc := 15) dX11_rowIs_15 rfl rfl ?_
    refine e_iald G (pc := 16) sh_63 dX11_rowIs_16 (fun v3 => ?_)
    refine e_if_ge G (pc := 17) (tgt := 25) dX11_rowIs_17 (by decide) ?_ ?_
    · refine e_aload_n G (pc := 25) dX11_rowIs_25 rfl rfl ?_
      refine e_getF G (pc := 26) sh_48 rfl lk_X11_52 dX11_rowIs_26 ?_
      refine e_iload_n G (pc := 29) dX11_rowIs_29 rfl rfl ?_
      refine e_iald G (pc := 30) sh_63 dX11_rowIs_30 (fun v4 => ?_)
      refine e_bipush G (pc := 31) (v := 50) dX11_rowIs_31 (by decide) ?_
      refine e_iload_n G (pc := 33) dX11_rowIs_33 rfl rfl ?_
      refine e_iadd G (pc := 34) dX11_rowIs_34 ?_
      refine e_icmp_ne G (pc := 35) (tgt := 42) dX11_rowIs_35 (by decide) ?_ ?_
      · refine e_bipush G (pc := 42) (v := (-12)) dX11_rowIs_42 (by decide) ?_
        exact e_iret dX11_rowIs_44
      · refine e_iconst G (pc := 38) (v := 1) dX11_rowIs_38 (by decide) ?_
        refine e_goto G (pc := 39) (tgt := 44) dX11_rowIs_39 (by decide) ?_
        exact e_iret dX11_rowIs_44
    · refine e_bipush G (pc := 20) (v := (-11)) dX11_rowIs_20 (by decide) ?_
      refine e_goto G (pc := 22) (tgt := 44) dX11_rowIs_22 (by decide) ?_
      exact e_iret dX11_rowIs_44
  · refine e_iconst G (pc := 7) (v := (-1)) dX11_rowIs_7 (by decide) ?_
    refine e_goto G (pc := 8) (tgt := 44) dX11_rowIs_8 (by decide) ?_
    exact e_iret dX11_rowIs_44
set_option maxRecDepth 100000 in
set_option maxHeartbeats 4000000 in
theorem c_X11_rowIs (w : qW) (a1 : Int32) (a2 : Int32) : q_AC q_vi (some .int) (4) yX11_rowIs cX11_rowIs 3 [.ref 48, .int a1, .int a2] w (f_X11_rowIs w a1 a2) := q_met_i (k := 0) (by decide +kernel) rfl rfl rfl (fun _ _ G => t_X11_rowIs G w a1 a2 )
set_option maxRecDepth 100000 in
set_option maxHeartbeats 4000000 in
theorem t_X11_firstFalse_B3 {E : qE} {Γ : qC} (G : q_Ok E Γ RX11 cX11_firstFalse 6 (108)) (k3 : qW → Int32 → Int32 → Int32 → Int32 → Option (Int32 × qW)) (hk3 : ∀ (w : qW) (l1 : Int32) (l2 : Int32) (l3 : Int32) (l4 : Int32), q_Ev E Γ 6 (q_Fi E Γ cX11_firstFalse) 3 [some (.ref 48), some (.int l1), some (.int l2), some (.int l3), some (.int l4), none] [] w (k3 w l1 l2 l3 l4)) (w : qW) (l1 : Int32) (l2 : Int32) (l3 : Int32) (l4 : Int32) : q_Ev E Γ 6 (q_Fi E Γ cX11_firstFalse) 3 [some (.ref 48), some (.int l1), some (.int l2), some (.int l3), some (.int l4), none] [] w (f_X11_firstFalse_B3 k3 w l1 l2 l3 l4) := by
  unfold f_X11_firstFalse_B3
  refine e_iconst G (pc := 3) (v := 3) dX11_firstFalse_3 (by decide) ?_
  refine e_iload G (pc := 4) dX11_firstFalse_4 rfl ?_
  refine e_imul G (pc := 6) dX11_firstFalse_6 ?_
  refine e_aload_n G (pc := 7) dX11_firstFalse_7 rfl rfl ?_
  refine e_getF G (pc := 8) sh_48 rfl lk_X11_55 dX11_firstFalse_8 ?_
  refine e_iload_n G (pc := 11) dX11_firstFalse_11 rfl rfl ?_
  refine e_iald G (pc := 12) sh_64 dX11_firstFalse_12 (fun v1 => ?_)
  refine e_icmp_ge G (pc := 13) (tgt := 132) dX11_firstFalse_13 (by decide) ?_ ?_
  · refine e_bipush G (pc := 132) (v := (-2)) dX11_firstFalse_132 (by decide) ?_
    exact e_iret dX11_firstFalse_134
  · refine e_bipush G (pc := 16) (v := 60) dX11_firstFalse_16 (by decide) ?_
    refine e_iload_n G (pc := 18) dX11_firstFalse_18 rfl rfl ?_
    refine e_imul G (pc := 19) dX11_firstFalse_19 ?_
    refine e_iconst G (pc := 20) (v := 3) dX11_firstFalse_20 (by decide) ?_
    refine e_iload G (pc := 21) dX11_firstFalse_21 rfl ?_
    refine e_imul G (pc := 23) dX11_firstFalse_23 ?_
    refine e_iadd G (pc := 24) dX11_firstFalse_24 ?_
    refine e_ti (fun v2 => ?_)
    refine e_istore G (pc := 25) (L' := [some (.ref 48), some (.int l1), some (.int l2), some (.int l3), some (.int l4), some (.int v2)]) dX11_firstFalse_25 (Nat.le_of_ble_eq_true rfl) rfl ?_
    refine e_iconst G (pc := 27) (v := 3) dX11_firstFalse_27 (by decide) ?_
    refine e_iload G (pc := 28) dX11_firstFalse_28 rfl ?_
    refine e_imul G (pc := 30) dX11_firstFalse_30 ?_
    refine e_iconst G (pc := 31) (v := 2) dX11_firstFalse_31 (by decide) ?_
    refine e_iadd G (pc := 32) dX11_firstFalse_32 ?_
    refine e_aload_n G (pc := 33) dX11_firstFalse_33 rfl rfl ?_
    refine e_getF G (pc := 34) sh_48 rfl lk_X11_55 dX11_firstFalse_34 ?_
    refine e_iload_n G (pc := 37) dX11_firstFalse_37 rfl rfl ?_
    refine e_iald G (pc := 38) sh_64 dX11_firstFalse_38 (fun v3 => ?_)
    refine e_icmp_ge G (pc := 39) (tgt := 78) dX11_firstFalse_39 (by decide) ?_ ?_
    · refine e_iload G (pc := 78) dX11_firstFalse_78 rfl ?_
      exact e_iret dX11_firstFalse_80
    · refine e_aload_n G (pc := 42) dX11_firstFalse_42 rfl rfl ?_
      refine e_getF G (pc := 43) sh_48 rfl lk_X11_58 dX11_firstFalse_43 ?_
      refine e_iload G (pc := 46) dX11_firstFalse_46 rfl ?_
      refine e_lald G (pc := 48) sh_65 dX11_firstFalse_48 (fun v4 => ?_)
      refine e_lconst G (pc := 49) (v := 0) dX11_firstFalse_49 (by decide) ?_
      refine e_ldc2 G (pc := 50) kl_X11_87 dX11_firstFalse_50 ?_
      refine e_cSi G (pc := 53) (ci := 0) (id := 0) (sl := []) (As := [.long v4, .long 0, .long 11]) (st := []) cs_X11_78 (c_X11_within w v4 0 11 ) (Nat.le_of_ble_eq_true rfl) rfl (Nat.le_of_ble_eq_true rfl) dX11_firstFalse_53 (fun r5 w6 => ?_)
      refine e_if_eq G (pc := 56) (tgt := 78) dX11_firstFalse_56 (by decide) ?_ ?_
      · refine e_iload G (pc := 78) dX11_firstFalse_78 rfl ?_
        exact e_iret dX11_firstFalse_80
      · refine e_aload_n G (pc := 59) dX11_firstFalse_59 rfl rfl ?_
        refine e_getF G (pc := 60) sh_48 rfl lk_X11_58 dX11_firstFalse_60 ?_
        refine e_iload G (pc := 63) dX11_firstFalse_63 rfl ?_
        refine e_iconst G (pc := 65) (v := 1) dX11_firstFalse_65 (by decide) ?_
        refine e_iadd G (pc := 66) dX11_firstFalse_66 ?_
        refine e_lald G (pc := 67) sh_65 dX11_firstFalse_67 (fun v7 => ?_)
        refine e_lconst G (pc := 68) (v := 0) dX11_firstFalse_68 (by decide) ?_
        refine e_ldc2 G (pc := 69) kl_X11_87 dX11_firstFalse_69 ?_
        refine e_cSi G (pc := 72) (ci := 0) (id := 0) (sl := []) (As := [.long v7, .long 0, .long 11]) (st := []) cs_X11_78 (c_X11_within w6 v7 0 11 ) (Nat.le_of_ble_eq_true rfl) rfl (Nat.le_of_ble_eq_true rfl) dX11_firstFalse_72 (fun r8 w9 => ?_)
        refine e_if_ne G (pc := 75) (tgt := 81) dX11_firstFalse_75 (by decide) ?_ ?_
        · refine e_aload_n G (pc := 81) dX11_firstFalse_81 rfl rfl ?_
          refine e_iload_n G (pc := 82) dX11_firstFalse_82 rfl rfl ?_
          refine e_ldc2 G (pc := 83) kl_X11_97 dX11_firstFalse_83 ?_
          refine e_aload_n G (pc := 86) dX11_firstFalse_86 rfl rfl ?_
          refine e_getF G (pc := 87) sh_48 rfl lk_X11_58 dX11_firstFalse_87 ?_
          refine e_iload G (pc := 90) dX11_firstFalse_90 rfl ?_
          refine e_iconst G (pc := 92) (v := 1) dX11_firstFalse_92 (by decide) ?_
          refine e_iadd G (pc := 93) dX11_firstFalse_93 ?_
          refine e_lald G (pc := 94) sh_65 dX11_firstFalse_94 (fun v10 => ?_)
          refine e_lmul G (pc := 95) dX11_firstFalse_95 ?_
          refine e_aload_n G (pc := 96) dX11_firstFalse_96 rfl rfl ?_
          refine e_getF G (pc := 97) sh_48 rfl lk_X11_58 dX11_firstFalse_97 ?_
          refine e_iload G (pc := 100) dX11_firstFalse_100 rfl ?_
          refine e_lald G (pc := 102) sh_65 dX11_firstFalse_102 (fun v11 => ?_)
          refine e_ladd G (pc := 103) dX11_firstFalse_103 ?_
          refine e_l2i G (pc := 104) dX11_firstFalse_104 ?_
          refine e_iload_n G (pc := 105) dX11_firstFalse_105 rfl rfl ?_
          refine e_cVi G (pc := 106) (As := [.int l3, .int (Int64.toInt32 (((12 : Int64) * v10) + v11)), .int l2]) (st := []) cv_X11_210 (c_X11_shadeOf w9 l3 (Int64.toInt32 (((12 : Int64) * v10) + v11)) l2 ) sh_48 (Nat.le_of_ble_eq_true rfl) rfl (Nat.le_of_ble_eq_true rfl) dX11_firstFalse_106 (fun r12 w13 => ?_)
          refine e_i2l G (pc := 109) dX11_firstFalse_109 ?_
          refine e_aload_n G (pc := 110) dX11_firstFalse_110 rfl rfl ?_
          refine e_getF G (pc := 111) sh_48 rfl lk_X11_58 dX11_firstFalse_111 ?_
          refine e_iload G (pc := 114) dX11_firstFalse_114 rfl ?_
          refine e_iconst G (pc := 116) (v := 2) dX11_firstFalse_116 (by decide) ?_
          refine e_iadd G (pc := 117) dX11_firstFalse_117 ?_
          refine e_lald G (pc := 118) sh_65 dX11_firstFalse_118 (fun v14 => ?_)
          refine e_lcmp G (pc := 119) dX11_firstFalse_119 ?_
          refine e_if_eq G (pc := 120) (tgt := 126) dX11_firstFalse_120 (by decide) ?_ ?_
          · refine e_iinc G (pc := 126) (x := l4) (v := l4 + 1) (L' := fun v15 => [some (.ref 48), some (.int l1), some (.int l2), some (.int l3), some (.int v15), some (.int v2)]) dX11_firstFalse_126 (Nat.le_of_ble_eq_true rfl) rfl (by rfl) (fun _ => rfl) (fun v15 => ?_)
            refine e_goto G (pc := 129) (tgt := 3) dX11_firstFalse_129 (by decide) ?_
            refine e_wk (L' := [some (.ref 48), some (.int l1), some (.int l2), some (.int l3), some (.int v15), none]) (And.intro rfl (And.intro rfl (And.intro rfl (And.intro rfl (And.intro rfl (trivial)))))) ?_
            exact hk3 w13 l1 l2 l3 v15 
          · refine e_iload G (pc := 123) dX11_firstFalse_123 rfl ?_
            exact e_iret dX11_firstFalse_125
        · refine e_iload G (pc := 78) dX11_firstFalse_78 rfl ?_
          exact e_iret dX11_firstFalse_80
set_option maxRecDepth 100000 in
set_option maxHeartbeats 4000000 in
theorem t_X11_firstFalse_R3 {E : qE} {Γ : qC} (G : q_Ok E Γ RX11 cX11_firstFalse 6 (108)) : ∀ (fuel : Nat) (w : qW) (l1 : Int32) (l2 : Int32) (l3 : Int32) (l4 : Int32) , q_Ev E Γ 6 (q_Fi E Γ cX11_firstFalse) 3 [some (.ref 48), some (.int l1), some (.int l2), some (.int l3), some (.int l4), none] [] w (f_X11_firstFalse_R3 fuel w l1 l2 l3 l4) := by
  intro fuel
  induction fuel with
  | zero => intros; exact e_none
  | succ fuel ih =>
    intro w l1 l2 l3 l4 
    exact t_X11_firstFalse_B3 G _ ih w l1 l2 l3 l4 
set_option maxRecDepth 100000 in
set_option maxHeartbeats 4000000 in
theorem t_X11_firstFalse {E : qE} {Γ : qC} (G : q_Ok E Γ RX11 cX11_firstFalse 6 (108)) (w : qW) (a1 : Int32) (a2 : Int32) (a3 : Int32) : q_Ev E Γ 6 (q_Fi E Γ cX11_firstFalse) 0 [some (.ref 48), some (.int a1), some (.int a2), some (.int a3), none, none] [] w (f_X11_firstFalse w a1 a2 a3) := by
  unfold f_X11_firstFalse
  refine e_iconst G (pc := 0) (v := 0) dX11_firstFalse_0 (by decide) ?_
  refine e_istore G (pc := 1) (L' := [some (.ref 48), some (.int a1), some (.int a2), some (.int a3), some (.int 0), none]) dX11_firstFalse_1 (Nat.le_of_ble_eq_true rfl) rfl ?_
  exact t_X11_firstFalse_R3 G  q_fuel w a1 a2 a3 0 
set_option maxRecDepth 100000 in
set_option maxHeartbeats 4000000 in
theorem c_X11_firstFalse (w : qW) (a1 : Int32) (a2 : Int32) (a3 : Int32) : q_AC q_vi (some .int) (108) yX11_firstFalse cX11_firstFalse 6 [.ref 48, .int a1, .int a2, .int a3] w (f_X11_firstFalse w a1 a2 a3) := q_met_i (k := 2) (by decide +kernel) rfl rfl rfl (fun _ _ G => t_X11_firstFalse G w a1 a2 a3 )
set_option maxRecDepth 100000 in
set_option maxHeartbeats 4000000 in
theorem t_X11_judge_B18 {E : qE} {Γ : qC} (G : q_Ok E Γ RX11 cX11_judge 3 (109)) (w : qW) : q_Ev E Γ 3 (q_Fi E Γ cX11_judge) 18 [none, none, none] [] w (f_X11_judge_B18 w ) := by
  unfold f_X11_judge_B18
  refine e_iconst G (pc := 18) (v := (-1)) dX11_judge_18 (by decide) ?_
  refine e_goto G (pc := 19) (tgt := 50) dX11_judge_19 (by decide) ?_
  exact e_iret dX11_judge_50
set_option maxRecDepth 100000 in
set_option maxHeartbeats 4000000 in
theorem t_X11_judge {E : qE} {Γ : qC} (G : q_Ok E Γ RX11 cX11_judge 3 (109)) (w : qW) (a1 : Int32) (a2 : Int32) : q_Ev E Γ 3 (q_Fi E Γ cX11_judge) 0 [some (.ref 48), some (.int a1), some (.int a2)] [] w (f_X11_judge w a1 a2) := by
  unfold f_X11_judge
  refine e_aload_n G (pc := 0) dX11_judge_0 rfl rfl ?_
  refine e_iload_n G (pc := 1) dX11_judge_1 rfl rfl ?_
  refine e_iconst G (pc := 2) (v := 0) dX11_judge_2 (by decide) ?_
  refine e_cVi G (pc := 3) (As := [.int a1, .int 0]) (st := []) cv_X11_245 (c_X11_rowIs w a1 0 ) sh_48 (Nat.le_of_ble_eq_true rfl) rfl (Nat.le_of_ble_eq_true rfl) dX11_judge_3 (fun r1 w2 => ?_)
  refine e_iconst G (pc := 6) (v := (-1)) dX11_judge_6 (by decide) ?_
  refine e_icmp_eq G (pc := 7) (tgt := 18) dX11_judge_7 (by decide) ?_ ?_
  · refine e_wk (L' := [none, none, none]) (trivial) ?_
    exact t_X11_judge_B18 G w2  
  · refine e_iload_n G (pc := 10) dX11_judge_10 rfl rfl ?_
    refine e_i2l G (pc := 11) dX11_judge_11 ?_
    refine e_cSi G (pc := 12) (ci := 0) (id := 0) (sl := []) (As := [.long (Int32.toInt64 a2)]) (st := []) cs_X11_204 (c_X11_isHour w2 (Int32.toInt64 a2) ) (Nat.le_of_ble_eq_true rfl) rfl (Nat.le_of_ble_eq_true rfl) dX11_judge_12 (fun r3 w4 => ?_)
    refine e_if_ne G (pc := 15) (tgt := 22) dX11_judge_15 (by decide) ?_ ?_
    · refine e_aload_n G (pc := 22) dX11_judge_22 rfl rfl ?_
      refine e_iload_n G (pc := 23) dX11_judge_23 rfl rfl ?_
      refine e_iconst G (pc := 24) (v := 0) dX11_judge_24 (by decide) ?_
      refine e_cVi G (pc := 25) (As := [.int a1, .int 0]) (st := []) cv_X11_245 (c_X11_rowIs w4 a1 0 ) sh_48 (Nat.le_of_ble_eq_true rfl) rfl (Nat.le_of_ble_eq_true rfl) dX11_judge_25 (fun r5 w6 => ?_)
      refine e_if_ge G (pc := 28) (tgt := 40) dX11_judge_28 (by decide) ?_ ?_
      · refine e_aload_n G (pc := 40) dX11_judge_40 rfl rfl ?_
        refine e_iload_n G (pc := 41) dX11_judge_41 rfl rfl ?_
        refine e_iload_n G (pc := 42) dX11_judge_42 rfl rfl ?_
        refine e_aload_n G (pc := 43) dX11_judge_43 rfl rfl ?_
        refine e_cVi G (pc := 44) (As := []) (st := [.int a2, .int a1, .ref 48]) cv_X11_207 (c_X11_everybody w6  ) sh_48 (Nat.le_of_ble_eq_true rfl) rfl (Nat.le_of_ble_eq_true rfl) dX11_judge_44 (fun r7 w8 => ?_)
        refine e_cVi G (pc := 47) (As := [.int a1, .int a2, .int r7]) (st := []) cv_X11_248 (c_X11_firstFalse w8 a1 a2 r7 ) sh_48 (Nat.le_of_ble_eq_true rfl) rfl (Nat.le_of_ble_eq_true rfl) dX11_judge_47 (fun r9 w10 => ?_)
        exact e_iret dX11_judge_50
      · refine e_aload_n G (pc := 31) dX11_judge_31 rfl rfl ?_
        refine e_iload_n G (pc := 32) dX11_judge_32 rfl rfl ?_
        refine e_iconst G (pc := 33) (v := 0) dX11_judge_33 (by decide) ?_
        refine e_cVi G (pc := 34) (As := [.int a1, .int 0]) (st := []) cv_X11_245 (c_X11_rowIs w6 a1 0 ) sh_48 (Nat.le_of_ble_eq_true rfl) rfl (Nat.le_of_ble_eq_true rfl) dX11_judge_34 (fun r11 w12 => ?_)
        refine e_goto G (pc := 37) (tgt := 50) dX11_judge_37 (by decide) ?_
        exact e_iret dX11_judge_50
    · refine e_wk (L' := [none, none, none]) (trivial) ?_
      exact t_X11_judge_B18 G w4  
set_option maxRecDepth 100000 in
set_option maxHeartbeats 4000000 in
theorem c_X11_judge (w : qW) (a1 : Int32) (a2 : Int32) : q_AC q_vi (some .int) (109) yX11_judge cX11_judge 3 [.ref 48, .int a1, .int a2] w (f_X11_judge w a1 a2) := q_met_i (k := 0) (by decide +kernel) rfl rfl rfl (fun _ _ G => t_X11_judge G w a1 a2 )
set_option maxRecDepth 100000 in
set_option maxHeartbeats 4000000 in
theorem t_X11_stood_B189 {E : qE} {Γ : qC} (G : q_Ok E Γ RX11 cX11_stood 10 (109)) (k110 : qW → Int32 → Int32 → Int32 → Int32 → Int32 → Int32 → Int32 → Int32 → Int32 → Option (Int32 × qW)) (hk110 : ∀ (w : qW) (l1 : Int32) (l2 : Int32) (l3 : Int32) (l4 : Int32) (l5 : Int32) (l6 : Int32) (l7 : Int32) (l8 : Int32) (l9 : Int32), q_Ev E Γ 10 (q_Fi E Γ cX11_stood) 110 [some (.ref 48), some (.int l1), some (.int l2), some (.int l3), some (.int l4), some (.int l5), some (.int l6), some (.int l7), some (.int l8), some (.int l9)] [] w (k110 w l1 l2 l3 l4 l5 l6 l7 l8 l9)) (w : qW) (l1 : Int32) (l2 : Int32) (l3 : Int32) (l4 : Int32) (l5 : Int32) (l6 : Int32) (l7 : Int32) (l8 : Int32) (l9 : Int32) : q_Ev E Γ 10 (q_Fi E Γ cX11_stood) 189 [some (.ref 48), some (.int l1), some (.int l2), some (.int l3), some (.int l4), some (.int l5), some (.int l6), some (.int l7), some (.int l8), some (.int l9)] [] w (f_X11_stood_B189 k110 w l1 l2 l3 l4 l5 l6 l7 l8 l9) := by
  unfold f_X11_stood_B189
  refine e_iinc G (pc := 189) (x := l9) (v := l9 + 1) (L' := fun v1 => [some (.ref 48), some (.int l1), some (.int l2), some (.int l3), some (.int l4), some (.int l5), some (.int l6), some (.int l7), some (.int l8), some (.int v1)]) dX11_stood_189 (Nat.le_of_ble_eq_true rfl) rfl (by rfl) (fun _ => rfl) (fun v1 => ?_)
  refine e_goto G (pc := 192) (tgt := 110) dX11_stood_192 (by decide) ?_
  exact hk110 w l1 l2 l3 l4 l5 l6 l7 l8 v1 
set_option maxRecDepth 100000 in
set_option maxHeartbeats 4000000 in
theorem t_X11_stood_B183 {E : qE} {Γ : qC} (G : q_Ok E Γ RX11 cX11_stood 10 (109)) (k110 : qW → Int32 → Int32 → Int32 → Int32 → Int32 → Int32 → Int32 → Int32 → Int32 → Option (Int32 × qW)) (hk110 : ∀ (w : qW) (l1 : Int32) (l2 : Int32) (l3 : Int32) (l4 : Int32) (l5 : Int32) (l6 : Int32) (l7 : Int32) (l8 : Int32) (l9 : Int32), q_Ev E Γ 10 (q_Fi E Γ cX11_stood) 110 [some (.ref 48), some (.int l1), some (.int l2), some (.int l3), some (.int l4), some (.int l5), some (.int l6), some (.int l7), some (.int l8), some (.int l9)] [] w (k110 w l1 l2 l3 l4 l5 l6 l7 l8 l9)) (w : qW) (l1 : Int32) (l2 : Int32) (l3 : Int32) (l4 : Int32) (l5 : Int32) (l6 : Int32) (l7 : Int32) (l9 : Int32) (s0 : Int32) (s1 : Int32) : q_Ev E Γ 10 (q_Fi E Γ cX11_stood) 183 [some (.ref 48), some (.int l1), some (.int l2), some (.int l3), some (.int l4), some (.int l5), some (.int l6), some (.int l7), none, some (.int l9)] [.int s0, .int s1] w (f_X11_stood_B183 k110 w l1 l2 l3 l4 l5 l6 l7 l9 s0 s1) := by
  unfold f_X11_stood_B183
  refine e_ior G (pc := 183) dX11_stood_183 ?_
  refine e_ti (fun v1 => ?_)
  refine e_istore G (pc := 184) (L' := [some (.ref 48), some (.int l1), some (.int l2), some (.int l3), some (.int l4), some (.int l5), some (.int l6), some (.int l7), some (.int v1), some (.int l9)]) dX11_stood_184 (Nat.le_of_ble_eq_true rfl) rfl ?_
  refine e_iinc G (pc := 186) (x := l6) (v := l6 + 1) (L' := fun v2 => [some (.ref 48), some (.int l1), some (.int l2), some (.int l3), some (.int l4), some (.int l5), some (.int v2), some (.int l7), some (.int v1), some (.int l9)]) dX11_stood_186 (Nat.le_of_ble_eq_true rfl) rfl (by rfl) (fun _ => rfl) (fun v2 => ?_)
  exact t_X11_stood_B189 G k110 hk110 w l1 l2 l3 l4 l5 v2 l7 v1 l9 
set_option maxRecDepth 100000 in
set_option maxHeartbeats 4000000 in
theorem t_X11_stood_B166 {E : qE} {Γ : qC} (G : q_Ok E Γ RX11 cX11_stood 10 (109)) (k110 : qW → Int32 → Int32 → Int32 → Int32 → Int32 → Int32 → Int32 → Int32 → Int32 → Option (Int32 × qW)) (hk110 : ∀ (w : qW) (l1 : Int32) (l2 : Int32) (l3 : Int32) (l4 : Int32) (l5 : Int32) (l6 : Int32) (l7 : Int32) (l8 : Int32) (l9 : Int32), q_Ev E Γ 10 (q_Fi E Γ cX11_stood) 110 [some (.ref 48), some (.int l1), some (.int l2), some (.int l3), some (.int l4), some (.int l5), some (.int l6), some (.int l7), some (.int l8), some (.int l9)] [] w (k110 w l1 l2 l3 l4 l5 l6 l7 l8 l9)) (w : qW) (l1 : Int32) (l2 : Int32) (l3 : Int32) (l4 : Int32) (l5 : Int32) (l6 : Int32) (l8 : Int32) (l9 : Int32) (s0 : Int32) : q_Ev E Γ 10 (q_Fi E Γ cX11_stood) 166 [some (.ref 48), some (.int l1), some (.int l2), some (.int l3), some (.int l4), some (.int l5), some (.int l6), none, some (.int l8), some (.int l9)] [.int s0] w (f_X11_stood_B166 k110 w l1 l2 l3 l4 l5 l6 l8 l9 s0) := by
  unfold f_X11_stood_B166
  refine e_istore G (pc := 166) (L' := [some (.ref 48), some (.int l1), some (.int l2), some (.int l3), some (.int l4), some (.int l5), some (.int l6), some (.int s0), some (.int l8), some (.int l9)]) dX11_stood_166 (Nat.le_of_ble_eq_true rfl) rfl ?_
  refine e_iload G (pc := 168) dX11_stood_168 rfl ?_
  refine e_iload_n G (pc := 170) dX11_stood_170 rfl rfl ?_
  refine e_iconst G (pc := 171) (v := 2) dX11_stood_171 (by decide) ?_
  refine e_icmp_ne G (pc := 172) (tgt := 182) dX11_stood_172 (by decide) ?_ ?_
  · refine e_iconst G (pc := 182) (v := 0) dX11_stood_182 (by decide) ?_
    refine e_wk (L' := [some (.ref 48), some (.int l1), some (.int l2), some (.int l3), some (.int l4), some (.int l5), some (.int l6), some (.int s0), none, some (.int l9)]) (And.intro rfl (And.intro rfl (And.intro rfl (And.intro rfl (And.intro rfl (And.intro rfl (And.intro rfl (And.intro rfl (And.intro rfl (trivial)))))))))) ?_
    exact t_X11_stood_B183 G k110 hk110 w l1 l2 l3 l4 l5 l6 s0 l9 0 l8 
  · refine e_iconst G (pc := 175) (v := 1) dX11_stood_175 (by decide) ?_
    refine e_iload G (pc := 176) dX11_stood_176 rfl ?_
    refine e_ishl G (pc := 178) dX11_stood_178 ?_
    refine e_goto G (pc := 179) (tgt := 183) dX11_stood_179 (by decide) ?_
    refine e_wk (L' := [some (.ref 48), some (.int l1), some (.int l2), some (.int l3), some (.int l4), some (.int l5), some (.int l6), some (.int s0), none, some (.int l9)]) (And.intro rfl (And.intro rfl (And.intro rfl (And.intro rfl (And.intro rfl (And.intro rfl (And.intro rfl (And.intro rfl (And.intro rfl (trivial)))))))))) ?_
    exact t_X11_stood_B183 G k110 hk110 w l1 l2 l3 l4 l5 l6 s0 l9 ((1 : Int32) <<< (l9 &&& 31)) l8 
set_option maxRecDepth 100000 in
set_option maxHeartbeats 4000000 in
theorem t_X11_stood_B124 {E : qE} {Γ : qC} (G : q_Ok E Γ RX11 cX11_stood 10 (109)) (k110 : qW → Int32 → Int32 → Int32 → Int32 → Int32 → Int32 → Int32 → Int32 → Int32 → Option (Int32 × qW)) (hk110 : ∀ (w : qW) (l1 : Int32) (l2 : Int32) (l3 : Int32) (l4 : Int32) (l5 : Int32) (l6 : Int32) (l7 : Int32) (l8 : Int32) (l9 : Int32), q_Ev E Γ 10 (q_Fi E Γ cX11_stood) 110 [some (.ref 48), some (.int l1), some (.int l2), some (.int l3), some (.int l4), some (.int l5), some (.int l6), some (.int l7), some (.int l8), some (.int l9)] [] w (k110 w l1 l2 l3 l4 l5 l6 l7 l8 l9)) (w : qW) (l1 : Int32) (l2 : Int32) (l3 : Int32) (l4 : Int32) (l5 : Int32) (l6 : Int32) (l7 : Int32) (l8 : Int32) (l9 : Int32) (s0 : Int32) (s1 : Int32) : q_Ev E Γ 10 (q_Fi E Γ cX11_stood) 124 [some (.ref 48), some (.int l1), some (.int l2), some (.int l3), some (.int l4), some (.int l5), some (.int l6), some (.int l7), some (.int l8), some (.int l9)] [.int s0, .int s1] w (f_X11_stood_B124 k110 w l1 l2 l3 l4 l5 l6 l7 l8 l9 s0 s1) := by
  unfold f_X11_stood_B124
  refine e_icmp_ge G (pc := 124) (tgt := 195) dX11_stood_124 (by decide) ?_ ?_
  · refine e_aload_n G (pc := 195) dX11_stood_195 rfl rfl ?_
    refine e_getF G (pc := 196) sh_48 rfl lk_X11_9 dX11_stood_196 ?_
    refine e_iload G (pc := 199) dX11_stood_199 rfl ?_
    refine e_iload G (pc := 201) dX11_stood_201 rfl ?_
    refine e_iast G (pc := 203) sh_49 dX11_stood_203 (fun w1 => ?_)
    refine e_iload_n G (pc := 204) dX11_stood_204 rfl rfl ?_
    refine e_if_ne G (pc := 205) (tgt := 213) dX11_stood_205 (by decide) ?_ ?_
    · refine e_iload_n G (pc := 213) dX11_stood_213 rfl rfl ?_
      refine e_iconst G (pc := 214) (v := 1) dX11_stood_214 (by decide) ?_
      refine e_icmp_ne G (pc := 215) (tgt := 223) dX11_stood_215 (by decide) ?_ ?_
      · refine e_iload G (pc := 223) dX11_stood_223 rfl ?_
        exact e_iret dX11_stood_225
      · refine e_iload G (pc := 218) dX11_stood_218 rfl ?_
        refine e_goto G (pc := 220) (tgt := 225) dX11_stood_220 (by decide) ?_
        exact e_iret dX11_stood_225
    · refine e_iload G (pc := 208) dX11_stood_208 rfl ?_
      refine e_goto G (pc := 210) (tgt := 225) dX11_stood_210 (by decide) ?_
      exact e_iret dX11_stood_225
  · refine e_aload_n G (pc := 127) dX11_stood_127 rfl rfl ?_
    refine e_getF G (pc := 128) sh_48 rfl lk_X11_9 dX11_stood_128 ?_
    refine e_iload G (pc := 131) dX11_stood_131 rfl ?_
    refine e_iload G (pc := 133) dX11_stood_133 rfl ?_
    refine e_iast G (pc := 135) sh_49 dX11_stood_135 (fun w2 => ?_)
    refine e_aload_n G (pc := 136) dX11_stood_136 rfl rfl ?_
    refine e_iload_n G (pc := 137) dX11_stood_137 rfl rfl ?_
    refine e_iload_n G (pc := 138) dX11_stood_138 rfl rfl ?_
    refine e_bipush G (pc := 139) (v := 100) dX11_stood_139 (by decide) ?_
    refine e_irem G (pc := 141) dX11_stood_141 (by decide) ?_
    refine e_aload_n G (pc := 142) dX11_stood_142 rfl rfl ?_
    refine e_cVi G (pc := 143) (As := []) (st := [.int (q_rem l2 100), .int l1, .ref 48]) cv_X11_207 (c_X11_everybody w2  ) sh_48 (Nat.le_of_ble_eq_true rfl) rfl (Nat.le_of_ble_eq_true rfl) dX11_stood_143 (fun r3 w4 => ?_)
    refine e_cVi G (pc := 146) (As := [.int l1, .int (q_rem l2 100), .int r3]) (st := []) cv_X11_248 (c_X11_firstFalse w4 l1 (q_rem l2 100) r3 ) sh_48 (Nat.le_of_ble_eq_true rfl) rfl (Nat.le_of_ble_eq_true rfl) dX11_stood_146 (fun r5 w6 => ?_)
    refine e_bipush G (pc := 149) (v := (-2)) dX11_stood_149 (by decide) ?_
    refine e_icmp_ne G (pc := 151) (tgt := 189) dX11_stood_151 (by decide) ?_ ?_
    · exact t_X11_stood_B189 G k110 hk110 w6 l1 l2 l3 l4 l5 l6 l7 l8 l9 
    · refine e_iload G (pc := 154) dX11_stood_154 rfl ?_
      refine e_if_ne G (pc := 156) (tgt := 164) dX11_stood_156 (by decide) ?_ ?_
      · refine e_iload G (pc := 164) dX11_stood_164 rfl ?_
        refine e_wk (L' := [some (.ref 48), some (.int l1), some (.int l2), some (.int l3), some (.int l4), some (.int l5), some (.int l6), none, some (.int l8), some (.int l9)]) (And.intro rfl (And.intro rfl (And.intro rfl (And.intro rfl (And.intro rfl (And.intro rfl (And.intro rfl (And.intro rfl (And.intro rfl (trivial)))))))))) ?_
        exact t_X11_stood_B166 G k110 hk110 w6 l1 l2 l3 l4 l5 l6 l8 l9 l7 
      · refine e_iload G (pc := 159) dX11_stood_159 rfl ?_
        refine e_goto G (pc := 161) (tgt := 166) dX11_stood_161 (by decide) ?_
        refine e_wk (L' := [some (.ref 48), some (.int l1), some (.int l2), some (.int l3), some (.int l4), some (.int l5), some (.int l6), none, some (.int l8), some (.int l9)]) (And.intro rfl (And.intro rfl (And.intro rfl (And.intro rfl (And.intro rfl (And.intro rfl (And.intro rfl (And.intro rfl (And.intro rfl (trivial)))))))))) ?_
        exact t_X11_stood_B166 G k110 hk110 w6 l1 l2 l3 l4 l5 l6 l8 l9 l9 
set_option maxRecDepth 100000 in
set_option maxHeartbeats 4000000 in
theorem t_X11_stood_B110 {E : qE} {Γ : qC} (G : q_Ok E Γ RX11 cX11_stood 10 (109)) (k110 : qW → Int32 → Int32 → Int32 → Int32 → Int32 → Int32 → Int32 → Int32 → Int32 → Option (Int32 × qW)) (hk110 : ∀ (w : qW) (l1 : Int32) (l2 : Int32) (l3 : Int32) (l4 : Int32) (l5 : Int32) (l6 : Int32) (l7 : Int32) (l8 : Int32) (l9 : Int32), q_Ev E Γ 10 (q_Fi E Γ cX11_stood) 110 [some (.ref 48), some (.int l1), some (.int l2), some (.int l3), some (.int l4), some (.int l5), some (.int l6), some (.int l7), some (.int l8), some (.int l9)] [] w (k110 w l1 l2 l3 l4 l5 l6 l7 l8 l9)) (w : qW) (l1 : Int32) (l2 : Int32) (l3 : Int32) (l4 : Int32) (l5 : Int32) (l6 : Int32) (l7 : Int32) (l8 : Int32) (l9 : Int32) : q_Ev E Γ 10 (q_Fi E Γ cX11_stood) 110 [some (.ref 48), some (.int l1), some (.int l2), some (.int l3), some (.int l4), some (.int l5), some (.int l6), some (.int l7), some (.int l8), some (.int l9)] [] w (f_X11_stood_B110 k110 w l1 l2 l3 l4 l5 l6 l7 l8 l9) := by
  unfold f_X11_stood_B110
  refine e_iload G (pc := 110) dX11_stood_110 rfl ?_
  refine e_iload_n G (pc := 112) dX11_stood_112 rfl rfl ?_
  refine e_iconst G (pc := 113) (v := 2) dX11_stood_113 (by decide) ?_
  refine e_icmp_ne G (pc := 114) (tgt := 121) dX11_stood_114 (by decide) ?_ ?_
  · refine e_sipush G (pc := 121) (v := 144) dX11_stood_121 (by decide) ?_
    exact t_X11_stood_B124 G k110 hk110 w l1 l2 l3 l4 l5 l6 l7 l8 l9 144 l9 
  · refine e_iconst G (pc := 117) (v := 3) dX11_stood_117 (by decide) ?_
    refine e_goto G (pc := 118) (tgt := 124) dX11_stood_118 (by decide) ?_
    exact t_X11_stood_B124 G k110 hk110 w l1 l2 l3 l4 l5 l6 l7 l8 l9 3 l9 
set_option maxRecDepth 100000 in
set_option maxHeartbeats 4000000 in
theorem t_X11_stood_R110 {E : qE} {Γ : qC} (G : q_Ok E Γ RX11 cX11_stood 10 (109)) : ∀ (fuel : Nat) (w : qW) (l1 : Int32) (l2 : Int32) (l3 : Int32) (l4 : Int32) (l5 : Int32) (l6 : Int32) (l7 : Int32) (l8 : Int32) (l9 : Int32) , q_Ev E Γ 10 (q_Fi E Γ cX11_stood) 110 [some (.ref 48), some (.int l1), some (.int l2), some (.int l3), some (.int l4), some (.int l5), some (.int l6), some (.int l7), some (.int l8), some (.int l9)] [] w (f_X11_stood_R110 fuel w l1 l2 l3 l4 l5 l6 l7 l8 l9) := by
  intro fuel
  induction fuel with
  | zero => intros; exact e_none
  | succ fuel ih =>
    intro w l1 l2 l3 l4 l5 l6 l7 l8 l9 
    exact t_X11_stood_B110 G _ ih w l1 l2 l3 l4 l5 l6 l7 l8 l9 
set_option maxRecDepth 100000 in
set_option maxHeartbeats 4000000 in
theorem t_X11_stood_B86 {E : qE} {Γ : qC} (G : q_Ok E Γ RX11 cX11_stood 10 (109)) (w : qW) (l1 : Int32) (l2 : Int32) (l3 : Int32) (s0 : Int32) : q_Ev E Γ 10 (q_Fi E Γ cX11_stood) 86 [some (.ref 48), some (.int l1), some (.int l2), some (.int l3), none, none, none, none, none, none] [.int s0] w (f_X11_stood_B86 w l1 l2 l3 s0) := by
  unfold f_X11_stood_B86
  refine e_istore G (pc := 86) (L' := [some (.ref 48), some (.int l1), some (.int l2), some (.int l3), some (.int s0), none, none, none, none, none]) dX11_stood_86 (Nat.le_of_ble_eq_true rfl) rfl ?_
  refine e_aload_n G (pc := 88) dX11_stood_88 rfl rfl ?_
  refine e_getF G (pc := 89) sh_48 rfl lk_X11_9 dX11_stood_89 ?_
  refine e_iload G (pc := 92) dX11_stood_92 rfl ?_
  refine e_iald G (pc := 94) sh_49 dX11_stood_94 (fun v1 => ?_)
  refine e_istore G (pc := 95) (L' := [some (.ref 48), some (.int l1), some (.int l2), some (.int l3), some (.int s0), some (.int v1), none, none, none, none]) dX11_stood_95 (Nat.le_of_ble_eq_true rfl) rfl ?_
  refine e_iconst G (pc := 97) (v := 0) dX11_stood_97 (by decide) ?_
  refine e_istore G (pc := 98) (L' := [some (.ref 48), some (.int l1), some (.int l2), some (.int l3), some (.int s0), some (.int v1), some (.int 0), none, none, none]) dX11_stood_98 (Nat.le_of_ble_eq_true rfl) rfl ?_
  refine e_bipush G (pc := 100) (v := (-2)) dX11_stood_100 (by decide) ?_
  refine e_istore G (pc := 102) (L' := [some (.ref 48), some (.int l1), some (.int l2), some (.int l3), some (.int s0), some (.int v1), some (.int 0), some (.int (-2)), none, none]) dX11_stood_102 (Nat.le_of_ble_eq_true rfl) rfl ?_
  refine e_iconst G (pc := 104) (v := 0) dX11_stood_104 (by decide) ?_
  refine e_istore G (pc := 105) (L' := [some (.ref 48), some (.int l1), some (.int l2), some (.int l3), some (.int s0), some (.int v1), some (.int 0), some (.int (-2)), some (.int 0), none]) dX11_stood_105 (Nat.le_of_ble_eq_true rfl) rfl ?_
  refine e_iconst G (pc := 107) (v := 0) dX11_stood_107 (by decide) ?_
  refine e_istore G (pc := 108) (L' := [some (.ref 48), some (.int l1), some (.int l2), some (.int l3), some (.int s0), some (.int v1), some (.int 0), some (.int (-2)), some (.int 0), some (.int 0)]) dX11_stood_108 (Nat.le_of_ble_eq_true rfl) rfl ?_
  exact t_X11_stood_R110 G  q_fuel w l1 l2 l3 s0 v1 0 (-2) 0 0 
set_option maxRecDepth 100000 in
set_option maxHeartbeats 4000000 in
theorem t_X11_stood {E : qE} {Γ : qC} (G : q_Ok E Γ RX11 cX11_stood 10 (109)) (w : qW) (a1 : Int32) (a2 : Int32) (a3 : Int32) : q_Ev E Γ 10 (q_Fi E Γ cX11_stood) 0 [some (.ref 48), some (.int a1), some (.int a2), some (.int a3), none, none, none, none, none, none] [] w (f_X11_stood w a1 a2 a3) := by
  unfold f_X11_stood
  refine e_aload_n G (pc := 0) dX11_stood_0 rfl rfl ?_
  refine e_iload_n G (pc := 1) dX11_stood_1 rfl rfl ?_
  refine e_iconst G (pc := 2) (v := 0) dX11_stood_2 (by decide) ?_
  refine e_cVi G (pc := 3) (As := [.int a1, .int 0]) (st := []) cv_X11_245 (c_X11_rowIs w a1 0 ) sh_48 (Nat.le_of_ble_eq_true rfl) rfl (Nat.le_of_ble_eq_true rfl) dX11_stood_3 (fun r1 w2 => ?_)
  refine e_iconst G (pc := 6) (v := (-1)) dX11_stood_6 (by decide) ?_
  refine e_icmp_eq G (pc := 7) (tgt := 49) dX11_stood_7 (by decide) ?_ ?_
  · refine e_iconst G (pc := 49) (v := (-1)) dX11_stood_49 (by decide) ?_
    exact e_iret dX11_stood_50
  · refine e_iload_n G (pc := 10) dX11_stood_10 rfl rfl ?_
    refine e_if_lt G (pc := 11) (tgt := 49) dX11_stood_11 (by decide) ?_ ?_
    · refine e_iconst G (pc := 49) (v := (-1)) dX11_stood_49 (by decide) ?_
      exact e_iret dX11_stood_50
    · refine e_aload_n G (pc := 14) dX11_stood_14 rfl rfl ?_
      refine e_iload_n G (pc := 15) dX11_stood_15 rfl rfl ?_
      refine e_bipush G (pc := 16) (v := 100) dX11_stood_16 (by decide) ?_
      refine e_idiv G (pc := 18) dX11_stood_18 (by decide) ?_
      refine e_i2l G (pc := 19) dX11_stood_19 ?_
      refine e_cVi G (pc := 20) (As := [.long (Int32.toInt64 (a2 / 100))]) (st := []) cv_X11_116 (c_X11_isMan w2 (Int32.toInt64 (a2 / 100)) ) sh_48 (Nat.le_of_ble_eq_true rfl) rfl (Nat.le_of_ble_eq_true rfl) dX11_stood_20 (fun r3 w4 => ?_)
      refine e_if_eq G (pc := 23) (tgt := 49) dX11_stood_23 (by decide) ?_ ?_
      · refine e_iconst G (pc := 49) (v := (-1)) dX11_stood_49 (by decide) ?_
        exact e_iret dX11_stood_50
      · refine e_iload_n G (pc := 26) dX11_stood_26 rfl rfl ?_
        refine e_bipush G (pc := 27) (v := 100) dX11_stood_27 (by decide) ?_
        refine e_irem G (pc := 29) dX11_stood_29 (by decide) ?_
        refine e_i2l G (pc := 30) dX11_stood_30 ?_
        refine e_cSi G (pc := 31) (ci := 0) (id := 0) (sl := []) (As := [.long (Int32.toInt64 (q_rem a2 100))]) (st := []) cs_X11_204 (c_X11_isHour w4 (Int32.toInt64 (q_rem a2 100)) ) (Nat.le_of_ble_eq_true rfl) rfl (Nat.le_of_ble_eq_true rfl) dX11_stood_31 (fun r5 w6 => ?_)
        refine e_if_eq G (pc := 34) (tgt := 49) dX11_stood_34 (by decide) ?_ ?_
        · refine e_iconst G (pc := 49) (v := (-1)) dX11_stood_49 (by decide) ?_
          exact e_iret dX11_stood_50
        · refine e_iload_n G (pc := 37) dX11_stood_37 rfl rfl ?_
          refine e_i2l G (pc := 38) dX11_stood_38 ?_
          refine e_lconst G (pc := 39) (v := 0) dX11_stood_39 (by decide) ?_
          refine e_ldc2 G (pc := 40) kl_X11_93 dX11_stood_40 ?_
          refine e_cSi G (pc := 43) (ci := 0) (id := 0) (sl := []) (As := [.long (Int32.toInt64 a3), .long 0, .long 2]) (st := []) cs_X11_78 (c_X11_within w6 (Int32.toInt64 a3) 0 2 ) (Nat.le_of_ble_eq_true rfl) rfl (Nat.le_of_ble_eq_true rfl) dX11_stood_43 (fun r7 w8 => ?_)
          refine e_if_ne G (pc := 46) (tgt := 51) dX11_stood_46 (by decide) ?_ ?_
          · refine e_aload_n G (pc := 51) dX11_stood_51 rfl rfl ?_
            refine e_iload_n G (pc := 52) dX11_stood_52 rfl rfl ?_
            refine e_iconst G (pc := 53) (v := 0) dX11_stood_53 (by decide) ?_
            refine e_cVi G (pc := 54) (As := [.int a1, .int 0]) (st := []) cv_X11_245 (c_X11_rowIs w8 a1 0 ) sh_48 (Nat.le_of_ble_eq_true rfl) rfl (Nat.le_of_ble_eq_true rfl) dX11_stood_54 (fun r9 w10 => ?_)
            refine e_if_ge G (pc := 57) (tgt := 67) dX11_stood_57 (by decide) ?_ ?_
            · refine e_iload_n G (pc := 67) dX11_stood_67 rfl rfl ?_
              refine e_iconst G (pc := 68) (v := 2) dX11_stood_68 (by decide) ?_
              refine e_icmp_ne G (pc := 69) (tgt := 82) dX11_stood_69 (by decide) ?_ ?_
              · refine e_iload_n G (pc := 82) dX11_stood_82 rfl rfl ?_
                refine e_bipush G (pc := 83) (v := 100) dX11_stood_83 (by decide) ?_
                refine e_idiv G (pc := 85) dX11_stood_85 (by decide) ?_
                exact t_X11_stood_B86 G w10 a1 a2 a3 (a2 / 100) 
              · refine e_bipush G (pc := 72) (v := 8) dX11_stood_72 (by decide) ?_
                refine e_iload_n G (pc := 74) dX11_stood_74 rfl rfl ?_
                refine e_bipush G (pc := 75) (v := 100) dX11_stood_75 (by decide) ?_
                refine e_idiv G (pc := 77) dX11_stood_77 (by decide) ?_
                refine e_iadd G (pc := 78) dX11_stood_78 ?_
                refine e_goto G (pc := 79) (tgt := 86) dX11_stood_79 (by decide) ?_
                exact t_X11_stood_B86 G w10 a1 a2 a3 ((8 : Int32) + (a2 / 100)) 
            · refine e_aload_n G (pc := 60) dX11_stood_60 rfl rfl ?_
              refine e_iload_n G (pc := 61) dX11_stood_61 rfl rfl ?_
              refine e_iconst G (pc := 62) (v := 0) dX11_stood_62 (by decide) ?_
              refine e_cVi G (pc := 63) (As := [.int a1, .int 0]) (st := []) cv_X11_245 (c_X11_rowIs w10 a1 0 ) sh_48 (Nat.le_of_ble_eq_true rfl) rfl (Nat.le_of_ble_eq_true rfl) dX11_stood_63 (fun r11 w12 => ?_)
              exact e_iret dX11_stood_66
          · refine e_iconst G (pc := 49) (v := (-1)) dX11_stood_49 (by decide) ?_
            exact e_iret dX11_stood_50
set_option maxRecDepth 100000 in
set_option maxHeartbeats 4000000 in
theorem c_X11_stood (w : qW) (a1 : Int32) (a2 : Int32) (a3 : Int32) : q_AC q_vi (some .int) (109) yX11_stood cX11_stood 10 [.ref 48, .int a1, .int a2, .int a3] w (f_X11_stood w a1 a2 a3) := q_met_i (k := 6) (by decide +kernel) rfl rfl rfl (fun _ _ G => t_X11_stood G w a1 a2 a3 )
set_option maxRecDepth 100000 in
set_option maxHeartbeats 4000000 in
theorem t_X11_who_B110 {E : qE} {Γ : qC} (G : q_Ok E Γ RX11 cX11_who 8 (109)) (k64 : qW → Int32 → Int32 → Int32 → Int32 → Int32 → Int32 → Int32 → Option (Int32 × qW)) (hk64 : ∀ (w : qW) (l1 : Int32) (l2 : Int32) (l3 : Int32) (l4 : Int32) (l5 : Int32) (l6 : Int32) (l7 : Int32), q_Ev E Γ 8 (q_Fi E Γ cX11_who) 64 [some (.ref 48), some (.int l1), some (.int l2), some (.int l3), some (.int l4), some (.int l5), some (.int l6), some (.int l7)] [] w (k64 w l1 l2 l3 l4 l5 l6 l7)) (w : qW) (l1 : Int32) (l2 : Int32) (l3 : Int32) (l4 : Int32) (l5 : Int32) (l6 : Int32) (l7 : Int32) : q_Ev E Γ 8 (q_Fi E Γ cX11_who) 110 [some (.ref 48), some (.int l1), some (.int l2), some (.int l3), some (.int l4), some (.int l5), some (.int l6), some (.int l7)] [] w (f_X11_who_B110 k64 w l1 l2 l3 l4 l5 l6 l7) := by
  unfold f_X11_who_B110
  refine e_iinc G (pc := 110) (x := l7) (v := l7 + 1) (L' := fun v1 => [some (.ref 48), some (.int l1), some (.int l2), some (.int l3), some (.int l4), some (.int l5), some (.int l6), some (.int v1)]) dX11_who_110 (Nat.le_of_ble_eq_true rfl) rfl (by rfl) (fun _ => rfl) (fun v1 => ?_)
  refine e_goto G (pc := 113) (tgt := 64) dX11_who_113 (by decide) ?_
  exact hk64 w l1 l2 l3 l4 l5 l6 v1 
set_option maxRecDepth 100000 in
set_option maxHeartbeats 4000000 in
theorem t_X11_who_B98 {E : qE} {Γ : qC} (G : q_Ok E Γ RX11 cX11_who 8 (109)) (k64 : qW → Int32 → Int32 → Int32 → Int32 → Int32 → Int32 → Int32 → Option (Int32 × qW)) (hk64 : ∀ (w : qW) (l1 : Int32) (l2 : Int32) (l3 : Int32) (l4 : Int32) (l5 : Int32) (l6 : Int32) (l7 : Int32), q_Ev E Γ 8 (q_Fi E Γ cX11_who) 64 [some (.ref 48), some (.int l1), some (.int l2), some (.int l3), some (.int l4), some (.int l5), some (.int l6), some (.int l7)] [] w (k64 w l1 l2 l3 l4 l5 l6 l7)) (w : qW) (l1 : Int32) (l2 : Int32) (l3 : Int32) (l4 : Int32) (l6 : Int32) (l7 : Int32) (s0 : Int32) : q_Ev E Γ 8 (q_Fi E Γ cX11_who) 98 [some (.ref 48), some (.int l1), some (.int l2), some (.int l3), some (.int l4), none, some (.int l6), some (.int l7)] [.int s0] w (f_X11_who_B98 k64 w l1 l2 l3 l4 l6 l7 s0) := by
  unfold f_X11_who_B98
  refine e_istore G (pc := 98) (L' := [some (.ref 48), some (.int l1), some (.int l2), some (.int l3), some (.int l4), some (.int s0), some (.int l6), some (.int l7)]) dX11_who_98 (Nat.le_of_ble_eq_true rfl) rfl ?_
  refine e_iload G (pc := 100) dX11_who_100 rfl ?_
  refine e_iload G (pc := 102) dX11_who_102 rfl ?_
  refine e_iand G (pc := 104) dX11_who_104 ?_
  refine e_ti (fun v1 => ?_)
  refine e_istore G (pc := 105) (L' := [some (.ref 48), some (.int l1), some (.int l2), some (.int l3), some (.int l4), some (.int s0), some (.int v1), some (.int l7)]) dX11_who_105 (Nat.le_of_ble_eq_true rfl) rfl ?_
  refine e_iinc G (pc := 107) (x := l4) (v := l4 + 1) (L' := fun v2 => [some (.ref 48), some (.int l1), some (.int l2), some (.int l3), some (.int v2), some (.int s0), some (.int v1), some (.int l7)]) dX11_who_107 (Nat.le_of_ble_eq_true rfl) rfl (by rfl) (fun _ => rfl) (fun v2 => ?_)
  exact t_X11_who_B110 G k64 hk64 w l1 l2 l3 v2 s0 v1 l7 
set_option maxRecDepth 100000 in
set_option maxHeartbeats 4000000 in
theorem t_X11_who_B64 {E : qE} {Γ : qC} (G : q_Ok E Γ RX11 cX11_who 8 (109)) (k64 : qW → Int32 → Int32 → Int32 → Int32 → Int32 → Int32 → Int32 → Option (Int32 × qW)) (hk64 : ∀ (w : qW) (l1 : Int32) (l2 : Int32) (l3 : Int32) (l4 : Int32) (l5 : Int32) (l6 : Int32) (l7 : Int32), q_Ev E Γ 8 (q_Fi E Γ cX11_who) 64 [some (.ref 48), some (.int l1), some (.int l2), some (.int l3), some (.int l4), some (.int l5), some (.int l6), some (.int l7)] [] w (k64 w l1 l2 l3 l4 l5 l6 l7)) (w : qW) (l1 : Int32) (l2 : Int32) (l3 : Int32) (l4 : Int32) (l5 : Int32) (l6 : Int32) (l7 : Int32) : q_Ev E Γ 8 (q_Fi E Γ cX11_who) 64 [some (.ref 48), some (.int l1), some (.int l2), some (.int l3), some (.int l4), some (.int l5), some (.int l6), some (.int l7)] [] w (f_X11_who_B64 k64 w l1 l2 l3 l4 l5 l6 l7) := by
  unfold f_X11_who_B64
  refine e_iload G (pc := 64) dX11_who_64 rfl ?_
  refine e_aload_n G (pc := 66) dX11_who_66 rfl rfl ?_
  refine e_cVi G (pc := 67) (As := []) (st := [.int l7]) cv_X11_207 (c_X11_everybody w  ) sh_48 (Nat.le_of_ble_eq_true rfl) rfl (Nat.le_of_ble_eq_true rfl) dX11_who_67 (fun r1 w2 => ?_)
  refine e_icmp_gt G (pc := 70) (tgt := 116) dX11_who_70 (by decide) ?_ ?_
  · refine e_iload_n G (pc := 116) dX11_who_116 rfl rfl ?_
    refine e_if_ne G (pc := 117) (tgt := 125) dX11_who_117 (by decide) ?_ ?_
    · refine e_iload_n G (pc := 125) dX11_who_125 rfl rfl ?_
      refine e_iconst G (pc := 126) (v := 1) dX11_who_126 (by decide) ?_
      refine e_icmp_ne G (pc := 127) (tgt := 135) dX11_who_127 (by decide) ?_ ?_
      · refine e_iload G (pc := 135) dX11_who_135 rfl ?_
        refine e_if_ne G (pc := 137) (tgt := 144) dX11_who_137 (by decide) ?_ ?_
        · refine e_iload G (pc := 144) dX11_who_144 rfl ?_
          exact e_iret dX11_who_146
        · refine e_iconst G (pc := 140) (v := 0) dX11_who_140 (by decide) ?_
          refine e_goto G (pc := 141) (tgt := 146) dX11_who_141 (by decide) ?_
          exact e_iret dX11_who_146
      · refine e_iload G (pc := 130) dX11_who_130 rfl ?_
        refine e_goto G (pc := 132) (tgt := 146) dX11_who_132 (by decide) ?_
        exact e_iret dX11_who_146
    · refine e_iload G (pc := 120) dX11_who_120 rfl ?_
      refine e_goto G (pc := 122) (tgt := 146) dX11_who_122 (by decide) ?_
      exact e_iret dX11_who_146
  · refine e_aload_n G (pc := 73) dX11_who_73 rfl rfl ?_
    refine e_iload_n G (pc := 74) dX11_who_74 rfl rfl ?_
    refine e_iload_n G (pc := 75) dX11_who_75 rfl rfl ?_
    refine e_iload G (pc := 76) dX11_who_76 rfl ?_
    refine e_cVi G (pc := 78) (As := [.int l1, .int l2, .int l7]) (st := []) cv_X11_248 (c_X11_firstFalse w2 l1 l2 l7 ) sh_48 (Nat.le_of_ble_eq_true rfl) rfl (Nat.le_of_ble_eq_true rfl) dX11_who_78 (fun r3 w4 => ?_)
    refine e_bipush G (pc := 81) (v := (-2)) dX11_who_81 (by decide) ?_
    refine e_icmp_ne G (pc := 83) (tgt := 110) dX11_who_83 (by decide) ?_ ?_
    · exact t_X11_who_B110 G k64 hk64 w4 l1 l2 l3 l4 l5 l6 l7 
    · refine e_iload G (pc := 86) dX11_who_86 rfl ?_
      refine e_if_ne G (pc := 88) (tgt := 96) dX11_who_88 (by decide) ?_ ?_
      · refine e_iload G (pc := 96) dX11_who_96 rfl ?_
        refine e_wk (L' := [some (.ref 48), some (.int l1), some (.int l2), some (.int l3), some (.int l4), none, some (.int l6), some (.int l7)]) (And.intro rfl (And.intro rfl (And.intro rfl (And.intro rfl (And.intro rfl (And.intro rfl (And.intro rfl (trivial)))))))) ?_
        exact t_X11_who_B98 G k64 hk64 w4 l1 l2 l3 l4 l6 l7 l5 
      · refine e_iload G (pc := 91) dX11_who_91 rfl ?_
        refine e_goto G (pc := 93) (tgt := 98) dX11_who_93 (by decide) ?_
        refine e_wk (L' := [some (.ref 48), some (.int l1), some (.int l2), some (.int l3), some (.int l4), none, some (.int l6), some (.int l7)]) (And.intro rfl (And.intro rfl (And.intro rfl (And.intro rfl (And.intro rfl (And.intro rfl (And.intro rfl (trivial)))))))) ?_
        exact t_X11_who_B98 G k64 hk64 w4 l1 l2 l3 l4 l6 l7 l7 
set_option maxRecDepth 100000 in
set_option maxHeartbeats 4000000 in
theorem t_X11_who_R64 {E : qE} {Γ : qC} (G : q_Ok E Γ RX11 cX11_who 8 (109)) : ∀ (fuel : Nat) (w : qW) (l1 : Int32) (l2 : Int32) (l3 : Int32) (l4 : Int32) (l5 : Int32) (l6 : Int32) (l7 : Int32) , q_Ev E Γ 8 (q_Fi E Γ cX11_who) 64 [some (.ref 48), some (.int l1), some (.int l2), some (.int l3), some (.int l4), some (.int l5), some (.int l6), some (.int l7)] [] w (f_X11_who_R64 fuel w l1 l2 l3 l4 l5 l6 l7) := by
  intro fuel
  induction fuel with
  | zero => intros; exact e_none
  | succ fuel ih =>
    intro w l1 l2 l3 l4 l5 l6 l7 
    exact t_X11_who_B64 G _ ih w l1 l2 l3 l4 l5 l6 l7 
set_option maxRecDepth 100000 in
set_option maxHeartbeats 4000000 in
theorem t_X11_who {E : qE} {Γ : qC} (G : q_Ok E Γ RX11 cX11_who 8 (109)) (w : qW) (a1 : Int32) (a2 : Int32) (a3 : Int32) : q_Ev E Γ 8 (q_Fi E Γ cX11_who) 0 [some (.ref 48), some (.int a1), some (.int a2), some (.int a3), none, none, none, none] [] w (f_X11_who w a1 a2 a3) := by
  unfold f_X11_who
  refine e_aload_n G (pc := 0) dX11_who_0 rfl rfl ?_
  refine e_iload_n G (pc := 1) dX11_who_1 rfl rfl ?_
  refine e_iconst G (pc := 2) (v := 0) dX11_who_2 (by decide) ?_
  refine e_cVi G (pc := 3) (As := [.int a1, .int 0]) (st := []) cv_X11_245 (c_X11_rowIs w a1 0 ) sh_48 (Nat.le_of_ble_eq_true rfl) rfl (Nat.le_of_ble_eq_true rfl) dX11_who_3 (fun r1 w2 => ?_)
  refine e_iconst G (pc := 6) (v := (-1)) dX11_who_6 (by decide) ?_
  refine e_icmp_eq G (pc := 7) (tgt := 30) dX11_who_7 (by decide) ?_ ?_
  · refine e_iconst G (pc := 30) (v := (-1)) dX11_who_30 (by decide) ?_
    exact e_iret dX11_who_31
  · refine e_iload_n G (pc := 10) dX11_who_10 rfl rfl ?_
    refine e_i2l G (pc := 11) dX11_who_11 ?_
    refine e_cSi G (pc := 12) (ci := 0) (id := 0) (sl := []) (As := [.long (Int32.toInt64 a2)]) (st := []) cs_X11_204 (c_X11_isHour w2 (Int32.toInt64 a2) ) (Nat.le_of_ble_eq_true rfl) rfl (Nat.le_of_ble_eq_true rfl) dX11_who_12 (fun r3 w4 => ?_)
    refine e_if_eq G (pc := 15) (tgt := 30) dX11_who_15 (by decide) ?_ ?_
    · refine e_iconst G (pc := 30) (v := (-1)) dX11_who_30 (by decide) ?_
      exact e_iret dX11_who_31
    · refine e_iload_n G (pc := 18) dX11_who_18 rfl rfl ?_
      refine e_i2l G (pc := 19) dX11_who_19 ?_
      refine e_lconst G (pc := 20) (v := 0) dX11_who_20 (by decide) ?_
      refine e_ldc2 G (pc := 21) kl_X11_93 dX11_who_21 ?_
      refine e_cSi G (pc := 24) (ci := 0) (id := 0) (sl := []) (As := [.long (Int32.toInt64 a3), .long 0, .long 2]) (st := []) cs_X11_78 (c_X11_within w4 (Int32.toInt64 a3) 0 2 ) (Nat.le_of_ble_eq_true rfl) rfl (Nat.le_of_ble_eq_true rfl) dX11_who_24 (fun r5 w6 => ?_)
      refine e_if_ne G (pc := 27) (tgt := 32) dX11_who_27 (by decide) ?_ ?_
      · refine e_aload_n G (pc := 32) dX11_who_32 rfl rfl ?_
        refine e_iload_n G (pc := 33) dX11_who_33 rfl rfl ?_
        refine e_iconst G (pc := 34) (v := 0) dX11_who_34 (by decide) ?_
        refine e_cVi G (pc := 35) (As := [.int a1, .int 0]) (st := []) cv_X11_245 (c_X11_rowIs w6 a1 0 ) sh_48 (Nat.le_of_ble_eq_true rfl) rfl (Nat.le_of_ble_eq_true rfl) dX11_who_35 (fun r7 w8 => ?_)
        refine e_if_ge G (pc := 38) (tgt := 48) dX11_who_38 (by decide) ?_ ?_
        · refine e_iconst G (pc := 48) (v := 0) dX11_who_48 (by decide) ?_
          refine e_istore G (pc := 49) (L' := [some (.ref 48), some (.int a1), some (.int a2), some (.int a3), some (.int 0), none, none, none]) dX11_who_49 (Nat.le_of_ble_eq_true rfl) rfl ?_
          refine e_bipush G (pc := 51) (v := (-2)) dX11_who_51 (by decide) ?_
          refine e_istore G (pc := 53) (L' := [some (.ref 48), some (.int a1), some (.int a2), some (.int a3), some (.int 0), some (.int (-2)), none, none]) dX11_who_53 (Nat.le_of_ble_eq_true rfl) rfl ?_
          refine e_aload_n G (pc := 55) dX11_who_55 rfl rfl ?_
          refine e_cVi G (pc := 56) (As := []) (st := []) cv_X11_207 (c_X11_everybody w8  ) sh_48 (Nat.le_of_ble_eq_true rfl) rfl (Nat.le_of_ble_eq_true rfl) dX11_who_56 (fun r9 w10 => ?_)
          refine e_istore G (pc := 59) (L' := [some (.ref 48), some (.int a1), some (.int a2), some (.int a3), some (.int 0), some (.int (-2)), some (.int r9), none]) dX11_who_59 (Nat.le_of_ble_eq_true rfl) rfl ?_
          refine e_iconst G (pc := 61) (v := 0) dX11_who_61 (by decide) ?_
          refine e_istore G (pc := 62) (L' := [some (.ref 48), some (.int a1), some (.int a2), some (.int a3), some (.int 0), some (.int (-2)), some (.int r9), some (.int 0)]) dX11_who_62 (Nat.le_of_ble_eq_true rfl) rfl ?_
          exact t_X11_who_R64 G  q_fuel w10 a1 a2 a3 0 (-2) r9 0 
        · refine e_aload_n G (pc := 41) dX11_who_41 rfl rfl ?_
          refine e_iload_n G (pc := 42) dX11_who_42 rfl rfl ?_
          refine e_iconst G (pc := 43) (v := 0) dX11_who_43 (by decide) ?_
          refine e_cVi G (pc := 44) (As := [.int a1, .int 0]) (st := []) cv_X11_245 (c_X11_rowIs w8 a1 0 ) sh_48 (Nat.le_of_ble_eq_true rfl) rfl (Nat.le_of_ble_eq_true rfl) dX11_who_44 (fun r11 w12 => ?_)
          exact e_iret dX11_who_47
      · refine e_iconst G (pc := 30) (v := (-1)) dX11_who_30 (by decide) ?_
        exact e_iret dX11_who_31
set_option maxRecDepth 100000 in
set_option maxHeartbeats 4000000 in
theorem c_X11_who (w : qW) (a1 : Int32) (a2 : Int32) (a3 : Int32) : q_AC q_vi (some .int) (109) yX11_who cX11_who 8 [.ref 48, .int a1, .int a2, .int a3] w (f_X11_who w a1 a2 a3) := q_met_i (k := 4) (by decide +kernel) rfl rfl rfl (fun _ _ G => t_X11_who G w a1 a2 a3 )
set_option maxRecDepth 100000 in
set_option maxHeartbeats 4000000 in
theorem t_X11_wish_B50 {E : qE} {Γ : qC} (G : q_Ok E Γ RX11 cX11_wish 8 (5)) (k50 : qW → Int32 → Int32 → Int32 → Int32 → Int32 → Option (Int32 × qW)) (hk50 : ∀ (w : qW) (l1 : Int32) (l2 : Int32) (l3 : Int32) (l4 : Int32) (l5 : Int32), q_Ev E Γ 8 (q_Fi E Γ cX11_wish) 50 [some (.ref 48), some (.int l1), some (.int l2), some (.int l3), some (.int l4), some (.int l5), none, none] [] w (k50 w l1 l2 l3 l4 l5)) (w : qW) (l1 : Int32) (l2 : Int32) (l3 : Int32) (l4 : Int32) (l5 : Int32) : q_Ev E Γ 8 (q_Fi E Γ cX11_wish) 50 [some (.ref 48), some (.int l1), some (.int l2), some (.int l3), some (.int l4), some (.int l5), none, none] [] w (f_X11_wish_B50 k50 w l1 l2 l3 l4 l5) := by
  unfold f_X11_wish_B50
  refine e_iload G (pc := 50) dX11_wish_50 rfl ?_
  refine e_aload_n G (pc := 52) dX11_wish_52 rfl rfl ?_
  refine e_getF G (pc := 53) sh_48 rfl lk_X11_55 dX11_wish_53 ?_
  refine e_iload_n G (pc := 56) dX11_wish_56 rfl rfl ?_
  refine e_iald G (pc := 57) sh_64 dX11_wish_57 (fun v1 => ?_)
  refine e_icmp_ge G (pc := 58) (tgt := 112) dX11_wish_58 (by decide) ?_ ?_
  · refine e_aload_n G (pc := 112) dX11_wish_112 rfl rfl ?_
    refine e_getF G (pc := 113) sh_48 rfl lk_X11_55 dX11_wish_113 ?_
    refine e_iload_n G (pc := 116) dX11_wish_116 rfl rfl ?_
    refine e_iald G (pc := 117) sh_64 dX11_wish_117 (fun v2 => ?_)
    refine e_if_ne G (pc := 118) (tgt := 126) dX11_wish_118 (by decide) ?_ ?_
    · refine e_iload_n G (pc := 126) dX11_wish_126 rfl rfl ?_
      refine e_if_ne G (pc := 127) (tgt := 134) dX11_wish_127 (by decide) ?_ ?_
      · refine e_iload G (pc := 134) dX11_wish_134 rfl ?_
        exact e_iret dX11_wish_136
      · refine e_iload_n G (pc := 130) dX11_wish_130 rfl rfl ?_
        refine e_goto G (pc := 131) (tgt := 136) dX11_wish_131 (by decide) ?_
        exact e_iret dX11_wish_136
    · refine e_bipush G (pc := 121) (v := (-2)) dX11_wish_121 (by decide) ?_
      refine e_goto G (pc := 123) (tgt := 136) dX11_wish_123 (by decide) ?_
      exact e_iret dX11_wish_136
  · refine e_aload_n G (pc := 61) dX11_wish_61 rfl rfl ?_
    refine e_getF G (pc := 62) sh_48 rfl lk_X11_58 dX11_wish_62 ?_
    refine e_bipush G (pc := 65) (v := 60) dX11_wish_65 (by decide) ?_
    refine e_iload_n G (pc := 67) dX11_wish_67 rfl rfl ?_
    refine e_imul G (pc := 68) dX11_wish_68 ?_
    refine e_iload G (pc := 69) dX11_wish_69 rfl ?_
    refine e_iadd G (pc := 71) dX11_wish_71 ?_
    refine e_lald G (pc := 72) sh_65 dX11_wish_72 (fun v3 => ?_)
    refine e_lstore G (pc := 73) (L' := [some (.ref 48), some (.int l1), some (.int l2), some (.int l3), some (.int l4), some (.int l5), some (.long v3), none]) dX11_wish_73 (Nat.le_of_ble_eq_true rfl) rfl ?_
    refine e_lload G (pc := 75) dX11_wish_75 rfl ?_
    refine e_lconst G (pc := 77) (v := 0) dX11_wish_77 (by decide) ?_
    refine e_ldc2 G (pc := 78) kl_X11_95 dX11_wish_78 ?_
    refine e_cSi G (pc := 81) (ci := 0) (id := 0) (sl := []) (As := [.long v3, .long 0, .long 4095]) (st := []) cs_X11_78 (c_X11_within w v3 0 4095 ) (Nat.le_of_ble_eq_true rfl) rfl (Nat.le_of_ble_eq_true rfl) dX11_wish_81 (fun r4 w5 => ?_)
    refine e_if_ne G (pc := 84) (tgt := 90) dX11_wish_84 (by decide) ?_ ?_
    · refine e_iload_n G (pc := 90) dX11_wish_90 rfl rfl ?_
      refine e_lload G (pc := 91) dX11_wish_91 rfl ?_
      refine e_l2i G (pc := 93) dX11_wish_93 ?_
      refine e_iand G (pc := 94) dX11_wish_94 ?_
      refine e_ti (fun v6 => ?_)
      refine e_istore_n G (pc := 95) (L' := [some (.ref 48), some (.int l1), some (.int l2), some (.int v6), some (.int l4), some (.int l5), some (.long v3), none]) dX11_wish_95 rfl (Nat.le_of_ble_eq_true rfl) rfl ?_
      refine e_iload G (pc := 96) dX11_wish_96 rfl ?_
      refine e_lload G (pc := 98) dX11_wish_98 rfl ?_
      refine e_l2i G (pc := 100) dX11_wish_100 ?_
      refine e_iconst G (pc := 101) (v := (-1)) dX11_wish_101 (by decide) ?_
      refine e_ixor G (pc := 102) dX11_wish_102 ?_
      refine e_iand G (pc := 103) dX11_wish_103 ?_
      refine e_ti (fun v7 => ?_)
      refine e_istore G (pc := 104) (L' := [some (.ref 48), some (.int l1), some (.int l2), some (.int v6), some (.int v7), some (.int l5), some (.long v3), none]) dX11_wish_104 (Nat.le_of_ble_eq_true rfl) rfl ?_
      refine e_iinc G (pc := 106) (x := l5) (v := l5 + 1) (L' := fun v8 => [some (.ref 48), some (.int l1), some (.int l2), some (.int v6), some (.int v7), some (.int v8), some (.long v3), none]) dX11_wish_106 (Nat.le_of_ble_eq_true rfl) rfl (by rfl) (fun _ => rfl) (fun v8 => ?_)
      refine e_goto G (pc := 109) (tgt := 50) dX11_wish_109 (by decide) ?_
      refine e_wk (L' := [some (.ref 48), some (.int l1), some (.int l2), some (.int v6), some (.int v7), some (.int v8), none, none]) (And.intro rfl (And.intro rfl (And.intro rfl (And.intro rfl (And.intro rfl (And.intro rfl (trivial))))))) ?_
      exact hk50 w5 l1 l2 v6 v7 v8 
    · refine e_bipush G (pc := 87) (v := (-2)) dX11_wish_87 (by decide) ?_
      exact e_iret dX11_wish_89
set_option maxRecDepth 100000 in
set_option maxHeartbeats 4000000 in
theorem t_X11_wish_R50 {E : qE} {Γ : qC} (G : q_Ok E Γ RX11 cX11_wish 8 (5)) : ∀ (fuel : Nat) (w : qW) (l1 : Int32) (l2 : Int32) (l3 : Int32) (l4 : Int32) (l5 : Int32) , q_Ev E Γ 8 (q_Fi E Γ cX11_wish) 50 [some (.ref 48), some (.int l1), some (.int l2), some (.int l3), some (.int l4), some (.int l5), none, none] [] w (f_X11_wish_R50 fuel w l1 l2 l3 l4 l5) := by
  intro fuel
  induction fuel with
  | zero => intros; exact e_none
  | succ fuel ih =>
    intro w l1 l2 l3 l4 l5 
    exact t_X11_wish_B50 G _ ih w l1 l2 l3 l4 l5 
set_option maxRecDepth 100000 in
set_option maxHeartbeats 4000000 in
theorem t_X11_wish {E : qE} {Γ : qC} (G : q_Ok E Γ RX11 cX11_wish 8 (5)) (w : qW) (a1 : Int32) (a2 : Int32) : q_Ev E Γ 8 (q_Fi E Γ cX11_wish) 0 [some (.ref 48), some (.int a1), some (.int a2), none, none, none, none, none] [] w (f_X11_wish w a1 a2) := by
  unfold f_X11_wish
  refine e_aload_n G (pc := 0) dX11_wish_0 rfl rfl ?_
  refine e_iload_n G (pc := 1) dX11_wish_1 rfl rfl ?_
  refine e_iconst G (pc := 2) (v := 1) dX11_wish_2 (by decide) ?_
  refine e_cVi G (pc := 3) (As := [.int a1, .int 1]) (st := []) cv_X11_245 (c_X11_rowIs w a1 1 ) sh_48 (Nat.le_of_ble_eq_true rfl) rfl (Nat.le_of_ble_eq_true rfl) dX11_wish_3 (fun r1 w2 => ?_)
  refine e_iconst G (pc := 6) (v := (-1)) dX11_wish_6 (by decide) ?_
  refine e_icmp_eq G (pc := 7) (tgt := 20) dX11_wish_7 (by decide) ?_ ?_
  · refine e_iconst G (pc := 20) (v := (-1)) dX11_wish_20 (by decide) ?_
    exact e_iret dX11_wish_21
  · refine e_iload_n G (pc := 10) dX11_wish_10 rfl rfl ?_
    refine e_i2l G (pc := 11) dX11_wish_11 ?_
    refine e_lconst G (pc := 12) (v := 0) dX11_wish_12 (by decide) ?_
    refine e_lconst G (pc := 13) (v := 1) dX11_wish_13 (by decide) ?_
    refine e_cSi G (pc := 14) (ci := 0) (id := 0) (sl := []) (As := [.long (Int32.toInt64 a2), .long 0, .long 1]) (st := []) cs_X11_78 (c_X11_within w2 (Int32.toInt64 a2) 0 1 ) (Nat.le_of_ble_eq_true rfl) rfl (Nat.le_of_ble_eq_true rfl) dX11_wish_14 (fun r3 w4 => ?_)
    refine e_if_ne G (pc := 17) (tgt := 22) dX11_wish_17 (by decide) ?_ ?_
    · refine e_aload_n G (pc := 22) dX11_wish_22 rfl rfl ?_
      refine e_iload_n G (pc := 23) dX11_wish_23 rfl rfl ?_
      refine e_iconst G (pc := 24) (v := 1) dX11_wish_24 (by decide) ?_
      refine e_cVi G (pc := 25) (As := [.int a1, .int 1]) (st := []) cv_X11_245 (c_X11_rowIs w4 a1 1 ) sh_48 (Nat.le_of_ble_eq_true rfl) rfl (Nat.le_of_ble_eq_true rfl) dX11_wish_25 (fun r5 w6 => ?_)
      refine e_if_ge G (pc := 28) (tgt := 38) dX11_wish_28 (by decide) ?_ ?_
      · refine e_sipush G (pc := 38) (v := 4095) dX11_wish_38 (by decide) ?_
        refine e_istore_n G (pc := 41) (L' := [some (.ref 48), some (.int a1), some (.int a2), some (.int 4095), none, none, none, none]) dX11_wish_41 rfl (Nat.le_of_ble_eq_true rfl) rfl ?_
        refine e_sipush G (pc := 42) (v := 4095) dX11_wish_42 (by decide) ?_
        refine e_istore G (pc := 45) (L' := [some (.ref 48), some (.int a1), some (.int a2), some (.int 4095), some (.int 4095), none, none, none]) dX11_wish_45 (Nat.le_of_ble_eq_true rfl) rfl ?_
        refine e_iconst G (pc := 47) (v := 0) dX11_wish_47 (by decide) ?_
        refine e_istore G (pc := 48) (L' := [some (.ref 48), some (.int a1), some (.int a2), some (.int 4095), some (.int 4095), some (.int 0), none, none]) dX11_wish_48 (Nat.le_of_ble_eq_true rfl) rfl ?_
        exact t_X11_wish_R50 G  q_fuel w6 a1 a2 4095 4095 0 
      · refine e_aload_n G (pc := 31) dX11_wish_31 rfl rfl ?_
        refine e_iload_n G (pc := 32) dX11_wish_32 rfl rfl ?_
        refine e_iconst G (pc := 33) (v := 1) dX11_wish_33 (by decide) ?_
        refine e_cVi G (pc := 34) (As := [.int a1, .int 1]) (st := []) cv_X11_245 (c_X11_rowIs w6 a1 1 ) sh_48 (Nat.le_of_ble_eq_true rfl) rfl (Nat.le_of_ble_eq_true rfl) dX11_wish_34 (fun r7 w8 => ?_)
        exact e_iret dX11_wish_37
    · refine e_iconst G (pc := 20) (v := (-1)) dX11_wish_20 (by decide) ?_
      exact e_iret dX11_wish_21
set_option maxRecDepth 100000 in
set_option maxHeartbeats 4000000 in
theorem c_X11_wish (w : qW) (a1 : Int32) (a2 : Int32) : q_AC q_vi (some .int) (5) yX11_wish cX11_wish 8 [.ref 48, .int a1, .int a2] w (f_X11_wish w a1 a2) := q_met_i (k := 5) (by decide +kernel) rfl rfl rfl (fun _ _ G => t_X11_wish G w a1 a2 )
set_option maxRecDepth 100000 in
set_option maxHeartbeats 4000000 in
theorem t_X11_givesAll_B5 {E : qE} {Γ : qC} (G : q_Ok E Γ RX11 cX11_givesAll 5 (107)) (k5 : qW → Int32 → Int32 → Int32 → Int32 → Option (Int32 × qW)) (hk5 : ∀ (w : qW) (l1 : Int32) (l2 : Int32) (l3 : Int32) (l4 : Int32), q_Ev E Γ 5 (q_Fi E Γ cX11_givesAll) 5 [some (.ref 48), some (.int l1), some (.int l2), some (.int l3), some (.int l4)] [] w (k5 w l1 l2 l3 l4)) (w : qW) (l1 : Int32) (l2 : Int32) (l3 : Int32) (l4 : Int32) : q_Ev E Γ 5 (q_Fi E Γ cX11_givesAll) 5 [some (.ref 48), some (.int l1), some (.int l2), some (.int l3), some (.int l4)] [] w (f_X11_givesAll_B5 k5 w l1 l2 l3 l4) := by
  unfold f_X11_givesAll_B5
  refine e_iload G (pc := 5) dX11_givesAll_5 rfl ?_
  refine e_aload_n G (pc := 7) dX11_givesAll_7 rfl rfl ?_
  refine e_getI G (pc := 8) sh_48 rfl lk_X11_82 dX11_givesAll_8 ?_
  refine e_icmp_ge G (pc := 11) (tgt := 39) dX11_givesAll_11 (by decide) ?_ ?_
  · refine e_iload_n G (pc := 39) dX11_givesAll_39 rfl rfl ?_
    exact e_iret dX11_givesAll_40
  · refine e_iload_n G (pc := 14) dX11_givesAll_14 rfl rfl ?_
    refine e_aload_n G (pc := 15) dX11_givesAll_15 rfl rfl ?_
    refine e_iload_n G (pc := 16) dX11_givesAll_16 rfl rfl ?_
    refine e_aload_n G (pc := 17) dX11_givesAll_17 rfl rfl ?_
    refine e_getF G (pc := 18) sh_48 rfl lk_X11_9 dX11_givesAll_18 ?_
    refine e_bipush G (pc := 21) (v := 32) dX11_givesAll_21 (by decide) ?_
    refine e_iload G (pc := 23) dX11_givesAll_23 rfl ?_
    refine e_iadd G (pc := 25) dX11_givesAll_25 ?_
    refine e_iald G (pc := 26) sh_49 dX11_givesAll_26 (fun v1 => ?_)
    refine e_iload_n G (pc := 27) dX11_givesAll_27 rfl rfl ?_
    refine e_cVi G (pc := 28) (As := [.int l1, .int v1, .int l2]) (st := [.int l3]) cv_X11_200 (c_X11_shadeBy w l1 v1 l2 ) sh_48 (Nat.le_of_ble_eq_true rfl) rfl (Nat.le_of_ble_eq_true rfl) dX11_givesAll_28 (fun r2 w3 => ?_)
    refine e_iadd G (pc := 31) dX11_givesAll_31 ?_
    refine e_ti (fun v4 => ?_)
    refine e_istore_n G (pc := 32) (L' := [some (.ref 48), some (.int l1), some (.int l2), some (.int v4), some (.int l4)]) dX11_givesAll_32 rfl (Nat.le_of_ble_eq_true rfl) rfl ?_
    refine e_iinc G (pc := 33) (x := l4) (v := l4 + 1) (L' := fun v5 => [some (.ref 48), some (.int l1), some (.int l2), some (.int v4), some (.int v5)]) dX11_givesAll_33 (Nat.le_of_ble_eq_true rfl) rfl (by rfl) (fun _ => rfl) (fun v5 => ?_)
    refine e_goto G (pc := 36) (tgt := 5) dX11_givesAll_36 (by decide) ?_
    exact hk5 w3 l1 l2 v4 v5 
set_option maxRecDepth 100000 in
set_option maxHeartbeats 4000000 in
theorem t_X11_givesAll_R5 {E : qE} {Γ : qC} (G : q_Ok E Γ RX11 cX11_givesAll 5 (107)) : ∀ (fuel : Nat) (w : qW) (l1 : Int32) (l2 : Int32) (l3 : Int32) (l4 : Int32) , q_Ev E Γ 5 (q_Fi E Γ cX11_givesAll) 5 [some (.ref 48), some (.int l1), some (.int l2), some (.int l3), some (.int l4)] [] w (f_X11_givesAll_R5 fuel w l1 l2 l3 l4) := by
  intro fuel
  induction fuel with
  | zero => intros; exact e_none
  | succ fuel ih =>
    intro w l1 l2 l3 l4 
    exact t_X11_givesAll_B5 G _ ih w l1 l2 l3 l4 
set_option maxRecDepth 100000 in
set_option maxHeartbeats 4000000 in
theorem t_X11_givesAll {E : qE} {Γ : qC} (G : q_Ok E Γ RX11 cX11_givesAll 5 (107)) (w : qW) (a1 : Int32) (a2 : Int32) : q_Ev E Γ 5 (q_Fi E Γ cX11_givesAll) 0 [some (.ref 48), some (.int a1), some (.int a2), none, none] [] w (f_X11_givesAll w a1 a2) := by
  unfold f_X11_givesAll
  refine e_iconst G (pc := 0) (v := 0) dX11_givesAll_0 (by decide) ?_
  refine e_istore_n G (pc := 1) (L' := [some (.ref 48), some (.int a1), some (.int a2), some (.int 0), none]) dX11_givesAll_1 rfl (Nat.le_of_ble_eq_true rfl) rfl ?_
  refine e_iconst G (pc := 2) (v := 0) dX11_givesAll_2 (by decide) ?_
  refine e_istore G (pc := 3) (L' := [some (.ref 48), some (.int a1), some (.int a2), some (.int 0), some (.int 0)]) dX11_givesAll_3 (Nat.le_of_ble_eq_true rfl) rfl ?_
  exact t_X11_givesAll_R5 G  q_fuel w a1 a2 0 0 
set_option maxRecDepth 100000 in
set_option maxHeartbeats 4000000 in
theorem c_X11_givesAll (w : qW) (a1 : Int32) (a2 : Int32) : q_AC q_vi (some .int) (107) yX11_givesAll cX11_givesAll 5 [.ref 48, .int a1, .int a2] w (f_X11_givesAll w a1 a2) := q_met_i (k := 2) (by decide +kernel) rfl rfl rfl (fun _ _ G => t_X11_givesAll G w a1 a2 )
set_option maxRecDepth 100000 in
set_option maxHeartbeats 4000000 in
theorem t_X11_share_B46 {E : qE} {Γ : qC} (G : q_Ok E Γ RX11 cX11_share 5 (108)) (k46 : qW → Int32 → Int32 → Int32 → Int32 → Option (Int32 × qW)) (hk46 : ∀ (w : qW) (l1 : Int32) (l2 : Int32) (l3 : Int32) (l4 : Int32), q_Ev E Γ 5 (q_Fi E Γ cX11_share) 46 [some (.ref 48), some (.int l1), some (.int l2), some (.int l3), some (.int l4)] [] w (k46 w l1 l2 l3 l4)) (w : qW) (l1 : Int32) (l2 : Int32) (l3 : Int32) (l4 : Int32) : q_Ev E Γ 5 (q_Fi E Γ cX11_share) 46 [some (.ref 48), some (.int l1), some (.int l2), some (.int l3), some (.int l4)] [] w (f_X11_share_B46 k46 w l1 l2 l3 l4) := by
  unfold f_X11_share_B46
  refine e_iload G (pc := 46) dX11_share_46 rfl ?_
  refine e_aload_n G (pc := 48) dX11_share_48 rfl rfl ?_
  refine e_getI G (pc := 49) sh_48 rfl lk_X11_75 dX11_share_49 ?_
  refine e_icmp_ge G (pc := 52) (tgt := 74) dX11_share_52 (by decide) ?_ ?_
  · refine e_iload_n G (pc := 74) dX11_share_74 rfl rfl ?_
    refine e_if_ne G (pc := 75) (tgt := 82) dX11_share_75 (by decide) ?_ ?_
    · refine e_iload_n G (pc := 82) dX11_share_82 rfl rfl ?_
      refine e_aload_n G (pc := 83) dX11_share_83 rfl rfl ?_
      refine e_iload_n G (pc := 84) dX11_share_84 rfl rfl ?_
      refine e_bipush G (pc := 85) (v := 100) dX11_share_85 (by decide) ?_
      refine e_idiv G (pc := 87) dX11_share_87 (by decide) ?_
      refine e_iload_n G (pc := 88) dX11_share_88 rfl rfl ?_
      refine e_bipush G (pc := 89) (v := 100) dX11_share_89 (by decide) ?_
      refine e_irem G (pc := 91) dX11_share_91 (by decide) ?_
      refine e_cVi G (pc := 92) (As := [.int (l1 / 100), .int (q_rem l1 100)]) (st := [.int l2]) cv_X11_253 (c_X11_givesAll w (l1 / 100) (q_rem l1 100) ) sh_48 (Nat.le_of_ble_eq_true rfl) rfl (Nat.le_of_ble_eq_true rfl) dX11_share_92 (fun r1 w2 => ?_)
      refine e_imul G (pc := 95) dX11_share_95 ?_
      refine e_iload_n G (pc := 96) dX11_share_96 rfl rfl ?_
      refine e_idiv_z G (pc := 97) dX11_share_97 ?_
      exact e_iret dX11_share_98
    · refine e_iconst G (pc := 78) (v := 0) dX11_share_78 (by decide) ?_
      refine e_goto G (pc := 79) (tgt := 98) dX11_share_79 (by decide) ?_
      exact e_iret dX11_share_98
  · refine e_iload_n G (pc := 55) dX11_share_55 rfl rfl ?_
    refine e_aload_n G (pc := 56) dX11_share_56 rfl rfl ?_
    refine e_iload G (pc := 57) dX11_share_57 rfl ?_
    refine e_iload_n G (pc := 59) dX11_share_59 rfl rfl ?_
    refine e_bipush G (pc := 60) (v := 100) dX11_share_60 (by decide) ?_
    refine e_irem G (pc := 62) dX11_share_62 (by decide) ?_
    refine e_cVi G (pc := 63) (As := [.int l4, .int (q_rem l1 100)]) (st := [.int l3]) cv_X11_253 (c_X11_givesAll w l4 (q_rem l1 100) ) sh_48 (Nat.le_of_ble_eq_true rfl) rfl (Nat.le_of_ble_eq_true rfl) dX11_share_63 (fun r3 w4 => ?_)
    refine e_iadd G (pc := 66) dX11_share_66 ?_
    refine e_ti (fun v5 => ?_)
    refine e_istore_n G (pc := 67) (L' := [some (.ref 48), some (.int l1), some (.int l2), some (.int v5), some (.int l4)]) dX11_share_67 rfl (Nat.le_of_ble_eq_true rfl) rfl ?_
    refine e_iinc G (pc := 68) (x := l4) (v := l4 + 1) (L' := fun v6 => [some (.ref 48), some (.int l1), some (.int l2), some (.int v5), some (.int v6)]) dX11_share_68 (Nat.le_of_ble_eq_true rfl) rfl (by rfl) (fun _ => rfl) (fun v6 => ?_)
    refine e_goto G (pc := 71) (tgt := 46) dX11_share_71 (by decide) ?_
    exact hk46 w4 l1 l2 v5 v6 
set_option maxRecDepth 100000 in
set_option maxHeartbeats 4000000 in
theorem t_X11_share_R46 {E : qE} {Γ : qC} (G : q_Ok E Γ RX11 cX11_share 5 (108)) : ∀ (fuel : Nat) (w : qW) (l1 : Int32) (l2 : Int32) (l3 : Int32) (l4 : Int32) , q_Ev E Γ 5 (q_Fi E Γ cX11_share) 46 [some (.ref 48), some (.int l1), some (.int l2), some (.int l3), some (.int l4)] [] w (f_X11_share_R46 fuel w l1 l2 l3 l4) := by
  intro fuel
  induction fuel with
  | zero => intros; exact e_none
  | succ fuel ih =>
    intro w l1 l2 l3 l4 
    exact t_X11_share_B46 G _ ih w l1 l2 l3 l4 
set_option maxRecDepth 100000 in
set_option maxHeartbeats 4000000 in
theorem t_X11_share {E : qE} {Γ : qC} (G : q_Ok E Γ RX11 cX11_share 5 (108)) (w : qW) (a1 : Int32) (a2 : Int32) : q_Ev E Γ 5 (q_Fi E Γ cX11_share) 0 [some (.ref 48), some (.int a1), some (.int a2), none, none] [] w (f_X11_share w a1 a2) := by
  unfold f_X11_share
  refine e_iload_n G (pc := 0) dX11_share_0 rfl rfl ?_
  refine e_if_lt G (pc := 1) (tgt := 39) dX11_share_1 (by decide) ?_ ?_
  · refine e_iconst G (pc := 39) (v := (-1)) dX11_share_39 (by decide) ?_
    exact e_iret dX11_share_40
  · refine e_aload_n G (pc := 4) dX11_share_4 rfl rfl ?_
    refine e_iload_n G (pc := 5) dX11_share_5 rfl rfl ?_
    refine e_bipush G (pc := 6) (v := 100) dX11_share_6 (by decide) ?_
    refine e_idiv G (pc := 8) dX11_share_8 (by decide) ?_
    refine e_i2l G (pc := 9) dX11_share_9 ?_
    refine e_cVi G (pc := 10) (As := [.long (Int32.toInt64 (a1 / 100))]) (st := []) cv_X11_116 (c_X11_isMan w (Int32.toInt64 (a1 / 100)) ) sh_48 (Nat.le_of_ble_eq_true rfl) rfl (Nat.le_of_ble_eq_true rfl) dX11_share_10 (fun r1 w2 => ?_)
    refine e_if_eq G (pc := 13) (tgt := 39) dX11_share_13 (by decide) ?_ ?_
    · refine e_iconst G (pc := 39) (v := (-1)) dX11_share_39 (by decide) ?_
      exact e_iret dX11_share_40
    · refine e_iload_n G (pc := 16) dX11_share_16 rfl rfl ?_
      refine e_bipush G (pc := 17) (v := 100) dX11_share_17 (by decide) ?_
      refine e_irem G (pc := 19) dX11_share_19 (by decide) ?_
      refine e_i2l G (pc := 20) dX11_share_20 ?_
      refine e_cSi G (pc := 21) (ci := 0) (id := 0) (sl := []) (As := [.long (Int32.toInt64 (q_rem a1 100))]) (st := []) cs_X11_204 (c_X11_isHour w2 (Int32.toInt64 (q_rem a1 100)) ) (Nat.le_of_ble_eq_true rfl) rfl (Nat.le_of_ble_eq_true rfl) dX11_share_21 (fun r3 w4 => ?_)
      refine e_if_eq G (pc := 24) (tgt := 39) dX11_share_24 (by decide) ?_ ?_
      · refine e_iconst G (pc := 39) (v := (-1)) dX11_share_39 (by decide) ?_
        exact e_iret dX11_share_40
      · refine e_iload_n G (pc := 27) dX11_share_27 rfl rfl ?_
        refine e_i2l G (pc := 28) dX11_share_28 ?_
        refine e_lconst G (pc := 29) (v := 0) dX11_share_29 (by decide) ?_
        refine e_ldc2 G (pc := 30) kl_X11_251 dX11_share_30 ?_
        refine e_cSi G (pc := 33) (ci := 0) (id := 0) (sl := []) (As := [.long (Int32.toInt64 a2), .long 0, .long 9999]) (st := []) cs_X11_78 (c_X11_within w4 (Int32.toInt64 a2) 0 9999 ) (Nat.le_of_ble_eq_true rfl) rfl (Nat.le_of_ble_eq_true rfl) dX11_share_33 (fun r5 w6 => ?_)
        refine e_if_ne G (pc := 36) (tgt := 41) dX11_share_36 (by decide) ?_ ?_
        · refine e_iconst G (pc := 41) (v := 0) dX11_share_41 (by decide) ?_
          refine e_istore_n G (pc := 42) (L' := [some (.ref 48), some (.int a1), some (.int a2), some (.int 0), none]) dX11_share_42 rfl (Nat.le_of_ble_eq_true rfl) rfl ?_
          refine e_iconst G (pc := 43) (v := 0) dX11_share_43 (by decide) ?_
          refine e_istore G (pc := 44) (L' := [some (.ref 48), some (.int a1), some (.int a2), some (.int 0), some (.int 0)]) dX11_share_44 (Nat.le_of_ble_eq_true rfl) rfl ?_
          exact t_X11_share_R46 G  q_fuel w6 a1 a2 0 0 
        · refine e_iconst G (pc := 39) (v := (-1)) dX11_share_39 (by decide) ?_
          exact e_iret dX11_share_40
set_option maxRecDepth 100000 in
set_option maxHeartbeats 4000000 in
theorem c_X11_share (w : qW) (a1 : Int32) (a2 : Int32) : q_AC q_vi (some .int) (108) yX11_share cX11_share 5 [.ref 48, .int a1, .int a2] w (f_X11_share w a1 a2) := q_met_i (k := 2) (by decide +kernel) rfl rfl rfl (fun _ _ G => t_X11_share G w a1 a2 )
set_option maxRecDepth 100000 in
set_option maxHeartbeats 4000000 in
theorem t_X11_late_B51 {E : qE} {Γ : qC} (G : q_Ok E Γ RX11 cX11_late 5 (109)) (k25 : qW → Int32 → Int32 → Int32 → Int32 → Option (Int32 × qW)) (hk25 : ∀ (w : qW) (l1 : Int32) (l2 : Int32) (l3 : Int32) (l4 : Int32), q_Ev E Γ 5 (q_Fi E Γ cX11_late) 25 [some (.ref 48), some (.int l1), some (.int l2), some (.int l3), some (.int l4)] [] w (k25 w l1 l2 l3 l4)) (w : qW) (l1 : Int32) (l2 : Int32) (l4 : Int32) (s0 : Int32) : q_Ev E Γ 5 (q_Fi E Γ cX11_late) 51 [some (.ref 48), some (.int l1), some (.int l2), none, some (.int l4)] [.int s0] w (f_X11_late_B51 k25 w l1 l2 l4 s0) := by
  unfold f_X11_late_B51
  refine e_istore_n G (pc := 51) (L' := [some (.ref 48), some (.int l1), some (.int l2), some (.int s0), some (.int l4)]) dX11_late_51 rfl (Nat.le_of_ble_eq_true rfl) rfl ?_
  refine e_iinc G (pc := 52) (x := l4) (v := l4 + 1) (L' := fun v1 => [some (.ref 48), some (.int l1), some (.int l2), some (.int s0), some (.int v1)]) dX11_late_52 (Nat.le_of_ble_eq_true rfl) rfl (by rfl) (fun _ => rfl) (fun v1 => ?_)
  refine e_goto G (pc := 55) (tgt := 25) dX11_late_55 (by decide) ?_
  exact hk25 w l1 l2 s0 v1 
set_option maxRecDepth 100000 in
set_option maxHeartbeats 4000000 in
theorem t_X11_late_B25 {E : qE} {Γ : qC} (G : q_Ok E Γ RX11 cX11_late 5 (109)) (k25 : qW → Int32 → Int32 → Int32 → Int32 → Option (Int32 × qW)) (hk25 : ∀ (w : qW) (l1 : Int32) (l2 : Int32) (l3 : Int32) (l4 : Int32), q_Ev E Γ 5 (q_Fi E Γ cX11_late) 25 [some (.ref 48), some (.int l1), some (.int l2), some (.int l3), some (.int l4)] [] w (k25 w l1 l2 l3 l4)) (w : qW) (l1 : Int32) (l2 : Int32) (l3 : Int32) (l4 : Int32) : q_Ev E Γ 5 (q_Fi E Γ cX11_late) 25 [some (.ref 48), some (.int l1), some (.int l2), some (.int l3), some (.int l4)] [] w (f_X11_late_B25 k25 w l1 l2 l3 l4) := by
  unfold f_X11_late_B25
  refine e_iload G (pc := 25) dX11_late_25 rfl ?_
  refine e_iload_n G (pc := 27) dX11_late_27 rfl rfl ?_
  refine e_icmp_gt G (pc := 28) (tgt := 58) dX11_late_28 (by decide) ?_ ?_
  · refine e_iload_n G (pc := 58) dX11_late_58 rfl rfl ?_
    exact e_iret dX11_late_59
  · refine e_aload_n G (pc := 31) dX11_late_31 rfl rfl ?_
    refine e_iload_n G (pc := 32) dX11_late_32 rfl rfl ?_
    refine e_iload G (pc := 33) dX11_late_33 rfl ?_
    refine e_aload_n G (pc := 35) dX11_late_35 rfl rfl ?_
    refine e_cVi G (pc := 36) (As := []) (st := [.int l4, .int l1, .ref 48]) cv_X11_207 (c_X11_everybody w  ) sh_48 (Nat.le_of_ble_eq_true rfl) rfl (Nat.le_of_ble_eq_true rfl) dX11_late_36 (fun r1 w2 => ?_)
    refine e_cVi G (pc := 39) (As := [.int l1, .int l4, .int r1]) (st := []) cv_X11_216 (c_X11_isServed w2 l1 l4 r1 ) sh_48 (Nat.le_of_ble_eq_true rfl) rfl (Nat.le_of_ble_eq_true rfl) dX11_late_39 (fun r3 w4 => ?_)
    refine e_if_eq G (pc := 42) (tgt := 50) dX11_late_42 (by decide) ?_ ?_
    · refine e_iload_n G (pc := 50) dX11_late_50 rfl rfl ?_
      refine e_wk (L' := [some (.ref 48), some (.int l1), some (.int l2), none, some (.int l4)]) (And.intro rfl (And.intro rfl (And.intro rfl (And.intro rfl (trivial))))) ?_
      exact t_X11_late_B51 G k25 hk25 w4 l1 l2 l4 l3 
    · refine e_iload G (pc := 45) dX11_late_45 rfl ?_
      refine e_goto G (pc := 47) (tgt := 51) dX11_late_47 (by decide) ?_
      refine e_wk (L' := [some (.ref 48), some (.int l1), some (.int l2), none, some (.int l4)]) (And.intro rfl (And.intro rfl (And.intro rfl (And.intro rfl (trivial))))) ?_
      exact t_X11_late_B51 G k25 hk25 w4 l1 l2 l4 l4 
set_option maxRecDepth 100000 in
set_option maxHeartbeats 4000000 in
theorem t_X11_late_R25 {E : qE} {Γ : qC} (G : q_Ok E Γ RX11 cX11_late 5 (109)) : ∀ (fuel : Nat) (w : qW) (l1 : Int32) (l2 : Int32) (l3 : Int32) (l4 : Int32) , q_Ev E Γ 5 (q_Fi E Γ cX11_late) 25 [some (.ref 48), some (.int l1), some (.int l2), some (.int l3), some (.int l4)] [] w (f_X11_late_R25 fuel w l1 l2 l3 l4) := by
  intro fuel
  induction fuel with
  | zero => intros; exact e_none
  | succ fuel ih =>
    intro w l1 l2 l3 l4 
    exact t_X11_late_B25 G _ ih w l1 l2 l3 l4 
set_option maxRecDepth 100000 in
set_option maxHeartbeats 4000000 in
theorem t_X11_late {E : qE} {Γ : qC} (G : q_Ok E Γ RX11 cX11_late 5 (109)) (w : qW) (a1 : Int32) (a2 : Int32) : q_Ev E Γ 5 (q_Fi E Γ cX11_late) 0 [some (.ref 48), some (.int a1), some (.int a2), none, none] [] w (f_X11_late w a1 a2) := by
  unfold f_X11_late
  refine e_aload_n G (pc := 0) dX11_late_0 rfl rfl ?_
  refine e_iload_n G (pc := 1) dX11_late_1 rfl rfl ?_
  refine e_i2l G (pc := 2) dX11_late_2 ?_
  refine e_cVi G (pc := 3) (As := [.long (Int32.toInt64 a1)]) (st := []) cv_X11_121 (c_X11_isSitter w (Int32.toInt64 a1) ) sh_48 (Nat.le_of_ble_eq_true rfl) rfl (Nat.le_of_ble_eq_true rfl) dX11_late_3 (fun r1 w2 => ?_)
  refine e_if_eq G (pc := 6) (tgt := 17) dX11_late_6 (by decide) ?_ ?_
  · refine e_iconst G (pc := 17) (v := (-1)) dX11_late_17 (by decide) ?_
    exact e_iret dX11_late_18
  · refine e_iload_n G (pc := 9) dX11_late_9 rfl rfl ?_
    refine e_i2l G (pc := 10) dX11_late_10 ?_
    refine e_cSi G (pc := 11) (ci := 0) (id := 0) (sl := []) (As := [.long (Int32.toInt64 a2)]) (st := []) cs_X11_204 (c_X11_isHour w2 (Int32.toInt64 a2) ) (Nat.le_of_ble_eq_true rfl) rfl (Nat.le_of_ble_eq_true rfl) dX11_late_11 (fun r3 w4 => ?_)
    refine e_if_ne G (pc := 14) (tgt := 19) dX11_late_14 (by decide) ?_ ?_
    · refine e_bipush G (pc := 19) (v := (-2)) dX11_late_19 (by decide) ?_
      refine e_istore_n G (pc := 21) (L' := [some (.ref 48), some (.int a1), some (.int a2), some (.int (-2)), none]) dX11_late_21 rfl (Nat.le_of_ble_eq_true rfl) rfl ?_
      refine e_iconst G (pc := 22) (v := 0) dX11_late_22 (by decide) ?_
      refine e_istore G (pc := 23) (L' := [some (.ref 48), some (.int a1), some (.int a2), some (.int (-2)), some (.int 0)]) dX11_late_23 (Nat.le_of_ble_eq_true rfl) rfl ?_
      exact t_X11_late_R25 G  q_fuel w4 a1 a2 (-2) 0 
    · refine e_iconst G (pc := 17) (v := (-1)) dX11_late_17 (by decide) ?_
      exact e_iret dX11_late_18
set_option maxRecDepth 100000 in
set_option maxHeartbeats 4000000 in
theorem c_X11_late (w : qW) (a1 : Int32) (a2 : Int32) : q_AC q_vi (some .int) (109) yX11_late cX11_late 5 [.ref 48, .int a1, .int a2] w (f_X11_late w a1 a2) := q_met_i (k := 2) (by decide +kernel) rfl rfl rfl (fun _ _ G => t_X11_late G w a1 a2 )
set_option maxRecDepth 100000 in
set_option maxHeartbeats 4000000 in
theorem t_X11_isShadedFrom_B129 {n : Nat} {E : qE} {Γ : qC} {r_X11_isShadedFrom : qW → Int32 → Int32 → Int32 → Int32 → Int32 → Option (Int32 × qW)} (G : q_Ok E Γ RX11 cX11_isShadedFrom 12 (109 + n + 1)) (hr_X11_isShadedFrom : ∀ (w : qW) (a1 : Int32) (a2 : Int32) (a3 : Int32) (a4 : Int32) (a5 : Int32), q_AC q_vi (some .boolean) (109 + n) yX11_isShadedFrom cX11_isShadedFrom 12 [.ref 48, .int a1, .int a2, .int a3, .int a4, .int a5] w (r_X11_isShadedFrom w a1 a2 a3 a4 a5)) (w : qW) (l6 : Int32) (l7 : Int32) (l8 : Int32) (l9 : Int32) : q_Ev E Γ 12 (q_Fz E Γ cX11_isShadedFrom) 129 [some (.ref 48), none, none, none, none, none, some (.int l6), some (.int l7), some (.int l8), some (.int l9), none, none] [] w (f_X11_isShadedFrom_B129 r_X11_isShadedFrom w l6 l7 l8 l9) := by
  unfold f_X11_isShadedFrom_B129
  refine e_aload_n G (pc := 129) dX11_isShadedFrom_129 rfl rfl ?_
  refine e_getF G (pc := 130) sh_48 rfl lk_X11_9 dX11_isShadedFrom_130 ?_
  refine e_iload G (pc := 133) dX11_isShadedFrom_133 rfl ?_
  refine e_iload G (pc := 135) dX11_isShadedFrom_135 rfl ?_
  refine e_iast G (pc := 137) sh_49 dX11_isShadedFrom_137 (fun w1 => ?_)
  refine e_iload G (pc := 138) dX11_isShadedFrom_138 rfl ?_
  refine e_iload G (pc := 140) dX11_isShadedFrom_140 rfl ?_
  refine e_icmp_ne G (pc := 142) (tgt := 149) dX11_isShadedFrom_142 (by decide) ?_ ?_
  · refine e_iconst G (pc := 149) (v := 0) dX11_isShadedFrom_149 (by decide) ?_
    exact e_zret dX11_isShadedFrom_150
  · refine e_iconst G (pc := 145) (v := 1) dX11_isShadedFrom_145 (by decide) ?_
    refine e_goto G (pc := 146) (tgt := 150) dX11_isShadedFrom_146 (by decide) ?_
    exact e_zret dX11_isShadedFrom_150
set_option maxRecDepth 100000 in
set_option maxHeartbeats 4000000 in
theorem t_X11_isShadedFrom_B123 {n : Nat} {E : qE} {Γ : qC} {r_X11_isShadedFrom : qW → Int32 → Int32 → Int32 → Int32 → Int32 → Option (Int32 × qW)} (G : q_Ok E Γ RX11 cX11_isShadedFrom 12 (109 + n + 1)) (hr_X11_isShadedFrom : ∀ (w : qW) (a1 : Int32) (a2 : Int32) (a3 : Int32) (a4 : Int32) (a5 : Int32), q_AC q_vi (some .boolean) (109 + n) yX11_isShadedFrom cX11_isShadedFrom 12 [.ref 48, .int a1, .int a2, .int a3, .int a4, .int a5] w (r_X11_isShadedFrom w a1 a2 a3 a4 a5)) (k64 : qW → Int32 → Int32 → Int32 → Int32 → Int32 → Int32 → Int32 → Int32 → Int32 → Int32 → Option (Int32 × qW)) (hk64 : ∀ (w : qW) (l1 : Int32) (l2 : Int32) (l3 : Int32) (l4 : Int32) (l5 : Int32) (l6 : Int32) (l7 : Int32) (l8 : Int32) (l9 : Int32) (l10 : Int32), q_Ev E Γ 12 (q_Fz E Γ cX11_isShadedFrom) 64 [some (.ref 48), some (.int l1), some (.int l2), some (.int l3), some (.int l4), some (.int l5), some (.int l6), some (.int l7), some (.int l8), some (.int l9), some (.int l10), none] [] w (k64 w l1 l2 l3 l4 l5 l6 l7 l8 l9 l10)) (w : qW) (l1 : Int32) (l2 : Int32) (l3 : Int32) (l4 : Int32) (l5 : Int32) (l6 : Int32) (l7 : Int32) (l8 : Int32) (l9 : Int32) (l10 : Int32) : q_Ev E Γ 12 (q_Fz E Γ cX11_isShadedFrom) 123 [some (.ref 48), some (.int l1), some (.int l2), some (.int l3), some (.int l4), some (.int l5), some (.int l6), some (.int l7), some (.int l8), some (.int l9), some (.int l10), none] [] w (f_X11_isShadedFrom_B123 r_X11_isShadedFrom k64 w l1 l2 l3 l4 l5 l6 l7 l8 l9 l10) := by
  unfold f_X11_isShadedFrom_B123
  refine e_iinc G (pc := 123) (x := l10) (v := l10 + 1) (L' := fun v1 => [some (.ref 48), some (.int l1), some (.int l2), some (.int l3), some (.int l4), some (.int l5), some (.int l6), some (.int l7), some (.int l8), some (.int l9), some (.int v1), none]) dX11_isShadedFrom_123 (Nat.le_of_ble_eq_true rfl) rfl (by rfl) (fun _ => rfl) (fun v1 => ?_)
  refine e_goto G (pc := 126) (tgt := 64) dX11_isShadedFrom_126 (by decide) ?_
  exact hk64 w l1 l2 l3 l4 l5 l6 l7 l8 l9 v1 
set_option maxRecDepth 100000 in
set_option maxHeartbeats 4000000 in
theorem t_X11_isShadedFrom_B121 {n : Nat} {E : qE} {Γ : qC} {r_X11_isShadedFrom : qW → Int32 → Int32 → Int32 → Int32 → Int32 → Option (Int32 × qW)} (G : q_Ok E Γ RX11 cX11_isShadedFrom 12 (109 + n + 1)) (hr_X11_isShadedFrom : ∀ (w : qW) (a1 : Int32) (a2 : Int32) (a3 : Int32) (a4 : Int32) (a5 : Int32), q_AC q_vi (some .boolean) (109 + n) yX11_isShadedFrom cX11_isShadedFrom 12 [.ref 48, .int a1, .int a2, .int a3, .int a4, .int a5] w (r_X11_isShadedFrom w a1 a2 a3 a4 a5)) (k64 : qW → Int32 → Int32 → Int32 → Int32 → Int32 → Int32 → Int32 → Int32 → Int32 → Int32 → Option (Int32 × qW)) (hk64 : ∀ (w : qW) (l1 : Int32) (l2 : Int32) (l3 : Int32) (l4 : Int32) (l5 : Int32) (l6 : Int32) (l7 : Int32) (l8 : Int32) (l9 : Int32) (l10 : Int32), q_Ev E Γ 12 (q_Fz E Γ cX11_isShadedFrom) 64 [some (.ref 48), some (.int l1), some (.int l2), some (.int l3), some (.int l4), some (.int l5), some (.int l6), some (.int l7), some (.int l8), some (.int l9), some (.int l10), none] [] w (k64 w l1 l2 l3 l4 l5 l6 l7 l8 l9 l10)) (w : qW) (l1 : Int32) (l2 : Int32) (l3 : Int32) (l4 : Int32) (l5 : Int32) (l6 : Int32) (l7 : Int32) (l8 : Int32) (l10 : Int32) (s0 : Int32) : q_Ev E Γ 12 (q_Fz E Γ cX11_isShadedFrom) 121 [some (.ref 48), some (.int l1), some (.int l2), some (.int l3), some (.int l4), some (.int l5), some (.int l6), some (.int l7), some (.int l8), none, some (.int l10), none] [.int s0] w (f_X11_isShadedFrom_B121 r_X11_isShadedFrom k64 w l1 l2 l3 l4 l5 l6 l7 l8 l10 s0) := by
  unfold f_X11_isShadedFrom_B121
  refine e_istore G (pc := 121) (L' := [some (.ref 48), some (.int l1), some (.int l2), some (.int l3), some (.int l4), some (.int l5), some (.int l6), some (.int l7), some (.int l8), some (.int s0), some (.int l10), none]) dX11_isShadedFrom_121 (Nat.le_of_ble_eq_true rfl) rfl ?_
  exact t_X11_isShadedFrom_B123 G hr_X11_isShadedFrom k64 hk64 w l1 l2 l3 l4 l5 l6 l7 l8 s0 l10 
set_option maxRecDepth 100000 in
set_option maxHeartbeats 4000000 in
theorem t_X11_isShadedFrom_B64 {n : Nat} {E : qE} {Γ : qC} {r_X11_isShadedFrom : qW → Int32 → Int32 → Int32 → Int32 → Int32 → Option (Int32 × qW)} (G : q_Ok E Γ RX11 cX11_isShadedFrom 12 (109 + n + 1)) (hr_X11_isShadedFrom : ∀ (w : qW) (a1 : Int32) (a2 : Int32) (a3 : Int32) (a4 : Int32) (a5 : Int32), q_AC q_vi (some .boolean) (109 + n) yX11_isShadedFrom cX11_isShadedFrom 12 [.ref 48, .int a1, .int a2, .int a3, .int a4, .int a5] w (r_X11_isShadedFrom w a1 a2 a3 a4 a5)) (k64 : qW → Int32 → Int32 → Int32 → Int32 → Int32 → Int32 → Int32 → Int32 → Int32 → Int32 → Option (Int32 × qW)) (hk64 : ∀ (w : qW) (l1 : Int32) (l2 : Int32) (l3 : Int32) (l4 : Int32) (l5 : Int32) (l6 : Int32) (l7 : Int32) (l8 : Int32) (l9 : Int32) (l10 : Int32), q_Ev E Γ 12 (q_Fz E Γ cX11_isShadedFrom) 64 [some (.ref 48), some (.int l1), some (.int l2), some (.int l3), some (.int l4), some (.int l5), some (.int l6), some (.int l7), some (.int l8), some (.int l9), some (.int l10), none] [] w (k64 w l1 l2 l3 l4 l5 l6 l7 l8 l9 l10)) (w : qW) (l1 : Int32) (l2 : Int32) (l3 : Int32) (l4 : Int32) (l5 : Int32) (l6 : Int32) (l7 : Int32) (l8 : Int32) (l9 : Int32) (l10 : Int32) : q_Ev E Γ 12 (q_Fz E Γ cX11_isShadedFrom) 64 [some (.ref 48), some (.int l1), some (.int l2), some (.int l3), some (.int l4), some (.int l5), some (.int l6), some (.int l7), some (.int l8), some (.int l9), some (.int l10), none] [] w (f_X11_isShadedFrom_B64 r_X11_isShadedFrom k64 w l1 l2 l3 l4 l5 l6 l7 l8 l9 l10) := by
  unfold f_X11_isShadedFrom_B64
  refine e_iload G (pc := 64) dX11_isShadedFrom_64 rfl ?_
  refine e_iconst G (pc := 66) (v := 4) dX11_isShadedFrom_66 (by decide) ?_
  refine e_icmp_gt G (pc := 67) (tgt := 129) dX11_isShadedFrom_67 (by decide) ?_ ?_
  · refine e_wk (L' := [some (.ref 48), none, none, none, none, none, some (.int l6), some (.int l7), some (.int l8), some (.int l9), none, none]) (And.intro rfl (And.intro rfl (And.intro rfl (And.intro rfl (And.intro rfl (trivial)))))) ?_
    exact t_X11_isShadedFrom_B129 G hr_X11_isShadedFrom w l6 l7 l8 l9 
  · refine e_iload G (pc := 70) dX11_isShadedFrom_70 rfl ?_
    refine e_if_ne G (pc := 72) (tgt := 129) dX11_isShadedFrom_72 (by decide) ?_ ?_
    · refine e_wk (L' := [some (.ref 48), none, none, none, none, none, some (.int l6), some (.int l7), some (.int l8), some (.int l9), none, none]) (And.intro rfl (And.intro rfl (And.intro rfl (And.intro rfl (And.intro rfl (trivial)))))) ?_
      exact t_X11_isShadedFrom_B129 G hr_X11_isShadedFrom w l6 l7 l8 l9 
    · refine e_iload G (pc := 75) dX11_isShadedFrom_75 rfl ?_
      refine e_iload G (pc := 77) dX11_isShadedFrom_77 rfl ?_
      refine e_cSi G (pc := 79) (ci := 0) (id := 0) (sl := []) (As := [.int l8, .int l10]) (st := []) cs_X11_242 (c_X11_stepFrom w l8 l10 ) (by omega) rfl (Nat.le_of_ble_eq_true rfl) dX11_isShadedFrom_79 (fun r1 w2 => ?_)
      refine e_istore G (pc := 82) (L' := [some (.ref 48), some (.int l1), some (.int l2), some (.int l3), some (.int l4), some (.int l5), some (.int l6), some (.int l7), some (.int l8), some (.int l9), some (.int l10), some (.int r1)]) dX11_isShadedFrom_82 (Nat.le_of_ble_eq_true rfl) rfl ?_
      refine e_iload G (pc := 84) dX11_isShadedFrom_84 rfl ?_
      refine e_if_lt G (pc := 86) (tgt := 123) dX11_isShadedFrom_86 (by decide) ?_ ?_
      · refine e_wk (L' := [some (.ref 48), some (.int l1), some (.int l2), some (.int l3), some (.int l4), some (.int l5), some (.int l6), some (.int l7), some (.int l8), some (.int l9), some (.int l10), none]) (And.intro rfl (And.intro rfl (And.intro rfl (And.intro rfl (And.intro rfl (And.intro rfl (And.intro rfl (And.intro rfl (And.intro rfl (And.intro rfl (And.intro rfl (trivial)))))))))))) ?_
        exact t_X11_isShadedFrom_B123 G hr_X11_isShadedFrom k64 hk64 w2 l1 l2 l3 l4 l5 l6 l7 l8 l9 l10 
      · refine e_aload_n G (pc := 89) dX11_isShadedFrom_89 rfl rfl ?_
        refine e_getF G (pc := 90) sh_48 rfl lk_X11_9 dX11_isShadedFrom_90 ?_
        refine e_iload G (pc := 93) dX11_isShadedFrom_93 rfl ?_
        refine e_iload G (pc := 95) dX11_isShadedFrom_95 rfl ?_
        refine e_iast G (pc := 97) sh_49 dX11_isShadedFrom_97 (fun w3 => ?_)
        refine e_aload_n G (pc := 98) dX11_isShadedFrom_98 rfl rfl ?_
        refine e_iload_n G (pc := 99) dX11_isShadedFrom_99 rfl rfl ?_
        refine e_iload_n G (pc := 100) dX11_isShadedFrom_100 rfl rfl ?_
        refine e_iload_n G (pc := 101) dX11_isShadedFrom_101 rfl rfl ?_
        refine e_iload G (pc := 102) dX11_isShadedFrom_102 rfl ?_
        refine e_iconst G (pc := 104) (v := 1) dX11_isShadedFrom_104 (by decide) ?_
        refine e_iadd G (pc := 105) dX11_isShadedFrom_105 ?_
        refine e_iload G (pc := 106) dX11_isShadedFrom_106 rfl ?_
        refine e_cVi G (pc := 108) (As := [.int l1, .int l2, .int l3, .int (l4 + 1), .int l5]) (st := []) cv_X11_256 (hr_X11_isShadedFrom w3 l1 l2 l3 (l4 + 1) l5 ) sh_48 (by omega) rfl (Nat.le_of_ble_eq_true rfl) dX11_isShadedFrom_108 (fun r4 w5 => ?_)
        refine e_iload G (pc := 111) dX11_isShadedFrom_111 rfl ?_
        refine e_icmp_ne G (pc := 113) (tgt := 120) dX11_isShadedFrom_113 (by decide) ?_ ?_
        · refine e_iconst G (pc := 120) (v := 0) dX11_isShadedFrom_120 (by decide) ?_
          refine e_wk (L' := [some (.ref 48), some (.int l1), some (.int l2), some (.int l3), some (.int l4), some (.int l5), some (.int l6), some (.int l7), some (.int l8), none, some (.int l10), none]) (And.intro rfl (And.intro rfl (And.intro rfl (And.intro rfl (And.intro rfl (And.intro rfl (And.intro rfl (And.intro rfl (And.intro rfl (And.intro rfl (trivial))))))))))) ?_
          exact t_X11_isShadedFrom_B121 G hr_X11_isShadedFrom k64 hk64 w5 l1 l2 l3 l4 l5 l6 l7 l8 l10 0 
        · refine e_iconst G (pc := 116) (v := 1) dX11_isShadedFrom_116 (by decide) ?_
          refine e_goto G (pc := 117) (tgt := 121) dX11_isShadedFrom_117 (by decide) ?_
          refine e_wk (L' := [some (.ref 48), some (.int l1), some (.int l2), some (.int l3), some (.int l4), some (.int l5), some (.int l6), some (.int l7), some (.int l8), none, some (.int l10), none]) (And.intro rfl (And.intro rfl (And.intro rfl (And.intro rfl (And.intro rfl (And.intro rfl (And.intro rfl (And.intro rfl (And.intro rfl (And.intro rfl (trivial))))))))))) ?_
          exact t_X11_isShadedFrom_B121 G hr_X11_isShadedFrom k64 hk64 w5 l1 l2 l3 l4 l5 l6 l7 l8 l10 1 
set_option maxRecDepth 100000 in
set_option maxHeartbeats 4000000 in
theorem t_X11_isShadedFrom_R64 {n : Nat} {E : qE} {Γ : qC} {r_X11_isShadedFrom : qW → Int32 → Int32 → Int32 → Int32 → Int32 → Option (Int32 × qW)} (G : q_Ok E Γ RX11 cX11_isShadedFrom 12 (109 + n + 1)) (hr_X11_isShadedFrom : ∀ (w : qW) (a1 : Int32) (a2 : Int32) (a3 : Int32) (a4 : Int32) (a5 : Int32), q_AC q_vi (some .boolean) (109 + n) yX11_isShadedFrom cX11_isShadedFrom 12 [.ref 48, .int a1, .int a2, .int a3, .int a4, .int a5] w (r_X11_isShadedFrom w a1 a2 a3 a4 a5)) : ∀ (fuel : Nat) (w : qW) (l1 : Int32) (l2 : Int32) (l3 : Int32) (l4 : Int32) (l5 : Int32) (l6 : Int32) (l7 : Int32) (l8 : Int32) (l9 : Int32) (l10 : Int32) , q_Ev E Γ 12 (q_Fz E Γ cX11_isShadedFrom) 64 [some (.ref 48), some (.int l1), some (.int l2), some (.int l3), some (.int l4), some (.int l5), some (.int l6), some (.int l7), some (.int l8), some (.int l9), some (.int l10), none] [] w (f_X11_isShadedFrom_R64 r_X11_isShadedFrom fuel w l1 l2 l3 l4 l5 l6 l7 l8 l9 l10) := by
  intro fuel
  induction fuel with
  | zero => intros; exact e_none
  | succ fuel ih =>
    intro w l1 l2 l3 l4 l5 l6 l7 l8 l9 l10 
    exact t_X11_isShadedFrom_B64 G hr_X11_isShadedFrom _ ih w l1 l2 l3 l4 l5 l6 l7 l8 l9 l10 
set_option maxRecDepth 100000 in
set_option maxHeartbeats 4000000 in
theorem t_X11_isShadedFrom_B47 {n : Nat} {E : qE} {Γ : qC} {r_X11_isShadedFrom : qW → Int32 → Int32 → Int32 → Int32 → Int32 → Option (Int32 × qW)} (G : q_Ok E Γ RX11 cX11_isShadedFrom 12 (109 + n + 1)) (hr_X11_isShadedFrom : ∀ (w : qW) (a1 : Int32) (a2 : Int32) (a3 : Int32) (a4 : Int32) (a5 : Int32), q_AC q_vi (some .boolean) (109 + n) yX11_isShadedFrom cX11_isShadedFrom 12 [.ref 48, .int a1, .int a2, .int a3, .int a4, .int a5] w (r_X11_isShadedFrom w a1 a2 a3 a4 a5)) (w : qW) (l1 : Int32) (l2 : Int32) (l3 : Int32) (l4 : Int32) (l5 : Int32) (l6 : Int32) (s0 : Int32) : q_Ev E Γ 12 (q_Fz E Γ cX11_isShadedFrom) 47 [some (.ref 48), some (.int l1), some (.int l2), some (.int l3), some (.int l4), some (.int l5), some (.int l6), none, none, none, none, none] [.int s0] w (f_X11_isShadedFrom_B47 r_X11_isShadedFrom w l1 l2 l3 l4 l5 l6 s0) := by
  unfold f_X11_isShadedFrom_B47
  refine e_istore G (pc := 47) (L' := [some (.ref 48), some (.int l1), some (.int l2), some (.int l3), some (.int l4), some (.int l5), some (.int l6), some (.int s0), none, none, none, none]) dX11_isShadedFrom_47 (Nat.le_of_ble_eq_true rfl) rfl ?_
  refine e_aload_n G (pc := 49) dX11_isShadedFrom_49 rfl rfl ?_
  refine e_getF G (pc := 50) sh_48 rfl lk_X11_9 dX11_isShadedFrom_50 ?_
  refine e_iload G (pc := 53) dX11_isShadedFrom_53 rfl ?_
  refine e_iald G (pc := 55) sh_49 dX11_isShadedFrom_55 (fun v1 => ?_)
  refine e_istore G (pc := 56) (L' := [some (.ref 48), some (.int l1), some (.int l2), some (.int l3), some (.int l4), some (.int l5), some (.int l6), some (.int s0), some (.int v1), none, none, none]) dX11_isShadedFrom_56 (Nat.le_of_ble_eq_true rfl) rfl ?_
  refine e_iconst G (pc := 58) (v := 0) dX11_isShadedFrom_58 (by decide) ?_
  refine e_istore G (pc := 59) (L' := [some (.ref 48), some (.int l1), some (.int l2), some (.int l3), some (.int l4), some (.int l5), some (.int l6), some (.int s0), some (.int v1), some (.int 0), none, none]) dX11_isShadedFrom_59 (Nat.le_of_ble_eq_true rfl) rfl ?_
  refine e_iconst G (pc := 61) (v := 0) dX11_isShadedFrom_61 (by decide) ?_
  refine e_istore G (pc := 62) (L' := [some (.ref 48), some (.int l1), some (.int l2), some (.int l3), some (.int l4), some (.int l5), some (.int l6), some (.int s0), some (.int v1), some (.int 0), some (.int 0), none]) dX11_isShadedFrom_62 (Nat.le_of_ble_eq_true rfl) rfl ?_
  exact t_X11_isShadedFrom_R64 G hr_X11_isShadedFrom  q_fuel w l1 l2 l3 l4 l5 l6 s0 v1 0 0 
set_option maxRecDepth 100000 in
set_option maxHeartbeats 4000000 in
theorem t_X11_isShadedFrom_B33 {n : Nat} {E : qE} {Γ : qC} {r_X11_isShadedFrom : qW → Int32 → Int32 → Int32 → Int32 → Int32 → Option (Int32 × qW)} (G : q_Ok E Γ RX11 cX11_isShadedFrom 12 (109 + n + 1)) (hr_X11_isShadedFrom : ∀ (w : qW) (a1 : Int32) (a2 : Int32) (a3 : Int32) (a4 : Int32) (a5 : Int32), q_AC q_vi (some .boolean) (109 + n) yX11_isShadedFrom cX11_isShadedFrom 12 [.ref 48, .int a1, .int a2, .int a3, .int a4, .int a5] w (r_X11_isShadedFrom w a1 a2 a3 a4 a5)) (w : qW) (l1 : Int32) (l2 : Int32) (l3 : Int32) (l4 : Int32) (l5 : Int32) (s0 : Int32) : q_Ev E Γ 12 (q_Fz E Γ cX11_isShadedFrom) 33 [some (.ref 48), some (.int l1), some (.int l2), some (.int l3), some (.int l4), some (.int l5), none, none, none, none, none, none] [.int s0] w (f_X11_isShadedFrom_B33 r_X11_isShadedFrom w l1 l2 l3 l4 l5 s0) := by
  unfold f_X11_isShadedFrom_B33
  refine e_istore G (pc := 33) (L' := [some (.ref 48), some (.int l1), some (.int l2), some (.int l3), some (.int l4), some (.int l5), some (.int s0), none, none, none, none, none]) dX11_isShadedFrom_33 (Nat.le_of_ble_eq_true rfl) rfl ?_
  refine e_iload G (pc := 35) dX11_isShadedFrom_35 rfl ?_
  refine e_iconst G (pc := 37) (v := 2) dX11_isShadedFrom_37 (by decide) ?_
  refine e_irem G (pc := 38) dX11_isShadedFrom_38 (by decide) ?_
  refine e_if_ne G (pc := 39) (tgt := 46) dX11_isShadedFrom_39 (by decide) ?_ ?_
  · refine e_iconst G (pc := 46) (v := 0) dX11_isShadedFrom_46 (by decide) ?_
    exact t_X11_isShadedFrom_B47 G hr_X11_isShadedFrom w l1 l2 l3 l4 l5 s0 0 
  · refine e_iconst G (pc := 42) (v := 1) dX11_isShadedFrom_42 (by decide) ?_
    refine e_goto G (pc := 43) (tgt := 47) dX11_isShadedFrom_43 (by decide) ?_
    exact t_X11_isShadedFrom_B47 G hr_X11_isShadedFrom w l1 l2 l3 l4 l5 s0 1 
set_option maxRecDepth 100000 in
set_option maxHeartbeats 4000000 in
theorem t_X11_isShadedFrom {n : Nat} {E : qE} {Γ : qC} {r_X11_isShadedFrom : qW → Int32 → Int32 → Int32 → Int32 → Int32 → Option (Int32 × qW)} (G : q_Ok E Γ RX11 cX11_isShadedFrom 12 (109 + n + 1)) (hr_X11_isShadedFrom : ∀ (w : qW) (a1 : Int32) (a2 : Int32) (a3 : Int32) (a4 : Int32) (a5 : Int32), q_AC q_vi (some .boolean) (109 + n) yX11_isShadedFrom cX11_isShadedFrom 12 [.ref 48, .int a1, .int a2, .int a3, .int a4, .int a5] w (r_X11_isShadedFrom w a1 a2 a3 a4 a5)) (w : qW) (a1 : Int32) (a2 : Int32) (a3 : Int32) (a4 : Int32) (a5 : Int32) : q_Ev E Γ 12 (q_Fz E Γ cX11_isShadedFrom) 0 [some (.ref 48), some (.int a1), some (.int a2), some (.int a3), some (.int a4), some (.int a5), none, none, none, none, none, none] [] w (b_X11_isShadedFrom r_X11_isShadedFrom w a1 a2 a3 a4 a5) := by
  unfold b_X11_isShadedFrom
  refine e_iload G (pc := 0) dX11_isShadedFrom_0 rfl ?_
  refine e_iload G (pc := 2) dX11_isShadedFrom_2 rfl ?_
  refine e_icmp_ne G (pc := 4) (tgt := 18) dX11_isShadedFrom_4 (by decide) ?_ ?_
  · refine e_iload G (pc := 18) dX11_isShadedFrom_18 rfl ?_
    refine e_iconst G (pc := 20) (v := 2) dX11_isShadedFrom_20 (by decide) ?_
    refine e_irem G (pc := 21) dX11_isShadedFrom_21 (by decide) ?_
    refine e_if_ne G (pc := 22) (tgt := 29) dX11_isShadedFrom_22 (by decide) ?_ ?_
    · refine e_bipush G (pc := 29) (v := 32) dX11_isShadedFrom_29 (by decide) ?_
      refine e_iload_n G (pc := 31) dX11_isShadedFrom_31 rfl rfl ?_
      refine e_iadd G (pc := 32) dX11_isShadedFrom_32 ?_
      exact t_X11_isShadedFrom_B33 G hr_X11_isShadedFrom w a1 a2 a3 a4 a5 ((32 : Int32) + a2) 
    · refine e_iload_n G (pc := 25) dX11_isShadedFrom_25 rfl rfl ?_
      refine e_goto G (pc := 26) (tgt := 33) dX11_isShadedFrom_26 (by decide) ?_
      exact t_X11_isShadedFrom_B33 G hr_X11_isShadedFrom w a1 a2 a3 a4 a5 a1 
  · refine e_aload_n G (pc := 7) dX11_isShadedFrom_7 rfl rfl ?_
    refine e_iload_n G (pc := 8) dX11_isShadedFrom_8 rfl rfl ?_
    refine e_iload_n G (pc := 9) dX11_isShadedFrom_9 rfl rfl ?_
    refine e_aload_n G (pc := 10) dX11_isShadedFrom_10 rfl rfl ?_
    refine e_cVi G (pc := 11) (As := []) (st := [.int a3, .int a2, .ref 48]) cv_X11_207 (c_X11_everybody w  ) sh_48 (by omega) rfl (Nat.le_of_ble_eq_true rfl) dX11_isShadedFrom_11 (fun r1 w2 => ?_)
    refine e_cVi G (pc := 14) (As := [.int a2, .int a3, .int r1]) (st := []) cv_X11_216 (c_X11_isServed w2 a2 a3 r1 ) sh_48 (by omega) rfl (Nat.le_of_ble_eq_true rfl) dX11_isShadedFrom_14 (fun r3 w4 => ?_)
    exact e_zret dX11_isShadedFrom_17
set_option maxRecDepth 100000 in
set_option maxHeartbeats 4000000 in
theorem g_X11_isShadedFrom : ∀ n : Nat, (∀ (w : qW) (a1 : Int32) (a2 : Int32) (a3 : Int32) (a4 : Int32) (a5 : Int32), q_AC q_vi (some .boolean) (109 + n) yX11_isShadedFrom cX11_isShadedFrom 12 [.ref 48, .int a1, .int a2, .int a3, .int a4, .int a5] w (((G_X11_isShadedFrom n)) w a1 a2 a3 a4 a5)) := by
  intro n
  induction n with
  | zero => exact (fun _ _ _ _ _ _ _ _ _ _ h => (by cases h))
  | succ n ih =>
    refine ?_
    · exact fun w a1 a2 a3 a4 a5  => q_met_z (k := 6) (by decide +kernel) rfl rfl rfl (fun _ _ G => t_X11_isShadedFrom G (ih) w a1 a2 a3 a4 a5 )

set_option maxRecDepth 100000 in
set_option maxHeartbeats 4000000 in
theorem c_X11_isShadedFrom (w : qW) (a1 : Int32) (a2 : Int32) (a3 : Int32) (a4 : Int32) (a5 : Int32) : q_AC q_vi (some .boolean) (209) yX11_isShadedFrom cX11_isShadedFrom 12 [.ref 48, .int a1, .int a2, .int a3, .int a4, .int a5] w (f_X11_isShadedFrom w a1 a2 a3 a4 a5) := (g_X11_isShadedFrom q_rfuel) w a1 a2 a3 a4 a5 
set_option maxRecDepth 100000 in
set_option maxHeartbeats 4000000 in
theorem t_X11_byTurns_B227 {E : qE} {Γ : qC} (G : q_Ok E Γ RX11 cX11_byTurns 11 (210)) (w : qW) (l4 : Int32) (l7 : Int32) (l8 : Int32) : q_Ev E Γ 11 (q_Fi E Γ cX11_byTurns) 227 [some (.ref 48), none, none, none, some (.int l4), none, none, some (.int l7), some (.int l8), none, none] [] w (f_X11_byTurns_B227 w l4 l7 l8) := by
  unfold f_X11_byTurns_B227
  refine e_aload_n G (pc := 227) dX11_byTurns_227 rfl rfl ?_
  refine e_getF G (pc := 228) sh_48 rfl lk_X11_9 dX11_byTurns_228 ?_
  refine e_iload G (pc := 231) dX11_byTurns_231 rfl ?_
  refine e_iload G (pc := 233) dX11_byTurns_233 rfl ?_
  refine e_iast G (pc := 235) sh_49 dX11_byTurns_235 (fun w1 => ?_)
  refine e_iload G (pc := 236) dX11_byTurns_236 rfl ?_
  exact e_iret dX11_byTurns_238
set_option maxRecDepth 100000 in
set_option maxHeartbeats 4000000 in
theorem t_X11_byTurns_B221 {E : qE} {Γ : qC} (G : q_Ok E Γ RX11 cX11_byTurns 11 (210)) (k157 : qW → Int32 → Int32 → Int32 → Int32 → Int32 → Int32 → Int32 → Option (Int32 × qW)) (hk157 : ∀ (w : qW) (l2 : Int32) (l4 : Int32) (l5 : Int32) (l6 : Int32) (l7 : Int32) (l8 : Int32) (l9 : Int32), q_Ev E Γ 11 (q_Fi E Γ cX11_byTurns) 157 [some (.ref 48), none, some (.int l2), none, some (.int l4), some (.int l5), some (.int l6), some (.int l7), some (.int l8), some (.int l9), none] [] w (k157 w l2 l4 l5 l6 l7 l8 l9)) (w : qW) (l2 : Int32) (l4 : Int32) (l5 : Int32) (l6 : Int32) (l7 : Int32) (l8 : Int32) (l9 : Int32) : q_Ev E Γ 11 (q_Fi E Γ cX11_byTurns) 221 [some (.ref 48), none, some (.int l2), none, some (.int l4), some (.int l5), some (.int l6), some (.int l7), some (.int l8), some (.int l9), none] [] w (f_X11_byTurns_B221 k157 w l2 l4 l5 l6 l7 l8 l9) := by
  unfold f_X11_byTurns_B221
  refine e_iinc G (pc := 221) (x := l9) (v := l9 + 1) (L' := fun v1 => [some (.ref 48), none, some (.int l2), none, some (.int l4), some (.int l5), some (.int l6), some (.int l7), some (.int l8), some (.int v1), none]) dX11_byTurns_221 (Nat.le_of_ble_eq_true rfl) rfl (by rfl) (fun _ => rfl) (fun v1 => ?_)
  refine e_goto G (pc := 224) (tgt := 157) dX11_byTurns_224 (by decide) ?_
  exact hk157 w l2 l4 l5 l6 l7 l8 v1 
set_option maxRecDepth 100000 in
set_option maxHeartbeats 4000000 in
theorem t_X11_byTurns_B219 {E : qE} {Γ : qC} (G : q_Ok E Γ RX11 cX11_byTurns 11 (210)) (k157 : qW → Int32 → Int32 → Int32 → Int32 → Int32 → Int32 → Int32 → Option (Int32 × qW)) (hk157 : ∀ (w : qW) (l2 : Int32) (l4 : Int32) (l5 : Int32) (l6 : Int32) (l7 : Int32) (l8 : Int32) (l9 : Int32), q_Ev E Γ 11 (q_Fi E Γ cX11_byTurns) 157 [some (.ref 48), none, some (.int l2), none, some (.int l4), some (.int l5), some (.int l6), some (.int l7), some (.int l8), some (.int l9), none] [] w (k157 w l2 l4 l5 l6 l7 l8 l9)) (w : qW) (l2 : Int32) (l4 : Int32) (l5 : Int32) (l6 : Int32) (l7 : Int32) (l9 : Int32) (s0 : Int32) : q_Ev E Γ 11 (q_Fi E Γ cX11_byTurns) 219 [some (.ref 48), none, some (.int l2), none, some (.int l4), some (.int l5), some (.int l6), some (.int l7), none, some (.int l9), none] [.int s0] w (f_X11_byTurns_B219 k157 w l2 l4 l5 l6 l7 l9 s0) := by
  unfold f_X11_byTurns_B219
  refine e_istore G (pc := 219) (L' := [some (.ref 48), none, some (.int l2), none, some (.int l4), some (.int l5), some (.int l6), some (.int l7), some (.int s0), some (.int l9), none]) dX11_byTurns_219 (Nat.le_of_ble_eq_true rfl) rfl ?_
  exact t_X11_byTurns_B221 G k157 hk157 w l2 l4 l5 l6 l7 s0 l9 
set_option maxRecDepth 100000 in
set_option maxHeartbeats 4000000 in
theorem t_X11_byTurns_B157 {E : qE} {Γ : qC} (G : q_Ok E Γ RX11 cX11_byTurns 11 (210)) (k157 : qW → Int32 → Int32 → Int32 → Int32 → Int32 → Int32 → Int32 → Option (Int32 × qW)) (hk157 : ∀ (w : qW) (l2 : Int32) (l4 : Int32) (l5 : Int32) (l6 : Int32) (l7 : Int32) (l8 : Int32) (l9 : Int32), q_Ev E Γ 11 (q_Fi E Γ cX11_byTurns) 157 [some (.ref 48), none, some (.int l2), none, some (.int l4), some (.int l5), some (.int l6), some (.int l7), some (.int l8), some (.int l9), none] [] w (k157 w l2 l4 l5 l6 l7 l8 l9)) (w : qW) (l2 : Int32) (l4 : Int32) (l5 : Int32) (l6 : Int32) (l7 : Int32) (l8 : Int32) (l9 : Int32) : q_Ev E Γ 11 (q_Fi E Γ cX11_byTurns) 157 [some (.ref 48), none, some (.int l2), none, some (.int l4), some (.int l5), some (.int l6), some (.int l7), some (.int l8), some (.int l9), none] [] w (f_X11_byTurns_B157 k157 w l2 l4 l5 l6 l7 l8 l9) := by
  unfold f_X11_byTurns_B157
  refine e_iload G (pc := 157) dX11_byTurns_157 rfl ?_
  refine e_iconst G (pc := 159) (v := 4) dX11_byTurns_159 (by decide) ?_
  refine e_icmp_ge G (pc := 160) (tgt := 227) dX11_byTurns_160 (by decide) ?_ ?_
  · refine e_wk (L' := [some (.ref 48), none, none, none, some (.int l4), none, none, some (.int l7), some (.int l8), none, none]) (And.intro rfl (And.intro rfl (And.intro rfl (And.intro rfl (trivial))))) ?_
    exact t_X11_byTurns_B227 G w l4 l7 l8 
  · refine e_iload G (pc := 163) dX11_byTurns_163 rfl ?_
    refine e_if_ge G (pc := 165) (tgt := 227) dX11_byTurns_165 (by decide) ?_ ?_
    · refine e_wk (L' := [some (.ref 48), none, none, none, some (.int l4), none, none, some (.int l7), some (.int l8), none, none]) (And.intro rfl (And.intro rfl (And.intro rfl (And.intro rfl (trivial))))) ?_
      exact t_X11_byTurns_B227 G w l4 l7 l8 
    · refine e_iload G (pc := 168) dX11_byTurns_168 rfl ?_
      refine e_iload G (pc := 170) dX11_byTurns_170 rfl ?_
      refine e_cSi G (pc := 172) (ci := 0) (id := 0) (sl := []) (As := [.int l7, .int l9]) (st := []) cs_X11_242 (c_X11_stepFrom w l7 l9 ) (Nat.le_of_ble_eq_true rfl) rfl (Nat.le_of_ble_eq_true rfl) dX11_byTurns_172 (fun r1 w2 => ?_)
      refine e_istore G (pc := 175) (L' := [some (.ref 48), none, some (.int l2), none, some (.int l4), some (.int l5), some (.int l6), some (.int l7), some (.int l8), some (.int l9), some (.int r1)]) dX11_byTurns_175 (Nat.le_of_ble_eq_true rfl) rfl ?_
      refine e_iload G (pc := 177) dX11_byTurns_177 rfl ?_
      refine e_if_lt G (pc := 179) (tgt := 221) dX11_byTurns_179 (by decide) ?_ ?_
      · refine e_wk (L' := [some (.ref 48), none, some (.int l2), none, some (.int l4), some (.int l5), some (.int l6), some (.int l7), some (.int l8), some (.int l9), none]) (And.intro rfl (And.intro rfl (And.intro rfl (And.intro rfl (And.intro rfl (And.intro rfl (And.intro rfl (And.intro rfl (trivial))))))))) ?_
        exact t_X11_byTurns_B221 G k157 hk157 w2 l2 l4 l5 l6 l7 l8 l9 
      · refine e_aload_n G (pc := 182) dX11_byTurns_182 rfl rfl ?_
        refine e_getF G (pc := 183) sh_48 rfl lk_X11_9 dX11_byTurns_183 ?_
        refine e_iload G (pc := 186) dX11_byTurns_186 rfl ?_
        refine e_iload G (pc := 188) dX11_byTurns_188 rfl ?_
        refine e_iast G (pc := 190) sh_49 dX11_byTurns_190 (fun w3 => ?_)
        refine e_aload_n G (pc := 191) dX11_byTurns_191 rfl rfl ?_
        refine e_iload G (pc := 192) dX11_byTurns_192 rfl ?_
        refine e_iload G (pc := 194) dX11_byTurns_194 rfl ?_
        refine e_iload_n G (pc := 196) dX11_byTurns_196 rfl rfl ?_
        refine e_bipush G (pc := 197) (v := 10) dX11_byTurns_197 (by decide) ?_
        refine e_idiv G (pc := 199) dX11_byTurns_199 (by decide) ?_
        refine e_iconst G (pc := 200) (v := 1) dX11_byTurns_200 (by decide) ?_
        refine e_iload_n G (pc := 201) dX11_byTurns_201 rfl rfl ?_
        refine e_bipush G (pc := 202) (v := 10) dX11_byTurns_202 (by decide) ?_
        refine e_irem G (pc := 204) dX11_byTurns_204 (by decide) ?_
        refine e_cVi G (pc := 205) (As := [.int l4, .int l5, .int (l2 / 10), .int 1, .int (q_rem l2 10)]) (st := []) cv_X11_256 (c_X11_isShadedFrom w3 l4 l5 (l2 / 10) 1 (q_rem l2 10) ) sh_48 (Nat.le_of_ble_eq_true rfl) rfl (Nat.le_of_ble_eq_true rfl) dX11_byTurns_205 (fun r4 w5 => ?_)
        refine e_iload G (pc := 208) dX11_byTurns_208 rfl ?_
        refine e_icmp_ne G (pc := 210) (tgt := 218) dX11_byTurns_210 (by decide) ?_ ?_
        · refine e_iconst G (pc := 218) (v := (-1)) dX11_byTurns_218 (by decide) ?_
          refine e_wk (L' := [some (.ref 48), none, some (.int l2), none, some (.int l4), some (.int l5), some (.int l6), some (.int l7), none, some (.int l9), none]) (And.intro rfl (And.intro rfl (And.intro rfl (And.intro rfl (And.intro rfl (And.intro rfl (And.intro rfl (trivial)))))))) ?_
          exact t_X11_byTurns_B219 G k157 hk157 w5 l2 l4 l5 l6 l7 l9 (-1) 
        · refine e_iload G (pc := 213) dX11_byTurns_213 rfl ?_
          refine e_goto G (pc := 215) (tgt := 219) dX11_byTurns_215 (by decide) ?_
          refine e_wk (L' := [some (.ref 48), none, some (.int l2), none, some (.int l4), some (.int l5), some (.int l6), some (.int l7), none, some (.int l9), none]) (And.intro rfl (And.intro rfl (And.intro rfl (And.intro rfl (And.intro rfl (And.intro rfl (And.intro rfl (trivial)))))))) ?_
          exact t_X11_byTurns_B219 G k157 hk157 w5 l2 l4 l5 l6 l7 l9 l9 
set_option maxRecDepth 100000 in
set_option maxHeartbeats 4000000 in
theorem t_X11_byTurns_R157 {E : qE} {Γ : qC} (G : q_Ok E Γ RX11 cX11_byTurns 11 (210)) : ∀ (fuel : Nat) (w : qW) (l2 : Int32) (l4 : Int32) (l5 : Int32) (l6 : Int32) (l7 : Int32) (l8 : Int32) (l9 : Int32) , q_Ev E Γ 11 (q_Fi E Γ cX11_byTurns) 157 [some (.ref 48), none, some (.int l2), none, some (.int l4), some (.int l5), some (.int l6), some (.int l7), some (.int l8), some (.int l9), none] [] w (f_X11_byTurns_R157 fuel w l2 l4 l5 l6 l7 l8 l9) := by
  intro fuel
  induction fuel with
  | zero => intros; exact e_none
  | succ fuel ih =>
    intro w l2 l4 l5 l6 l7 l8 l9 
    exact t_X11_byTurns_B157 G _ ih w l2 l4 l5 l6 l7 l8 l9 
set_option maxRecDepth 100000 in
set_option maxHeartbeats 4000000 in
theorem t_X11_byTurns_B152 {E : qE} {Γ : qC} (G : q_Ok E Γ RX11 cX11_byTurns 11 (210)) (w : qW) (l2 : Int32) (l4 : Int32) (l5 : Int32) (l6 : Int32) (l7 : Int32) (s0 : Int32) : q_Ev E Γ 11 (q_Fi E Γ cX11_byTurns) 152 [some (.ref 48), none, some (.int l2), none, some (.int l4), some (.int l5), some (.int l6), some (.int l7), none, none, none] [.int s0] w (f_X11_byTurns_B152 w l2 l4 l5 l6 l7 s0) := by
  unfold f_X11_byTurns_B152
  refine e_istore G (pc := 152) (L' := [some (.ref 48), none, some (.int l2), none, some (.int l4), some (.int l5), some (.int l6), some (.int l7), some (.int s0), none, none]) dX11_byTurns_152 (Nat.le_of_ble_eq_true rfl) rfl ?_
  refine e_iconst G (pc := 154) (v := 0) dX11_byTurns_154 (by decide) ?_
  refine e_istore G (pc := 155) (L' := [some (.ref 48), none, some (.int l2), none, some (.int l4), some (.int l5), some (.int l6), some (.int l7), some (.int s0), some (.int 0), none]) dX11_byTurns_155 (Nat.le_of_ble_eq_true rfl) rfl ?_
  exact t_X11_byTurns_R157 G  q_fuel w l2 l4 l5 l6 l7 s0 0 
set_option maxRecDepth 100000 in
set_option maxHeartbeats 4000000 in
theorem t_X11_byTurns {E : qE} {Γ : qC} (G : q_Ok E Γ RX11 cX11_byTurns 11 (210)) (w : qW) (a1 : Int32) (a2 : Int32) (a3 : Int32) : q_Ev E Γ 11 (q_Fi E Γ cX11_byTurns) 0 [some (.ref 48), some (.int a1), some (.int a2), some (.int a3), none, none, none, none, none, none, none] [] w (f_X11_byTurns w a1 a2 a3) := by
  unfold f_X11_byTurns
  refine e_iload_n G (pc := 0) dX11_byTurns_0 rfl rfl ?_
  refine e_if_lt G (pc := 1) (tgt := 68) dX11_byTurns_1 (by decide) ?_ ?_
  · refine e_iconst G (pc := 68) (v := (-1)) dX11_byTurns_68 (by decide) ?_
    exact e_iret dX11_byTurns_69
  · refine e_aload_n G (pc := 4) dX11_byTurns_4 rfl rfl ?_
    refine e_iload_n G (pc := 5) dX11_byTurns_5 rfl rfl ?_
    refine e_bipush G (pc := 6) (v := 10) dX11_byTurns_6 (by decide) ?_
    refine e_idiv G (pc := 8) dX11_byTurns_8 (by decide) ?_
    refine e_i2l G (pc := 9) dX11_byTurns_9 ?_
    refine e_cVi G (pc := 10) (As := [.long (Int32.toInt64 (a1 / 10))]) (st := []) cv_X11_116 (c_X11_isMan w (Int32.toInt64 (a1 / 10)) ) sh_48 (Nat.le_of_ble_eq_true rfl) rfl (Nat.le_of_ble_eq_true rfl) dX11_byTurns_10 (fun r1 w2 => ?_)
    refine e_if_eq G (pc := 13) (tgt := 68) dX11_byTurns_13 (by decide) ?_ ?_
    · refine e_iconst G (pc := 68) (v := (-1)) dX11_byTurns_68 (by decide) ?_
      exact e_iret dX11_byTurns_69
    · refine e_aload_n G (pc := 16) dX11_byTurns_16 rfl rfl ?_
      refine e_iload_n G (pc := 17) dX11_byTurns_17 rfl rfl ?_
      refine e_bipush G (pc := 18) (v := 10) dX11_byTurns_18 (by decide) ?_
      refine e_irem G (pc := 20) dX11_byTurns_20 (by decide) ?_
      refine e_i2l G (pc := 21) dX11_byTurns_21 ?_
      refine e_cVi G (pc := 22) (As := [.long (Int32.toInt64 (q_rem a1 10))]) (st := []) cv_X11_121 (c_X11_isSitter w2 (Int32.toInt64 (q_rem a1 10)) ) sh_48 (Nat.le_of_ble_eq_true rfl) rfl (Nat.le_of_ble_eq_true rfl) dX11_byTurns_22 (fun r3 w4 => ?_)
      refine e_if_eq G (pc := 25) (tgt := 68) dX11_byTurns_25 (by decide) ?_ ?_
      · refine e_iconst G (pc := 68) (v := (-1)) dX11_byTurns_68 (by decide) ?_
        exact e_iret dX11_byTurns_69
      · refine e_iload_n G (pc := 28) dX11_byTurns_28 rfl rfl ?_
        refine e_if_lt G (pc := 29) (tgt := 68) dX11_byTurns_29 (by decide) ?_ ?_
        · refine e_iconst G (pc := 68) (v := (-1)) dX11_byTurns_68 (by decide) ?_
          exact e_iret dX11_byTurns_69
        · refine e_iload_n G (pc := 32) dX11_byTurns_32 rfl rfl ?_
          refine e_bipush G (pc := 33) (v := 10) dX11_byTurns_33 (by decide) ?_
          refine e_idiv G (pc := 35) dX11_byTurns_35 (by decide) ?_
          refine e_i2l G (pc := 36) dX11_byTurns_36 ?_
          refine e_cSi G (pc := 37) (ci := 0) (id := 0) (sl := []) (As := [.long (Int32.toInt64 (a2 / 10))]) (st := []) cs_X11_204 (c_X11_isHour w4 (Int32.toInt64 (a2 / 10)) ) (Nat.le_of_ble_eq_true rfl) rfl (Nat.le_of_ble_eq_true rfl) dX11_byTurns_37 (fun r5 w6 => ?_)
          refine e_if_eq G (pc := 40) (tgt := 68) dX11_byTurns_40 (by decide) ?_ ?_
          · refine e_iconst G (pc := 68) (v := (-1)) dX11_byTurns_68 (by decide) ?_
            exact e_iret dX11_byTurns_69
          · refine e_iload_n G (pc := 43) dX11_byTurns_43 rfl rfl ?_
            refine e_bipush G (pc := 44) (v := 10) dX11_byTurns_44 (by decide) ?_
            refine e_irem G (pc := 46) dX11_byTurns_46 (by decide) ?_
            refine e_i2l G (pc := 47) dX11_byTurns_47 ?_
            refine e_lconst G (pc := 48) (v := 1) dX11_byTurns_48 (by decide) ?_
            refine e_ldc2 G (pc := 49) kl_X11_119 dX11_byTurns_49 ?_
            refine e_cSi G (pc := 52) (ci := 0) (id := 0) (sl := []) (As := [.long (Int32.toInt64 (q_rem a2 10)), .long 1, .long 4]) (st := []) cs_X11_78 (c_X11_within w6 (Int32.toInt64 (q_rem a2 10)) 1 4 ) (Nat.le_of_ble_eq_true rfl) rfl (Nat.le_of_ble_eq_true rfl) dX11_byTurns_52 (fun r7 w8 => ?_)
            refine e_if_eq G (pc := 55) (tgt := 68) dX11_byTurns_55 (by decide) ?_ ?_
            · refine e_iconst G (pc := 68) (v := (-1)) dX11_byTurns_68 (by decide) ?_
              exact e_iret dX11_byTurns_69
            · refine e_iload_n G (pc := 58) dX11_byTurns_58 rfl rfl ?_
              refine e_i2l G (pc := 59) dX11_byTurns_59 ?_
              refine e_lconst G (pc := 60) (v := 0) dX11_byTurns_60 (by decide) ?_
              refine e_lconst G (pc := 61) (v := 1) dX11_byTurns_61 (by decide) ?_
              refine e_cSi G (pc := 62) (ci := 0) (id := 0) (sl := []) (As := [.long (Int32.toInt64 a3), .long 0, .long 1]) (st := []) cs_X11_78 (c_X11_within w8 (Int32.toInt64 a3) 0 1 ) (Nat.le_of_ble_eq_true rfl) rfl (Nat.le_of_ble_eq_true rfl) dX11_byTurns_62 (fun r9 w10 => ?_)
              refine e_if_ne G (pc := 65) (tgt := 70) dX11_byTurns_65 (by decide) ?_ ?_
              · refine e_iload_n G (pc := 70) dX11_byTurns_70 rfl rfl ?_
                refine e_bipush G (pc := 71) (v := 10) dX11_byTurns_71 (by decide) ?_
                refine e_idiv G (pc := 73) dX11_byTurns_73 (by decide) ?_
                refine e_ti (fun v11 => ?_)
                refine e_istore G (pc := 74) (L' := [some (.ref 48), some (.int a1), some (.int a2), some (.int a3), some (.int v11), none, none, none, none, none, none]) dX11_byTurns_74 (Nat.le_of_ble_eq_true rfl) rfl ?_
                refine e_iload_n G (pc := 76) dX11_byTurns_76 rfl rfl ?_
                refine e_bipush G (pc := 77) (v := 10) dX11_byTurns_77 (by decide) ?_
                refine e_irem G (pc := 79) dX11_byTurns_79 (by decide) ?_
                refine e_ti (fun v12 => ?_)
                refine e_istore G (pc := 80) (L' := [some (.ref 48), some (.int a1), some (.int a2), some (.int a3), some (.int v11), some (.int v12), none, none, none, none, none]) dX11_byTurns_80 (Nat.le_of_ble_eq_true rfl) rfl ?_
                refine e_aload_n G (pc := 82) dX11_byTurns_82 rfl rfl ?_
                refine e_iload G (pc := 83) dX11_byTurns_83 rfl ?_
                refine e_iload G (pc := 85) dX11_byTurns_85 rfl ?_
                refine e_iload_n G (pc := 87) dX11_byTurns_87 rfl rfl ?_
                refine e_bipush G (pc := 88) (v := 10) dX11_byTurns_88 (by decide) ?_
                refine e_idiv G (pc := 90) dX11_byTurns_90 (by decide) ?_
                refine e_iconst G (pc := 91) (v := 0) dX11_byTurns_91 (by decide) ?_
                refine e_iload_n G (pc := 92) dX11_byTurns_92 rfl rfl ?_
                refine e_bipush G (pc := 93) (v := 10) dX11_byTurns_93 (by decide) ?_
                refine e_irem G (pc := 95) dX11_byTurns_95 (by decide) ?_
                refine e_cVi G (pc := 96) (As := [.int v11, .int v12, .int (a2 / 10), .int 0, .int (q_rem a2 10)]) (st := []) cv_X11_256 (c_X11_isShadedFrom w10 v11 v12 (a2 / 10) 0 (q_rem a2 10) ) sh_48 (Nat.le_of_ble_eq_true rfl) rfl (Nat.le_of_ble_eq_true rfl) dX11_byTurns_96 (fun r13 w14 => ?_)
                refine e_istore G (pc := 99) (L' := [some (.ref 48), some (.int a1), some (.int a2), some (.int a3), some (.int v11), some (.int v12), some (.int r13), none, none, none, none]) dX11_byTurns_99 (Nat.le_of_ble_eq_true rfl) rfl ?_
                refine e_iload_n G (pc := 101) dX11_byTurns_101 rfl rfl ?_
                refine e_if_ne G (pc := 102) (tgt := 116) dX11_byTurns_102 (by decide) ?_ ?_
                · refine e_aload_n G (pc := 116) dX11_byTurns_116 rfl rfl ?_
                  refine e_getF G (pc := 117) sh_48 rfl lk_X11_9 dX11_byTurns_117 ?_
                  refine e_iload G (pc := 120) dX11_byTurns_120 rfl ?_
                  refine e_iald G (pc := 122) sh_49 dX11_byTurns_122 (fun v15 => ?_)
                  refine e_istore G (pc := 123) (L' := [some (.ref 48), some (.int a1), some (.int a2), some (.int a3), some (.int v11), some (.int v12), some (.int r13), some (.int v15), none, none, none]) dX11_byTurns_123 (Nat.le_of_ble_eq_true rfl) rfl ?_
                  refine e_aload_n G (pc := 125) dX11_byTurns_125 rfl rfl ?_
                  refine e_iload G (pc := 126) dX11_byTurns_126 rfl ?_
                  refine e_iload G (pc := 128) dX11_byTurns_128 rfl ?_
                  refine e_iload_n G (pc := 130) dX11_byTurns_130 rfl rfl ?_
                  refine e_bipush G (pc := 131) (v := 10) dX11_byTurns_131 (by decide) ?_
                  refine e_idiv G (pc := 133) dX11_byTurns_133 (by decide) ?_
                  refine e_iconst G (pc := 134) (v := 1) dX11_byTurns_134 (by decide) ?_
                  refine e_iload_n G (pc := 135) dX11_byTurns_135 rfl rfl ?_
                  refine e_bipush G (pc := 136) (v := 10) dX11_byTurns_136 (by decide) ?_
                  refine e_irem G (pc := 138) dX11_byTurns_138 (by decide) ?_
                  refine e_cVi G (pc := 139) (As := [.int v11, .int v12, .int (a2 / 10), .int 1, .int (q_rem a2 10)]) (st := []) cv_X11_256 (c_X11_isShadedFrom w14 v11 v12 (a2 / 10) 1 (q_rem a2 10) ) sh_48 (Nat.le_of_ble_eq_true rfl) rfl (Nat.le_of_ble_eq_true rfl) dX11_byTurns_139 (fun r16 w17 => ?_)
                  refine e_iload G (pc := 142) dX11_byTurns_142 rfl ?_
                  refine e_icmp_ne G (pc := 144) (tgt := 151) dX11_byTurns_144 (by decide) ?_ ?_
                  · refine e_iconst G (pc := 151) (v := (-1)) dX11_byTurns_151 (by decide) ?_
                    refine e_wk (L' := [some (.ref 48), none, some (.int a2), none, some (.int v11), some (.int v12), some (.int r13), some (.int v15), none, none, none]) (And.intro rfl (And.intro rfl (And.intro rfl (And.intro rfl (And.intro rfl (And.intro rfl (trivial))))))) ?_
                    exact t_X11_byTurns_B152 G w17 a2 v11 v12 r13 v15 (-1) 
                  · refine e_iconst G (pc := 147) (v := 4) dX11_byTurns_147 (by decide) ?_
                    refine e_goto G (pc := 148) (tgt := 152) dX11_byTurns_148 (by decide) ?_
                    refine e_wk (L' := [some (.ref 48), none, some (.int a2), none, some (.int v11), some (.int v12), some (.int r13), some (.int v15), none, none, none]) (And.intro rfl (And.intro rfl (And.intro rfl (And.intro rfl (And.intro rfl (And.intro rfl (trivial))))))) ?_
                    exact t_X11_byTurns_B152 G w17 a2 v11 v12 r13 v15 4 
                · refine e_iload G (pc := 105) dX11_byTurns_105 rfl ?_
                  refine e_if_eq G (pc := 107) (tgt := 114) dX11_byTurns_107 (by decide) ?_ ?_
                  · refine e_iconst G (pc := 114) (v := 0) dX11_byTurns_114 (by decide) ?_
                    exact e_iret dX11_byTurns_115
                  · refine e_iconst G (pc := 110) (v := 1) dX11_byTurns_110 (by decide) ?_
                    refine e_goto G (pc := 111) (tgt := 115) dX11_byTurns_111 (by decide) ?_
                    exact e_iret dX11_byTurns_115
              · refine e_iconst G (pc := 68) (v := (-1)) dX11_byTurns_68 (by decide) ?_
                exact e_iret dX11_byTurns_69
set_option maxRecDepth 100000 in
set_option maxHeartbeats 4000000 in
theorem c_X11_byTurns (w : qW) (a1 : Int32) (a2 : Int32) (a3 : Int32) : q_AC q_vi (some .int) (210) yX11_byTurns cX11_byTurns 11 [.ref 48, .int a1, .int a2, .int a3] w (f_X11_byTurns w a1 a2 a3) := q_met_i (k := 7) (by decide +kernel) rfl rfl rfl (fun _ _ G => t_X11_byTurns G w a1 a2 a3 )
set_option maxRecDepth 100000 in
set_option maxHeartbeats 4000000 in
theorem t_X11_drawn_B225 {E : qE} {Γ : qC} (G : q_Ok E Γ RX11 cX11_drawn 13 (109)) (k62 : qW → Int32 → Int32 → Int32 → Int32 → Int32 → Int32 → Option (Int32 × qW)) (k74 : qW → Int32 → Int32 → Int32 → Int32 → Int32 → Int32 → Int32 → Option (Int32 × qW)) (hk62 : ∀ (w : qW) (l2 : Int32) (l3 : Int32) (l4 : Int32) (l5 : Int32) (l6 : Int32) (l7 : Int32), q_Ev E Γ 13 (q_Fi E Γ cX11_drawn) 62 [some (.ref 48), none, some (.int l2), some (.int l3), some (.int l4), some (.int l5), some (.int l6), some (.int l7), none, none, none, none, none] [] w (k62 w l2 l3 l4 l5 l6 l7)) (hk74 : ∀ (w : qW) (l2 : Int32) (l3 : Int32) (l4 : Int32) (l5 : Int32) (l6 : Int32) (l7 : Int32) (l8 : Int32), q_Ev E Γ 13 (q_Fi E Γ cX11_drawn) 74 [some (.ref 48), none, some (.int l2), some (.int l3), some (.int l4), some (.int l5), some (.int l6), some (.int l7), some (.int l8), none, none, none, none] [] w (k74 w l2 l3 l4 l5 l6 l7 l8)) (w : qW) (l2 : Int32) (l3 : Int32) (l4 : Int32) (l5 : Int32) (l6 : Int32) (l7 : Int32) (l8 : Int32) : q_Ev E Γ 13 (q_Fi E Γ cX11_drawn) 225 [some (.ref 48), none, some (.int l2), some (.int l3), some (.int l4), some (.int l5), some (.int l6), some (.int l7), some (.int l8), none, none, none, none] [] w (f_X11_drawn_B225 k62 k74 w l2 l3 l4 l5 l6 l7 l8) := by
  unfold f_X11_drawn_B225
  refine e_iinc G (pc := 225) (x := l8) (v := l8 + 1) (L' := fun v1 => [some (.ref 48), none, some (.int l2), some (.int l3), some (.int l4), some (.int l5), some (.int l6), some (.int l7), some (.int v1), none, none, none, none]) dX11_drawn_225 (Nat.le_of_ble_eq_true rfl) rfl (by rfl) (fun _ => rfl) (fun v1 => ?_)
  refine e_goto G (pc := 228) (tgt := 74) dX11_drawn_228 (by decide) ?_
  exact hk74 w l2 l3 l4 l5 l6 l7 v1 
set_option maxRecDepth 100000 in
set_option maxHeartbeats 4000000 in
theorem t_X11_drawn_B216 {E : qE} {Γ : qC} (G : q_Ok E Γ RX11 cX11_drawn 13 (109)) (k62 : qW → Int32 → Int32 → Int32 → Int32 → Int32 → Int32 → Option (Int32 × qW)) (k74 : qW → Int32 → Int32 → Int32 → Int32 → Int32 → Int32 → Int32 → Option (Int32 × qW)) (k150 : qW → Int32 → Int32 → Int32 → Int32 → Int32 → Int32 → Int32 → Int32 → Int32 → Int32 → Option (Int32 × qW)) (hk62 : ∀ (w : qW) (l2 : Int32) (l3 : Int32) (l4 : Int32) (l5 : Int32) (l6 : Int32) (l7 : Int32), q_Ev E Γ 13 (q_Fi E Γ cX11_drawn) 62 [some (.ref 48), none, some (.int l2), some (.int l3), some (.int l4), some (.int l5), some (.int l6), some (.int l7), none, none, none, none, none] [] w (k62 w l2 l3 l4 l5 l6 l7)) (hk74 : ∀ (w : qW) (l2 : Int32) (l3 : Int32) (l4 : Int32) (l5 : Int32) (l6 : Int32) (l7 : Int32) (l8 : Int32), q_Ev E Γ 13 (q_Fi E Γ cX11_drawn) 74 [some (.ref 48), none, some (.int l2), some (.int l3), some (.int l4), some (.int l5), some (.int l6), some (.int l7), some (.int l8), none, none, none, none] [] w (k74 w l2 l3 l4 l5 l6 l7 l8)) (hk150 : ∀ (w : qW) (l2 : Int32) (l3 : Int32) (l4 : Int32) (l5 : Int32) (l6 : Int32) (l7 : Int32) (l8 : Int32) (l9 : Int32) (l10 : Int32) (l11 : Int32), q_Ev E Γ 13 (q_Fi E Γ cX11_drawn) 150 [some (.ref 48), none, some (.int l2), some (.int l3), some (.int l4), some (.int l5), some (.int l6), some (.int l7), some (.int l8), some (.int l9), some (.int l10), some (.int l11), none] [] w (k150 w l2 l3 l4 l5 l6 l7 l8 l9 l10 l11)) (w : qW) (l2 : Int32) (l3 : Int32) (l4 : Int32) (l5 : Int32) (l7 : Int32) (l8 : Int32) (l9 : Int32) (l10 : Int32) (l11 : Int32) (s0 : Int32) (s1 : Int32) : q_Ev E Γ 13 (q_Fi E Γ cX11_drawn) 216 [some (.ref 48), none, some (.int l2), some (.int l3), some (.int l4), some (.int l5), none, some (.int l7), some (.int l8), some (.int l9), some (.int l10), some (.int l11), none] [.int s0, .int s1] w (f_X11_drawn_B216 k62 k74 k150 w l2 l3 l4 l5 l7 l8 l9 l10 l11 s0 s1) := by
  unfold f_X11_drawn_B216
  refine e_iadd G (pc := 216) dX11_drawn_216 ?_
  refine e_ti (fun v1 => ?_)
  refine e_istore G (pc := 217) (L' := [some (.ref 48), none, some (.int l2), some (.int l3), some (.int l4), some (.int l5), some (.int v1), some (.int l7), some (.int l8), some (.int l9), some (.int l10), some (.int l11), none]) dX11_drawn_217 (Nat.le_of_ble_eq_true rfl) rfl ?_
  refine e_iinc G (pc := 219) (x := l11) (v := l11 + 1) (L' := fun v2 => [some (.ref 48), none, some (.int l2), some (.int l3), some (.int l4), some (.int l5), some (.int v1), some (.int l7), some (.int l8), some (.int l9), some (.int l10), some (.int v2), none]) dX11_drawn_219 (Nat.le_of_ble_eq_true rfl) rfl (by rfl) (fun _ => rfl) (fun v2 => ?_)
  refine e_goto G (pc := 222) (tgt := 150) dX11_drawn_222 (by decide) ?_
  exact hk150 w l2 l3 l4 l5 v1 l7 l8 l9 l10 v2 
set_option maxRecDepth 100000 in
set_option maxHeartbeats 4000000 in
theorem t_X11_drawn_B193 {E : qE} {Γ : qC} (G : q_Ok E Γ RX11 cX11_drawn 13 (109)) (k62 : qW → Int32 → Int32 → Int32 → Int32 → Int32 → Int32 → Option (Int32 × qW)) (k74 : qW → Int32 → Int32 → Int32 → Int32 → Int32 → Int32 → Int32 → Option (Int32 × qW)) (k150 : qW → Int32 → Int32 → Int32 → Int32 → Int32 → Int32 → Int32 → Int32 → Int32 → Int32 → Option (Int32 × qW)) (hk62 : ∀ (w : qW) (l2 : Int32) (l3 : Int32) (l4 : Int32) (l5 : Int32) (l6 : Int32) (l7 : Int32), q_Ev E Γ 13 (q_Fi E Γ cX11_drawn) 62 [some (.ref 48), none, some (.int l2), some (.int l3), some (.int l4), some (.int l5), some (.int l6), some (.int l7), none, none, none, none, none] [] w (k62 w l2 l3 l4 l5 l6 l7)) (hk74 : ∀ (w : qW) (l2 : Int32) (l3 : Int32) (l4 : Int32) (l5 : Int32) (l6 : Int32) (l7 : Int32) (l8 : Int32), q_Ev E Γ 13 (q_Fi E Γ cX11_drawn) 74 [some (.ref 48), none, some (.int l2), some (.int l3), some (.int l4), some (.int l5), some (.int l6), some (.int l7), some (.int l8), none, none, none, none] [] w (k74 w l2 l3 l4 l5 l6 l7 l8)) (hk150 : ∀ (w : qW) (l2 : Int32) (l3 : Int32) (l4 : Int32) (l5 : Int32) (l6 : Int32) (l7 : Int32) (l8 : Int32) (l9 : Int32) (l10 : Int32) (l11 : Int32), q_Ev E Γ 13 (q_Fi E Γ cX11_drawn) 150 [some (.ref 48), none, some (.int l2), some (.int l3), some (.int l4), some (.int l5), some (.int l6), some (.int l7), some (.int l8), some (.int l9), some (.int l10), some (.int l11), none] [] w (k150 w l2 l3 l4 l5 l6 l7 l8 l9 l10 l11)) (w : qW) (l2 : Int32) (l3 : Int32) (l4 : Int32) (l5 : Int32) (l6 : Int32) (l7 : Int32) (l8 : Int32) (l9 : Int32) (l10 : Int32) (l11 : Int32) (s0 : Int32) : q_Ev E Γ 13 (q_Fi E Γ cX11_drawn) 193 [some (.ref 48), none, some (.int l2), some (.int l3), some (.int l4), some (.int l5), some (.int l6), some (.int l7), some (.int l8), some (.int l9), some (.int l10), some (.int l11), none] [.int s0] w (f_X11_drawn_B193 k62 k74 k150 w l2 l3 l4 l5 l6 l7 l8 l9 l10 l11 s0) := by
  unfold f_X11_drawn_B193
  refine e_istore G (pc := 193) (L' := [some (.ref 48), none, some (.int l2), some (.int l3), some (.int l4), some (.int l5), some (.int l6), some (.int l7), some (.int l8), some (.int l9), some (.int l10), some (.int l11), some (.int s0)]) dX11_drawn_193 (Nat.le_of_ble_eq_true rfl) rfl ?_
  refine e_iload G (pc := 195) dX11_drawn_195 rfl ?_
  refine e_iload G (pc := 197) dX11_drawn_197 rfl ?_
  refine e_iadd G (pc := 199) dX11_drawn_199 ?_
  refine e_ti (fun v1 => ?_)
  refine e_istore G (pc := 200) (L' := [some (.ref 48), none, some (.int l2), some (.int l3), some (.int l4), some (.int v1), some (.int l6), some (.int l7), some (.int l8), some (.int l9), some (.int l10), some (.int l11), some (.int s0)]) dX11_drawn_200 (Nat.le_of_ble_eq_true rfl) rfl ?_
  refine e_iload G (pc := 202) dX11_drawn_202 rfl ?_
  refine e_iload G (pc := 204) dX11_drawn_204 rfl ?_
  refine e_iload_n G (pc := 206) dX11_drawn_206 rfl rfl ?_
  refine e_icmp_ne G (pc := 207) (tgt := 215) dX11_drawn_207 (by decide) ?_ ?_
  · refine e_iconst G (pc := 215) (v := 0) dX11_drawn_215 (by decide) ?_
    refine e_wk (L' := [some (.ref 48), none, some (.int l2), some (.int l3), some (.int l4), some (.int v1), none, some (.int l7), some (.int l8), some (.int l9), some (.int l10), some (.int l11), none]) (And.intro rfl (And.intro rfl (And.intro rfl (And.intro rfl (And.intro rfl (And.intro rfl (And.intro rfl (And.intro rfl (And.intro rfl (And.intro rfl (trivial))))))))))) ?_
    exact t_X11_drawn_B216 G k62 k74 k150 hk62 hk74 hk150 w l2 l3 l4 v1 l7 l8 l9 l10 l11 0 l6 
  · refine e_iload G (pc := 210) dX11_drawn_210 rfl ?_
    refine e_goto G (pc := 212) (tgt := 216) dX11_drawn_212 (by decide) ?_
    refine e_wk (L' := [some (.ref 48), none, some (.int l2), some (.int l3), some (.int l4), some (.int v1), none, some (.int l7), some (.int l8), some (.int l9), some (.int l10), some (.int l11), none]) (And.intro rfl (And.intro rfl (And.intro rfl (And.intro rfl (And.intro rfl (And.intro rfl (And.intro rfl (And.intro rfl (And.intro rfl (And.intro rfl (trivial))))))))))) ?_
    exact t_X11_drawn_B216 G k62 k74 k150 hk62 hk74 hk150 w l2 l3 l4 v1 l7 l8 l9 l10 l11 s0 l6 
set_option maxRecDepth 100000 in
set_option maxHeartbeats 4000000 in
theorem t_X11_drawn_B192 {E : qE} {Γ : qC} (G : q_Ok E Γ RX11 cX11_drawn 13 (109)) (k62 : qW → Int32 → Int32 → Int32 → Int32 → Int32 → Int32 → Option (Int32 × qW)) (k74 : qW → Int32 → Int32 → Int32 → Int32 → Int32 → Int32 → Int32 → Option (Int32 × qW)) (k150 : qW → Int32 → Int32 → Int32 → Int32 → Int32 → Int32 → Int32 → Int32 → Int32 → Int32 → Option (Int32 × qW)) (hk62 : ∀ (w : qW) (l2 : Int32) (l3 : Int32) (l4 : Int32) (l5 : Int32) (l6 : Int32) (l7 : Int32), q_Ev E Γ 13 (q_Fi E Γ cX11_drawn) 62 [some (.ref 48), none, some (.int l2), some (.int l3), some (.int l4), some (.int l5), some (.int l6), some (.int l7), none, none, none, none, none] [] w (k62 w l2 l3 l4 l5 l6 l7)) (hk74 : ∀ (w : qW) (l2 : Int32) (l3 : Int32) (l4 : Int32) (l5 : Int32) (l6 : Int32) (l7 : Int32) (l8 : Int32), q_Ev E Γ 13 (q_Fi E Γ cX11_drawn) 74 [some (.ref 48), none, some (.int l2), some (.int l3), some (.int l4), some (.int l5), some (.int l6), some (.int l7), some (.int l8), none, none, none, none] [] w (k74 w l2 l3 l4 l5 l6 l7 l8)) (hk150 : ∀ (w : qW) (l2 : Int32) (l3 : Int32) (l4 : Int32) (l5 : Int32) (l6 : Int32) (l7 : Int32) (l8 : Int32) (l9 : Int32) (l10 : Int32) (l11 : Int32), q_Ev E Γ 13 (q_Fi E Γ cX11_drawn) 150 [some (.ref 48), none, some (.int l2), some (.int l3), some (.int l4), some (.int l5), some (.int l6), some (.int l7), some (.int l8), some (.int l9), some (.int l10), some (.int l11), none] [] w (k150 w l2 l3 l4 l5 l6 l7 l8 l9 l10 l11)) (w : qW) (l2 : Int32) (l3 : Int32) (l4 : Int32) (l5 : Int32) (l6 : Int32) (l7 : Int32) (l8 : Int32) (l9 : Int32) (l10 : Int32) (l11 : Int32) : q_Ev E Γ 13 (q_Fi E Γ cX11_drawn) 192 [some (.ref 48), none, some (.int l2), some (.int l3), some (.int l4), some (.int l5), some (.int l6), some (.int l7), some (.int l8), some (.int l9), some (.int l10), some (.int l11), none] [] w (f_X11_drawn_B192 k62 k74 k150 w l2 l3 l4 l5 l6 l7 l8 l9 l10 l11) := by
  unfold f_X11_drawn_B192
  refine e_iconst G (pc := 192) (v := 0) dX11_drawn_192 (by decide) ?_
  exact t_X11_drawn_B193 G k62 k74 k150 hk62 hk74 hk150 w l2 l3 l4 l5 l6 l7 l8 l9 l10 l11 0 
set_option maxRecDepth 100000 in
set_option maxHeartbeats 4000000 in
theorem t_X11_drawn_B150 {E : qE} {Γ : qC} (G : q_Ok E Γ RX11 cX11_drawn 13 (109)) (k62 : qW → Int32 → Int32 → Int32 → Int32 → Int32 → Int32 → Option (Int32 × qW)) (k74 : qW → Int32 → Int32 → Int32 → Int32 → Int32 → Int32 → Int32 → Option (Int32 × qW)) (k150 : qW → Int32 → Int32 → Int32 → Int32 → Int32 → Int32 → Int32 → Int32 → Int32 → Int32 → Option (Int32 × qW)) (hk62 : ∀ (w : qW) (l2 : Int32) (l3 : Int32) (l4 : Int32) (l5 : Int32) (l6 : Int32) (l7 : Int32), q_Ev E Γ 13 (q_Fi E Γ cX11_drawn) 62 [some (.ref 48), none, some (.int l2), some (.int l3), some (.int l4), some (.int l5), some (.int l6), some (.int l7), none, none, none, none, none] [] w (k62 w l2 l3 l4 l5 l6 l7)) (hk74 : ∀ (w : qW) (l2 : Int32) (l3 : Int32) (l4 : Int32) (l5 : Int32) (l6 : Int32) (l7 : Int32) (l8 : Int32), q_Ev E Γ 13 (q_Fi E Γ cX11_drawn) 74 [some (.ref 48), none, some (.int l2), some (.int l3), some (.int l4), some (.int l5), some (.int l6), some (.int l7), some (.int l8), none, none, none, none] [] w (k74 w l2 l3 l4 l5 l6 l7 l8)) (hk150 : ∀ (w : qW) (l2 : Int32) (l3 : Int32) (l4 : Int32) (l5 : Int32) (l6 : Int32) (l7 : Int32) (l8 : Int32) (l9 : Int32) (l10 : Int32) (l11 : Int32), q_Ev E Γ 13 (q_Fi E Γ cX11_drawn) 150 [some (.ref 48), none, some (.int l2), some (.int l3), some (.int l4), some (.int l5), some (.int l6), some (.int l7), some (.int l8), some (.int l9), some (.int l10), some (.int l11), none] [] w (k150 w l2 l3 l4 l5 l6 l7 l8 l9 l10 l11)) (w : qW) (l2 : Int32) (l3 : Int32) (l4 : Int32) (l5 : Int32) (l6 : Int32) (l7 : Int32) (l8 : Int32) (l9 : Int32) (l10 : Int32) (l11 : Int32) : q_Ev E Γ 13 (q_Fi E Γ cX11_drawn) 150 [some (.ref 48), none, some (.int l2), some (.int l3), some (.int l4), some (.int l5), some (.int l6), some (.int l7), some (.int l8), some (.int l9), some (.int l10), some (.int l11), none] [] w (f_X11_drawn_B150 k62 k74 k150 w l2 l3 l4 l5 l6 l7 l8 l9 l10 l11) := by
  unfold f_X11_drawn_B150
  refine e_iload G (pc := 150) dX11_drawn_150 rfl ?_
  refine e_aload_n G (pc := 152) dX11_drawn_152 rfl rfl ?_
  refine e_getI G (pc := 153) sh_48 rfl lk_X11_82 dX11_drawn_153 ?_
  refine e_icmp_ge G (pc := 156) (tgt := 225) dX11_drawn_156 (by decide) ?_ ?_
  · refine e_wk (L' := [some (.ref 48), none, some (.int l2), some (.int l3), some (.int l4), some (.int l5), some (.int l6), some (.int l7), some (.int l8), none, none, none, none]) (And.intro rfl (And.intro rfl (And.intro rfl (And.intro rfl (And.intro rfl (And.intro rfl (And.intro rfl (And.intro rfl (trivial))))))))) ?_
    exact t_X11_drawn_B225 G k62 k74 hk62 hk74 w l2 l3 l4 l5 l6 l7 l8 
  · refine e_iload G (pc := 159) dX11_drawn_159 rfl ?_
    refine e_if_ne G (pc := 161) (tgt := 225) dX11_drawn_161 (by decide) ?_ ?_
    · refine e_wk (L' := [some (.ref 48), none, some (.int l2), some (.int l3), some (.int l4), some (.int l5), some (.int l6), some (.int l7), some (.int l8), none, none, none, none]) (And.intro rfl (And.intro rfl (And.intro rfl (And.intro rfl (And.intro rfl (And.intro rfl (And.intro rfl (And.intro rfl (trivial))))))))) ?_
      exact t_X11_drawn_B225 G k62 k74 hk62 hk74 w l2 l3 l4 l5 l6 l7 l8 
    · refine e_aload_n G (pc := 164) dX11_drawn_164 rfl rfl ?_
      refine e_iload G (pc := 165) dX11_drawn_165 rfl ?_
      refine e_iload G (pc := 167) dX11_drawn_167 rfl ?_
      refine e_cVi G (pc := 169) (As := [.int l11, .int l8]) (st := []) cv_X11_213 (c_X11_wants w l11 l8 ) sh_48 (Nat.le_of_ble_eq_true rfl) rfl (Nat.le_of_ble_eq_true rfl) dX11_drawn_169 (fun r1 w2 => ?_)
      refine e_if_eq G (pc := 172) (tgt := 192) dX11_drawn_172 (by decide) ?_ ?_
      · exact t_X11_drawn_B192 G k62 k74 k150 hk62 hk74 hk150 w2 l2 l3 l4 l5 l6 l7 l8 l9 l10 l11 
      · refine e_aload_n G (pc := 175) dX11_drawn_175 rfl rfl ?_
        refine e_iload G (pc := 176) dX11_drawn_176 rfl ?_
        refine e_iload G (pc := 178) dX11_drawn_178 rfl ?_
        refine e_iload G (pc := 180) dX11_drawn_180 rfl ?_
        refine e_cVi G (pc := 182) (As := [.int l11, .int l8, .int l10]) (st := []) cv_X11_216 (c_X11_isServed w2 l11 l8 l10 ) sh_48 (Nat.le_of_ble_eq_true rfl) rfl (Nat.le_of_ble_eq_true rfl) dX11_drawn_182 (fun r3 w4 => ?_)
        refine e_if_ne G (pc := 185) (tgt := 192) dX11_drawn_185 (by decide) ?_ ?_
        · exact t_X11_drawn_B192 G k62 k74 k150 hk62 hk74 hk150 w4 l2 l3 l4 l5 l6 l7 l8 l9 l10 l11 
        · refine e_iconst G (pc := 188) (v := 1) dX11_drawn_188 (by decide) ?_
          refine e_goto G (pc := 189) (tgt := 193) dX11_drawn_189 (by decide) ?_
          exact t_X11_drawn_B193 G k62 k74 k150 hk62 hk74 hk150 w4 l2 l3 l4 l5 l6 l7 l8 l9 l10 l11 1 
set_option maxRecDepth 100000 in
set_option maxHeartbeats 4000000 in
theorem t_X11_drawn_R150 {E : qE} {Γ : qC} (G : q_Ok E Γ RX11 cX11_drawn 13 (109)) (k62 : qW → Int32 → Int32 → Int32 → Int32 → Int32 → Int32 → Option (Int32 × qW)) (k74 : qW → Int32 → Int32 → Int32 → Int32 → Int32 → Int32 → Int32 → Option (Int32 × qW)) (hk62 : ∀ (w : qW) (l2 : Int32) (l3 : Int32) (l4 : Int32) (l5 : Int32) (l6 : Int32) (l7 : Int32), q_Ev E Γ 13 (q_Fi E Γ cX11_drawn) 62 [some (.ref 48), none, some (.int l2), some (.int l3), some (.int l4), some (.int l5), some (.int l6), some (.int l7), none, none, none, none, none] [] w (k62 w l2 l3 l4 l5 l6 l7)) (hk74 : ∀ (w : qW) (l2 : Int32) (l3 : Int32) (l4 : Int32) (l5 : Int32) (l6 : Int32) (l7 : Int32) (l8 : Int32), q_Ev E Γ 13 (q_Fi E Γ cX11_drawn) 74 [some (.ref 48), none, some (.int l2), some (.int l3), some (.int l4), some (.int l5), some (.int l6), some (.int l7), some (.int l8), none, none, none, none] [] w (k74 w l2 l3 l4 l5 l6 l7 l8)) : ∀ (fuel : Nat) (w : qW) (l2 : Int32) (l3 : Int32) (l4 : Int32) (l5 : Int32) (l6 : Int32) (l7 : Int32) (l8 : Int32) (l9 : Int32) (l10 : Int32) (l11 : Int32) , q_Ev E Γ 13 (q_Fi E Γ cX11_drawn) 150 [some (.ref 48), none, some (.int l2), some (.int l3), some (.int l4), some (.int l5), some (.int l6), some (.int l7), some (.int l8), some (.int l9), some (.int l10), some (.int l11), none] [] w (f_X11_drawn_R150 k62 k74 fuel w l2 l3 l4 l5 l6 l7 l8 l9 l10 l11) := by
  intro fuel
  induction fuel with
  | zero => intros; exact e_none
  | succ fuel ih =>
    intro w l2 l3 l4 l5 l6 l7 l8 l9 l10 l11 
    exact t_X11_drawn_B150 G k62 k74 _ hk62 hk74 ih w l2 l3 l4 l5 l6 l7 l8 l9 l10 l11 
set_option maxRecDepth 100000 in
set_option maxHeartbeats 4000000 in
theorem t_X11_drawn_B145 {E : qE} {Γ : qC} (G : q_Ok E Γ RX11 cX11_drawn 13 (109)) (k62 : qW → Int32 → Int32 → Int32 → Int32 → Int32 → Int32 → Option (Int32 × qW)) (k74 : qW → Int32 → Int32 → Int32 → Int32 → Int32 → Int32 → Int32 → Option (Int32 × qW)) (hk62 : ∀ (w : qW) (l2 : Int32) (l3 : Int32) (l4 : Int32) (l5 : Int32) (l6 : Int32) (l7 : Int32), q_Ev E Γ 13 (q_Fi E Γ cX11_drawn) 62 [some (.ref 48), none, some (.int l2), some (.int l3), some (.int l4), some (.int l5), some (.int l6), some (.int l7), none, none, none, none, none] [] w (k62 w l2 l3 l4 l5 l6 l7)) (hk74 : ∀ (w : qW) (l2 : Int32) (l3 : Int32) (l4 : Int32) (l5 : Int32) (l6 : Int32) (l7 : Int32) (l8 : Int32), q_Ev E Γ 13 (q_Fi E Γ cX11_drawn) 74 [some (.ref 48), none, some (.int l2), some (.int l3), some (.int l4), some (.int l5), some (.int l6), some (.int l7), some (.int l8), none, none, none, none] [] w (k74 w l2 l3 l4 l5 l6 l7 l8)) (w : qW) (l2 : Int32) (l3 : Int32) (l4 : Int32) (l5 : Int32) (l6 : Int32) (l7 : Int32) (l8 : Int32) (l9 : Int32) (s0 : Int32) : q_Ev E Γ 13 (q_Fi E Γ cX11_drawn) 145 [some (.ref 48), none, some (.int l2), some (.int l3), some (.int l4), some (.int l5), some (.int l6), some (.int l7), some (.int l8), some (.int l9), none, none, none] [.int s0] w (f_X11_drawn_B145 k62 k74 w l2 l3 l4 l5 l6 l7 l8 l9 s0) := by
  unfold f_X11_drawn_B145
  refine e_istore G (pc := 145) (L' := [some (.ref 48), none, some (.int l2), some (.int l3), some (.int l4), some (.int l5), some (.int l6), some (.int l7), some (.int l8), some (.int l9), some (.int s0), none, none]) dX11_drawn_145 (Nat.le_of_ble_eq_true rfl) rfl ?_
  refine e_iconst G (pc := 147) (v := 0) dX11_drawn_147 (by decide) ?_
  refine e_istore G (pc := 148) (L' := [some (.ref 48), none, some (.int l2), some (.int l3), some (.int l4), some (.int l5), some (.int l6), some (.int l7), some (.int l8), some (.int l9), some (.int s0), some (.int 0), none]) dX11_drawn_148 (Nat.le_of_ble_eq_true rfl) rfl ?_
  exact t_X11_drawn_R150 G k62 k74 hk62 hk74  q_fuel w l2 l3 l4 l5 l6 l7 l8 l9 s0 0 
set_option maxRecDepth 100000 in
set_option maxHeartbeats 4000000 in
theorem t_X11_drawn_B113 {E : qE} {Γ : qC} (G : q_Ok E Γ RX11 cX11_drawn 13 (109)) (k62 : qW → Int32 → Int32 → Int32 → Int32 → Int32 → Int32 → Option (Int32 × qW)) (k74 : qW → Int32 → Int32 → Int32 → Int32 → Int32 → Int32 → Int32 → Option (Int32 × qW)) (hk62 : ∀ (w : qW) (l2 : Int32) (l3 : Int32) (l4 : Int32) (l5 : Int32) (l6 : Int32) (l7 : Int32), q_Ev E Γ 13 (q_Fi E Γ cX11_drawn) 62 [some (.ref 48), none, some (.int l2), some (.int l3), some (.int l4), some (.int l5), some (.int l6), some (.int l7), none, none, none, none, none] [] w (k62 w l2 l3 l4 l5 l6 l7)) (hk74 : ∀ (w : qW) (l2 : Int32) (l3 : Int32) (l4 : Int32) (l5 : Int32) (l6 : Int32) (l7 : Int32) (l8 : Int32), q_Ev E Γ 13 (q_Fi E Γ cX11_drawn) 74 [some (.ref 48), none, some (.int l2), some (.int l3), some (.int l4), some (.int l5), some (.int l6), some (.int l7), some (.int l8), none, none, none, none] [] w (k74 w l2 l3 l4 l5 l6 l7 l8)) (w : qW) (l2 : Int32) (l3 : Int32) (l4 : Int32) (l5 : Int32) (l6 : Int32) (l7 : Int32) (l8 : Int32) (s0 : Int32) : q_Ev E Γ 13 (q_Fi E Γ cX11_drawn) 113 [some (.ref 48), none, some (.int l2), some (.int l3), some (.int l4), some (.int l5), some (.int l6), some (.int l7), some (.int l8), none, none, none, none] [.int s0] w (f_X11_drawn_B113 k62 k74 w l2 l3 l4 l5 l6 l7 l8 s0) := by
  unfold f_X11_drawn_B113
  refine e_istore G (pc := 113) (L' := [some (.ref 48), none, some (.int l2), some (.int l3), some (.int l4), some (.int l5), some (.int l6), some (.int l7), some (.int l8), some (.int s0), none, none, none]) dX11_drawn_113 (Nat.le_of_ble_eq_true rfl) rfl ?_
  refine e_aload_n G (pc := 115) dX11_drawn_115 rfl rfl ?_
  refine e_getI G (pc := 116) sh_48 rfl lk_X11_75 dX11_drawn_116 ?_
  refine e_if_ne G (pc := 119) (tgt := 126) dX11_drawn_119 (by decide) ?_ ?_
  · refine e_aload_n G (pc := 126) dX11_drawn_126 rfl rfl ?_
    refine e_cVi G (pc := 127) (As := []) (st := []) cv_X11_207 (c_X11_everybody w  ) sh_48 (Nat.le_of_ble_eq_true rfl) rfl (Nat.le_of_ble_eq_true rfl) dX11_drawn_127 (fun r1 w2 => ?_)
    refine e_iconst G (pc := 130) (v := 1) dX11_drawn_130 (by decide) ?_
    refine e_iload G (pc := 131) dX11_drawn_131 rfl ?_
    refine e_bipush G (pc := 133) (v := 16) dX11_drawn_133 (by decide) ?_
    refine e_iushr G (pc := 135) dX11_drawn_135 ?_
    refine e_aload_n G (pc := 136) dX11_drawn_136 rfl rfl ?_
    refine e_getI G (pc := 137) sh_48 rfl lk_X11_75 dX11_drawn_137 ?_
    refine e_irem_z G (pc := 140) dX11_drawn_140 ?_
    refine e_ishl G (pc := 141) dX11_drawn_141 ?_
    refine e_iconst G (pc := 142) (v := (-1)) dX11_drawn_142 (by decide) ?_
    refine e_ixor G (pc := 143) dX11_drawn_143 ?_
    refine e_iand G (pc := 144) dX11_drawn_144 ?_
    exact t_X11_drawn_B145 G k62 k74 hk62 hk74 w2 l2 l3 l4 l5 l6 l7 l8 s0 (r1 &&& (((1 : Int32) <<< ((q_rem (q_ush l4 16) (q_I w2 48 6)) &&& 31)) ^^^ (-1))) 
  · refine e_iconst G (pc := 122) (v := 0) dX11_drawn_122 (by decide) ?_
    refine e_goto G (pc := 123) (tgt := 145) dX11_drawn_123 (by decide) ?_
    exact t_X11_drawn_B145 G k62 k74 hk62 hk74 w l2 l3 l4 l5 l6 l7 l8 s0 0 
set_option maxRecDepth 100000 in
set_option maxHeartbeats 4000000 in
theorem t_X11_drawn_B74 {E : qE} {Γ : qC} (G : q_Ok E Γ RX11 cX11_drawn 13 (109)) (k62 : qW → Int32 → Int32 → Int32 → Int32 → Int32 → Int32 → Option (Int32 × qW)) (k74 : qW → Int32 → Int32 → Int32 → Int32 → Int32 → Int32 → Int32 → Option (Int32 × qW)) (hk62 : ∀ (w : qW) (l2 : Int32) (l3 : Int32) (l4 : Int32) (l5 : Int32) (l6 : Int32) (l7 : Int32), q_Ev E Γ 13 (q_Fi E Γ cX11_drawn) 62 [some (.ref 48), none, some (.int l2), some (.int l3), some (.int l4), some (.int l5), some (.int l6), some (.int l7), none, none, none, none, none] [] w (k62 w l2 l3 l4 l5 l6 l7)) (hk74 : ∀ (w : qW) (l2 : Int32) (l3 : Int32) (l4 : Int32) (l5 : Int32) (l6 : Int32) (l7 : Int32) (l8 : Int32), q_Ev E Γ 13 (q_Fi E Γ cX11_drawn) 74 [some (.ref 48), none, some (.int l2), some (.int l3), some (.int l4), some (.int l5), some (.int l6), some (.int l7), some (.int l8), none, none, none, none] [] w (k74 w l2 l3 l4 l5 l6 l7 l8)) (w : qW) (l2 : Int32) (l3 : Int32) (l4 : Int32) (l5 : Int32) (l6 : Int32) (l7 : Int32) (l8 : Int32) : q_Ev E Γ 13 (q_Fi E Γ cX11_drawn) 74 [some (.ref 48), none, some (.int l2), some (.int l3), some (.int l4), some (.int l5), some (.int l6), some (.int l7), some (.int l8), none, none, none, none] [] w (f_X11_drawn_B74 k62 k74 w l2 l3 l4 l5 l6 l7 l8) := by
  unfold f_X11_drawn_B74
  refine e_iload G (pc := 74) dX11_drawn_74 rfl ?_
  refine e_bipush G (pc := 76) (v := 12) dX11_drawn_76 (by decide) ?_
  refine e_icmp_ge G (pc := 78) (tgt := 231) dX11_drawn_78 (by decide) ?_ ?_
  · refine e_iinc G (pc := 231) (x := l7) (v := l7 + 1) (L' := fun v1 => [some (.ref 48), none, some (.int l2), some (.int l3), some (.int l4), some (.int l5), some (.int l6), some (.int v1), some (.int l8), none, none, none, none]) dX11_drawn_231 (Nat.le_of_ble_eq_true rfl) rfl (by rfl) (fun _ => rfl) (fun v1 => ?_)
    refine e_goto G (pc := 234) (tgt := 62) dX11_drawn_234 (by decide) ?_
    refine e_wk (L' := [some (.ref 48), none, some (.int l2), some (.int l3), some (.int l4), some (.int l5), some (.int l6), some (.int v1), none, none, none, none, none]) (And.intro rfl (And.intro rfl (And.intro rfl (And.intro rfl (And.intro rfl (And.intro rfl (And.intro rfl (trivial)))))))) ?_
    exact hk62 w l2 l3 l4 l5 l6 v1 
  · refine e_iload G (pc := 81) dX11_drawn_81 rfl ?_
    refine e_ldcw G (pc := 83) kc_X11_262 dX11_drawn_83 ?_
    refine e_imul G (pc := 86) dX11_drawn_86 ?_
    refine e_sipush G (pc := 87) (v := 12345) dX11_drawn_87 (by decide) ?_
    refine e_iadd G (pc := 90) dX11_drawn_90 ?_
    refine e_ti (fun v2 => ?_)
    refine e_istore G (pc := 91) (L' := [some (.ref 48), none, some (.int l2), some (.int l3), some (.int v2), some (.int l5), some (.int l6), some (.int l7), some (.int l8), none, none, none, none]) dX11_drawn_91 (Nat.le_of_ble_eq_true rfl) rfl ?_
    refine e_iload G (pc := 93) dX11_drawn_93 rfl ?_
    refine e_bipush G (pc := 95) (v := 8) dX11_drawn_95 (by decide) ?_
    refine e_iushr G (pc := 97) dX11_drawn_97 ?_
    refine e_bipush G (pc := 98) (v := 12) dX11_drawn_98 (by decide) ?_
    refine e_irem G (pc := 100) dX11_drawn_100 (by decide) ?_
    refine e_iload_n G (pc := 101) dX11_drawn_101 rfl rfl ?_
    refine e_bipush G (pc := 102) (v := 100) dX11_drawn_102 (by decide) ?_
    refine e_irem G (pc := 104) dX11_drawn_104 (by decide) ?_
    refine e_icmp_ge G (pc := 105) (tgt := 112) dX11_drawn_105 (by decide) ?_ ?_
    · refine e_iconst G (pc := 112) (v := 0) dX11_drawn_112 (by decide) ?_
      exact t_X11_drawn_B113 G k62 k74 hk62 hk74 w l2 l3 v2 l5 l6 l7 l8 0 
    · refine e_iconst G (pc := 108) (v := 1) dX11_drawn_108 (by decide) ?_
      refine e_goto G (pc := 109) (tgt := 113) dX11_drawn_109 (by decide) ?_
      exact t_X11_drawn_B113 G k62 k74 hk62 hk74 w l2 l3 v2 l5 l6 l7 l8 1 
set_option maxRecDepth 100000 in
set_option maxHeartbeats 4000000 in
theorem t_X11_drawn_R74 {E : qE} {Γ : qC} (G : q_Ok E Γ RX11 cX11_drawn 13 (109)) (k62 : qW → Int32 → Int32 → Int32 → Int32 → Int32 → Int32 → Option (Int32 × qW)) (hk62 : ∀ (w : qW) (l2 : Int32) (l3 : Int32) (l4 : Int32) (l5 : Int32) (l6 : Int32) (l7 : Int32), q_Ev E Γ 13 (q_Fi E Γ cX11_drawn) 62 [some (.ref 48), none, some (.int l2), some (.int l3), some (.int l4), some (.int l5), some (.int l6), some (.int l7), none, none, none, none, none] [] w (k62 w l2 l3 l4 l5 l6 l7)) : ∀ (fuel : Nat) (w : qW) (l2 : Int32) (l3 : Int32) (l4 : Int32) (l5 : Int32) (l6 : Int32) (l7 : Int32) (l8 : Int32) , q_Ev E Γ 13 (q_Fi E Γ cX11_drawn) 74 [some (.ref 48), none, some (.int l2), some (.int l3), some (.int l4), some (.int l5), some (.int l6), some (.int l7), some (.int l8), none, none, none, none] [] w (f_X11_drawn_R74 k62 fuel w l2 l3 l4 l5 l6 l7 l8) := by
  intro fuel
  induction fuel with
  | zero => intros; exact e_none
  | succ fuel ih =>
    intro w l2 l3 l4 l5 l6 l7 l8 
    exact t_X11_drawn_B74 G k62 _ hk62 ih w l2 l3 l4 l5 l6 l7 l8 
set_option maxRecDepth 100000 in
set_option maxHeartbeats 4000000 in
theorem t_X11_drawn_B62 {E : qE} {Γ : qC} (G : q_Ok E Γ RX11 cX11_drawn 13 (109)) (k62 : qW → Int32 → Int32 → Int32 → Int32 → Int32 → Int32 → Option (Int32 × qW)) (hk62 : ∀ (w : qW) (l2 : Int32) (l3 : Int32) (l4 : Int32) (l5 : Int32) (l6 : Int32) (l7 : Int32), q_Ev E Γ 13 (q_Fi E Γ cX11_drawn) 62 [some (.ref 48), none, some (.int l2), some (.int l3), some (.int l4), some (.int l5), some (.int l6), some (.int l7), none, none, none, none, none] [] w (k62 w l2 l3 l4 l5 l6 l7)) (w : qW) (l2 : Int32) (l3 : Int32) (l4 : Int32) (l5 : Int32) (l6 : Int32) (l7 : Int32) : q_Ev E Γ 13 (q_Fi E Γ cX11_drawn) 62 [some (.ref 48), none, some (.int l2), some (.int l3), some (.int l4), some (.int l5), some (.int l6), some (.int l7), none, none, none, none, none] [] w (f_X11_drawn_B62 k62 w l2 l3 l4 l5 l6 l7) := by
  unfold f_X11_drawn_B62
  refine e_iload G (pc := 62) dX11_drawn_62 rfl ?_
  refine e_iload_n G (pc := 64) dX11_drawn_64 rfl rfl ?_
  refine e_bipush G (pc := 65) (v := 100) dX11_drawn_65 (by decide) ?_
  refine e_idiv G (pc := 67) dX11_drawn_67 (by decide) ?_
  refine e_icmp_ge G (pc := 68) (tgt := 237) dX11_drawn_68 (by decide) ?_ ?_
  · refine e_iload_n G (pc := 237) dX11_drawn_237 rfl rfl ?_
    refine e_if_ge G (pc := 238) (tgt := 246) dX11_drawn_238 (by decide) ?_ ?_
    · refine e_iload G (pc := 246) dX11_drawn_246 rfl ?_
      exact e_iret dX11_drawn_248
    · refine e_iload G (pc := 241) dX11_drawn_241 rfl ?_
      refine e_goto G (pc := 243) (tgt := 248) dX11_drawn_243 (by decide) ?_
      exact e_iret dX11_drawn_248
  · refine e_iconst G (pc := 71) (v := 0) dX11_drawn_71 (by decide) ?_
    refine e_istore G (pc := 72) (L' := [some (.ref 48), none, some (.int l2), some (.int l3), some (.int l4), some (.int l5), some (.int l6), some (.int l7), some (.int 0), none, none, none, none]) dX11_drawn_72 (Nat.le_of_ble_eq_true rfl) rfl ?_
    exact t_X11_drawn_R74 G k62 hk62  q_fuel w l2 l3 l4 l5 l6 l7 0 
set_option maxRecDepth 100000 in
set_option maxHeartbeats 4000000 in
theorem t_X11_drawn_R62 {E : qE} {Γ : qC} (G : q_Ok E Γ RX11 cX11_drawn 13 (109)) : ∀ (fuel : Nat) (w : qW) (l2 : Int32) (l3 : Int32) (l4 : Int32) (l5 : Int32) (l6 : Int32) (l7 : Int32) , q_Ev E Γ 13 (q_Fi E Γ cX11_drawn) 62 [some (.ref 48), none, some (.int l2), some (.int l3), some (.int l4), some (.int l5), some (.int l6), some (.int l7), none, none, none, none, none] [] w (f_X11_drawn_R62 fuel w l2 l3 l4 l5 l6 l7) := by
  intro fuel
  induction fuel with
  | zero => intros; exact e_none
  | succ fuel ih =>
    intro w l2 l3 l4 l5 l6 l7 
    exact t_X11_drawn_B62 G _ ih w l2 l3 l4 l5 l6 l7 
set_option maxRecDepth 100000 in
set_option maxHeartbeats 4000000 in
theorem t_X11_drawn_B50 {E : qE} {Γ : qC} (G : q_Ok E Γ RX11 cX11_drawn 13 (109)) (w : qW) (l1 : Int32) (l2 : Int32) (l3 : Int32) : q_Ev E Γ 13 (q_Fi E Γ cX11_drawn) 50 [some (.ref 48), some (.int l1), some (.int l2), some (.int l3), none, none, none, none, none, none, none, none, none] [] w (f_X11_drawn_B50 w l1 l2 l3) := by
  unfold f_X11_drawn_B50
  refine e_iload_n G (pc := 50) dX11_drawn_50 rfl rfl ?_
  refine e_istore G (pc := 51) (L' := [some (.ref 48), some (.int l1), some (.int l2), some (.int l3), some (.int l1), none, none, none, none, none, none, none, none]) dX11_drawn_51 (Nat.le_of_ble_eq_true rfl) rfl ?_
  refine e_iconst G (pc := 53) (v := 0) dX11_drawn_53 (by decide) ?_
  refine e_istore G (pc := 54) (L' := [some (.ref 48), some (.int l1), some (.int l2), some (.int l3), some (.int l1), some (.int 0), none, none, none, none, none, none, none]) dX11_drawn_54 (Nat.le_of_ble_eq_true rfl) rfl ?_
  refine e_iconst G (pc := 56) (v := 0) dX11_drawn_56 (by decide) ?_
  refine e_istore G (pc := 57) (L' := [some (.ref 48), some (.int l1), some (.int l2), some (.int l3), some (.int l1), some (.int 0), some (.int 0), none, none, none, none, none, none]) dX11_drawn_57 (Nat.le_of_ble_eq_true rfl) rfl ?_
  refine e_iconst G (pc := 59) (v := 0) dX11_drawn_59 (by decide) ?_
  refine e_istore G (pc := 60) (L' := [some (.ref 48), some (.int l1), some (.int l2), some (.int l3), some (.int l1), some (.int 0), some (.int 0), some (.int 0), none, none, none, none, none]) dX11_drawn_60 (Nat.le_of_ble_eq_true rfl) rfl ?_
  refine e_wk (L' := [some (.ref 48), none, some (.int l2), some (.int l3), some (.int l1), some (.int 0), some (.int 0), some (.int 0), none, none, none, none, none]) (And.intro rfl (And.intro rfl (And.intro rfl (And.intro rfl (And.intro rfl (And.intro rfl (And.intro rfl (trivial)))))))) ?_
  exact t_X11_drawn_R62 G  q_fuel w l2 l3 l1 0 0 0 
set_option maxRecDepth 100000 in
set_option maxHeartbeats 4000000 in
theorem t_X11_drawn {E : qE} {Γ : qC} (G : q_Ok E Γ RX11 cX11_drawn 13 (109)) (w : qW) (a1 : Int32) (a2 : Int32) (a3 : Int32) : q_Ev E Γ 13 (q_Fi E Γ cX11_drawn) 0 [some (.ref 48), some (.int a1), some (.int a2), some (.int a3), none, none, none, none, none, none, none, none, none] [] w (f_X11_drawn w a1 a2 a3) := by
  unfold f_X11_drawn
  refine e_iload_n G (pc := 0) dX11_drawn_0 rfl rfl ?_
  refine e_if_lt G (pc := 1) (tgt := 48) dX11_drawn_1 (by decide) ?_ ?_
  · refine e_iconst G (pc := 48) (v := (-1)) dX11_drawn_48 (by decide) ?_
    exact e_iret dX11_drawn_49
  · refine e_iload_n G (pc := 4) dX11_drawn_4 rfl rfl ?_
    refine e_bipush G (pc := 5) (v := 100) dX11_drawn_5 (by decide) ?_
    refine e_idiv G (pc := 7) dX11_drawn_7 (by decide) ?_
    refine e_i2l G (pc := 8) dX11_drawn_8 ?_
    refine e_lconst G (pc := 9) (v := 1) dX11_drawn_9 (by decide) ?_
    refine e_ldc2 G (pc := 10) kl_X11_260 dX11_drawn_10 ?_
    refine e_cSi G (pc := 13) (ci := 0) (id := 0) (sl := []) (As := [.long (Int32.toInt64 (a2 / 100)), .long 1, .long 30]) (st := []) cs_X11_78 (c_X11_within w (Int32.toInt64 (a2 / 100)) 1 30 ) (Nat.le_of_ble_eq_true rfl) rfl (Nat.le_of_ble_eq_true rfl) dX11_drawn_13 (fun r1 w2 => ?_)
    refine e_if_eq G (pc := 16) (tgt := 48) dX11_drawn_16 (by decide) ?_ ?_
    · refine e_iconst G (pc := 48) (v := (-1)) dX11_drawn_48 (by decide) ?_
      exact e_iret dX11_drawn_49
    · refine e_iload_n G (pc := 19) dX11_drawn_19 rfl rfl ?_
      refine e_bipush G (pc := 20) (v := 100) dX11_drawn_20 (by decide) ?_
      refine e_irem G (pc := 22) dX11_drawn_22 (by decide) ?_
      refine e_i2l G (pc := 23) dX11_drawn_23 ?_
      refine e_lconst G (pc := 24) (v := 0) dX11_drawn_24 (by decide) ?_
      refine e_ldc2 G (pc := 25) kl_X11_97 dX11_drawn_25 ?_
      refine e_cSi G (pc := 28) (ci := 0) (id := 0) (sl := []) (As := [.long (Int32.toInt64 (q_rem a2 100)), .long 0, .long 12]) (st := []) cs_X11_78 (c_X11_within w2 (Int32.toInt64 (q_rem a2 100)) 0 12 ) (Nat.le_of_ble_eq_true rfl) rfl (Nat.le_of_ble_eq_true rfl) dX11_drawn_28 (fun r3 w4 => ?_)
      refine e_if_eq G (pc := 31) (tgt := 48) dX11_drawn_31 (by decide) ?_ ?_
      · refine e_iconst G (pc := 48) (v := (-1)) dX11_drawn_48 (by decide) ?_
        exact e_iret dX11_drawn_49
      · refine e_iload_n G (pc := 34) dX11_drawn_34 rfl rfl ?_
        refine e_iconst G (pc := 35) (v := (-1)) dX11_drawn_35 (by decide) ?_
        refine e_icmp_eq G (pc := 36) (tgt := 50) dX11_drawn_36 (by decide) ?_ ?_
        · exact t_X11_drawn_B50 G w4 a1 a2 a3 
        · refine e_aload_n G (pc := 39) dX11_drawn_39 rfl rfl ?_
          refine e_iload_n G (pc := 40) dX11_drawn_40 rfl rfl ?_
          refine e_i2l G (pc := 41) dX11_drawn_41 ?_
          refine e_cVi G (pc := 42) (As := [.long (Int32.toInt64 a3)]) (st := []) cv_X11_121 (c_X11_isSitter w4 (Int32.toInt64 a3) ) sh_48 (Nat.le_of_ble_eq_true rfl) rfl (Nat.le_of_ble_eq_true rfl) dX11_drawn_42 (fun r5 w6 => ?_)
          refine e_if_ne G (pc := 45) (tgt := 50) dX11_drawn_45 (by decide) ?_ ?_
          · exact t_X11_drawn_B50 G w6 a1 a2 a3 
          · refine e_iconst G (pc := 48) (v := (-1)) dX11_drawn_48 (by decide) ?_
            exact e_iret dX11_drawn_49
set_option maxRecDepth 100000 in
set_option maxHeartbeats 4000000 in
theorem c_X11_drawn (w : qW) (a1 : Int32) (a2 : Int32) (a3 : Int32) : q_AC q_vi (some .int) (109) yX11_drawn cX11_drawn 13 [.ref 48, .int a1, .int a2, .int a3] w (f_X11_drawn w a1 a2 a3) := q_met_i (k := 9) (by decide +kernel) rfl rfl rfl (fun _ _ G => t_X11_drawn G w a1 a2 a3 )
