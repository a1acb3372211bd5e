set_option maxRecDepth 100000 in
set_option maxHeartbeats 4000000 in
theorem t_X3_readLevel_B39 {n : Nat} {E : qE} {Γ : qC} {r_X3_readLevel : qW → Int32 → Int32 → Option (Int32 × qW)} {r_X3_readOperand : qW → Int32 → Option (Int32 × qW)} (G : q_Ok E Γ RX3 cX3_readLevel 6 (4 + n + 1)) (hr_X3_readLevel : ∀ (w : qW) (a1 : Int32) (a2 : Int32), q_AC q_vi (some .boolean) (4 + n) yX3_readLevel cX3_readLevel 6 [.ref 3, .int a1, .int a2] w (r_X3_readLevel w a1 a2)) (hr_X3_readOperand : ∀ (w : qW) (a1 : Int32), q_AC q_vi (some .boolean) (4 + n) yX3_readOperand cX3_readOperand 5 [.ref 3, .int a1] w (r_X3_readOperand w a1)) (k39 : qW → Int32 → Int32 → Int32 → Int32 → Option (Int32 × qW)) (hk39 : ∀ (w : qW) (l1 : Int32) (l2 : Int32) (l3 : Int32) (l4 : Int32), q_Ev E Γ 6 (q_Fz E Γ cX3_readLevel) 39 [some (.ref 3), some (.int l1), some (.int l2), some (.int l3), some (.int l4), none] [] w (k39 w l1 l2 l3 l4)) (w : qW) (l1 : Int32) (l2 : Int32) (l3 : Int32) (l4 : Int32) : q_Ev E Γ 6 (q_Fz E Γ cX3_readLevel) 39 [some (.ref 3), some (.int l1), some (.int l2), some (.int l3), some (.int l4), none] [] w (f_X3_readLevel_B39 r_X3_readLevel r_X3_readOperand k39 w l1 l2 l3 l4) := by
  unfold f_X3_readLevel_B39
  refine e_iload G (pc := 39) dX3_readLevel_39 rfl ?_
  refine e_iload_n G (pc := 41) dX3_readLevel_41 rfl rfl ?_
  refine e_icmp_ge G (pc := 42) (tgt := 98) dX3_readLevel_42 (by decide) ?_ ?_
  · refine e_iconst G (pc := 98) (v := 1) dX3_readLevel_98 (by decide) ?_
    exact e_zret dX3_readLevel_99
  · refine e_iload_n G (pc := 45) dX3_readLevel_45 rfl rfl ?_
    refine e_aload_n G (pc := 46) dX3_readLevel_46 rfl rfl ?_
    refine e_cVi G (pc := 47) (As := []) (st := [.int l1]) cv_X3_59 (c_X3_next w  ) sh_3 (by omega) rfl (Nat.le_of_ble_eq_true rfl) dX3_readLevel_47 (fun r1 w2 => ?_)
    refine e_cSi G (pc := 50) (ci := 0) (id := 0) (sl := []) (As := [.int l1, .int r1]) (st := []) cs_X3_75 (c_X3_operator w2 l1 r1 ) (by omega) rfl (Nat.le_of_ble_eq_true rfl) dX3_readLevel_50 (fun r3 w4 => ?_)
    refine e_istore G (pc := 53) (L' := [some (.ref 3), some (.int l1), some (.int l2), some (.int l3), some (.int l4), some (.int r3)]) dX3_readLevel_53 (Nat.le_of_ble_eq_true rfl) rfl ?_
    refine e_iload G (pc := 55) dX3_readLevel_55 rfl ?_
    refine e_if_ge G (pc := 57) (tgt := 62) dX3_readLevel_57 (by decide) ?_ ?_
    · refine e_aload_n G (pc := 62) dX3_readLevel_62 rfl rfl ?_
      refine e_dup G (pc := 63) dX3_readLevel_63 rfl ?_
      refine e_getI G (pc := 64) sh_3 rfl lk_X3_31 dX3_readLevel_64 ?_
      refine e_iconst G (pc := 67) (v := 1) dX3_readLevel_67 (by decide) ?_
      refine e_iadd G (pc := 68) dX3_readLevel_68 ?_
      refine e_putI G (pc := 69) sh_3 rfl lp_X3_31 rfl rfl dX3_readLevel_69 (fun w5 => ?_)
      refine e_aload_n G (pc := 72) dX3_readLevel_72 rfl rfl ?_
      refine e_iload_n G (pc := 73) dX3_readLevel_73 rfl rfl ?_
      refine e_iconst G (pc := 74) (v := 1) dX3_readLevel_74 (by decide) ?_
      refine e_iadd G (pc := 75) dX3_readLevel_75 ?_
      refine e_iload_n G (pc := 76) dX3_readLevel_76 rfl rfl ?_
      refine e_cVi G (pc := 77) (As := [.int (l1 + 1), .int l2]) (st := []) cv_X3_63 (hr_X3_readLevel w5 (l1 + 1) l2 ) sh_3 (by omega) rfl (Nat.le_of_ble_eq_true rfl) dX3_readLevel_77 (fun r6 w7 => ?_)
      refine e_if_ne G (pc := 80) (tgt := 85) dX3_readLevel_80 (by decide) ?_ ?_
      · refine e_aload_n G (pc := 85) dX3_readLevel_85 rfl rfl ?_
        refine e_iload G (pc := 86) dX3_readLevel_86 rfl ?_
        refine e_iconst G (pc := 88) (v := 0) dX3_readLevel_88 (by decide) ?_
        refine e_cVv G (pc := 89) (As := [.int r3, .int 0]) (st := []) cv_X3_67 (c_X3_write w7 r3 0 ) sh_3 (by omega) rfl (Nat.le_of_ble_eq_true rfl) dX3_readLevel_89 (fun r8 w9 => ?_)
        refine e_iinc G (pc := 92) (x := l4) (v := l4 + 1) (L' := fun v10 => [some (.ref 3), some (.int l1), some (.int l2), some (.int l3), some (.int v10), some (.int r3)]) dX3_readLevel_92 (Nat.le_of_ble_eq_true rfl) rfl (by rfl) (fun _ => rfl) (fun v10 => ?_)
        refine e_goto G (pc := 95) (tgt := 39) dX3_readLevel_95 (by decide) ?_
        refine e_wk (L' := [some (.ref 3), some (.int l1), some (.int l2), some (.int l3), some (.int v10), none]) (And.intro rfl (And.intro rfl (And.intro rfl (And.intro rfl (And.intro rfl (trivial)))))) ?_
        exact hk39 w9 l1 l2 l3 v10 
      · refine e_iconst G (pc := 83) (v := 0) dX3_readLevel_83 (by decide) ?_
        exact e_zret dX3_readLevel_84
    · refine e_iconst G (pc := 60) (v := 1) dX3_readLevel_60 (by decide) ?_
      exact e_zret dX3_readLevel_61
set_option maxRecDepth 100000 in
set_option maxHeartbeats 4000000 in
theorem t_X3_readLevel_R39 {n : Nat} {E : qE} {Γ : qC} {r_X3_readLevel : qW → Int32 → Int32 → Option (Int32 × qW)} {r_X3_readOperand : qW → Int32 → Option (Int32 × qW)} (G : q_Ok E Γ RX3 cX3_readLevel 6 (4 + n + 1)) (hr_X3_readLevel : ∀ (w : qW) (a1 : Int32) (a2 : Int32), q_AC q_vi (some .boolean) (4 + n) yX3_readLevel cX3_readLevel 6 [.ref 3, .int a1, .int a2] w (r_X3_readLevel w a1 a2)) (hr_X3_readOperand : ∀ (w : qW) (a1 : Int32), q_AC q_vi (some .boolean) (4 + n) yX3_readOperand cX3_readOperand 5 [.ref 3, .int a1] w (r_X3_readOperand w a1)) : ∀ (fuel : Nat) (w : qW) (l1 : Int32) (l2 : Int32) (l3 : Int32) (l4 : Int32) , q_Ev E Γ 6 (q_Fz E Γ cX3_readLevel) 39 [some (.ref 3), some (.int l1), some (.int l2), some (.int l3), some (.int l4), none] [] w (f_X3_readLevel_R39 r_X3_readLevel r_X3_readOperand fuel w l1 l2 l3 l4) := by
  intro fuel
  induction fuel with
  | zero => intros; exact e_none
  | succ fuel ih =>
    intro w l1 l2 l3 l4 
    exact t_X3_readLevel_B39 G hr_X3_readLevel hr_X3_readOperand _ ih w l1 l2 l3 l4 
set_option maxRecDepth 100000 in
set_option maxHeartbeats 4000000 in
theorem t_X3_readLevel_B35 {n : Nat} {E : qE} {Γ : qC} {r_X3_readLevel : qW → Int32 → Int32 → Option (Int32 × qW)} {r_X3_readOperand : qW → Int32 → Option (Int32 × qW)} (G : q_Ok E Γ RX3 cX3_readLevel 6 (4 + n + 1)) (hr_X3_readLevel : ∀ (w : qW) (a1 : Int32) (a2 : Int32), q_AC q_vi (some .boolean) (4 + n) yX3_readLevel cX3_readLevel 6 [.ref 3, .int a1, .int a2] w (r_X3_readLevel w a1 a2)) (hr_X3_readOperand : ∀ (w : qW) (a1 : Int32), q_AC q_vi (some .boolean) (4 + n) yX3_readOperand cX3_readOperand 5 [.ref 3, .int a1] w (r_X3_readOperand w a1)) (w : qW) (l1 : Int32) (l2 : Int32) (s0 : Int32) : q_Ev E Γ 6 (q_Fz E Γ cX3_readLevel) 35 [some (.ref 3), some (.int l1), some (.int l2), none, none, none] [.int s0] w (f_X3_readLevel_B35 r_X3_readLevel r_X3_readOperand w l1 l2 s0) := by
  unfold f_X3_readLevel_B35
  refine e_istore_n G (pc := 35) (L' := [some (.ref 3), some (.int l1), some (.int l2), some (.int s0), none, none]) dX3_readLevel_35 rfl (Nat.le_of_ble_eq_true rfl) rfl ?_
  refine e_iconst G (pc := 36) (v := 0) dX3_readLevel_36 (by decide) ?_
  refine e_istore G (pc := 37) (L' := [some (.ref 3), some (.int l1), some (.int l2), some (.int s0), some (.int 0), none]) dX3_readLevel_37 (Nat.le_of_ble_eq_true rfl) rfl ?_
  exact t_X3_readLevel_R39 G hr_X3_readLevel hr_X3_readOperand  q_fuel w l1 l2 s0 0 
set_option maxRecDepth 100000 in
set_option maxHeartbeats 4000000 in
theorem t_X3_readLevel {n : Nat} {E : qE} {Γ : qC} {r_X3_readLevel : qW → Int32 → Int32 → Option (Int32 × qW)} {r_X3_readOperand : qW → Int32 → Option (Int32 × qW)} (G : q_Ok E Γ RX3 cX3_readLevel 6 (4 + n + 1)) (hr_X3_readLevel : ∀ (w : qW) (a1 : Int32) (a2 : Int32), q_AC q_vi (some .boolean) (4 + n) yX3_readLevel cX3_readLevel 6 [.ref 3, .int a1, .int a2] w (r_X3_readLevel w a1 a2)) (hr_X3_readOperand : ∀ (w : qW) (a1 : Int32), q_AC q_vi (some .boolean) (4 + n) yX3_readOperand cX3_readOperand 5 [.ref 3, .int a1] w (r_X3_readOperand w a1)) (w : qW) (a1 : Int32) (a2 : Int32) : q_Ev E Γ 6 (q_Fz E Γ cX3_readLevel) 0 [some (.ref 3), some (.int a1), some (.int a2), none, none, none] [] w (b_X3_readLevel r_X3_readLevel r_X3_readOperand w a1 a2) := by
  unfold b_X3_readLevel
  refine e_iload_n G (pc := 0) dX3_readLevel_0 rfl rfl ?_
  refine e_iconst G (pc := 1) (v := 5) dX3_readLevel_1 (by decide) ?_
  refine e_icmp_lt G (pc := 2) (tgt := 11) dX3_readLevel_2 (by decide) ?_ ?_
  · refine e_aload_n G (pc := 11) dX3_readLevel_11 rfl rfl ?_
    refine e_iload_n G (pc := 12) dX3_readLevel_12 rfl rfl ?_
    refine e_iconst G (pc := 13) (v := 1) dX3_readLevel_13 (by decide) ?_
    refine e_iadd G (pc := 14) dX3_readLevel_14 ?_
    refine e_iload_n G (pc := 15) dX3_readLevel_15 rfl rfl ?_
    refine e_cVi G (pc := 16) (As := [.int (a1 + 1), .int a2]) (st := []) cv_X3_63 (hr_X3_readLevel w (a1 + 1) a2 ) sh_3 (by omega) rfl (Nat.le_of_ble_eq_true rfl) dX3_readLevel_16 (fun r1 w2 => ?_)
    refine e_if_ne G (pc := 19) (tgt := 24) dX3_readLevel_19 (by decide) ?_ ?_
    · refine e_iload_n G (pc := 24) dX3_readLevel_24 rfl rfl ?_
      refine e_iconst G (pc := 25) (v := 2) dX3_readLevel_25 (by decide) ?_
      refine e_icmp_ne G (pc := 26) (tgt := 33) dX3_readLevel_26 (by decide) ?_ ?_
      · refine e_bipush G (pc := 33) (v := 120) dX3_readLevel_33 (by decide) ?_
        exact t_X3_readLevel_B35 G hr_X3_readLevel hr_X3_readOperand w2 a1 a2 120 
      · refine e_iconst G (pc := 29) (v := 1) dX3_readLevel_29 (by decide) ?_
        refine e_goto G (pc := 30) (tgt := 35) dX3_readLevel_30 (by decide) ?_
        exact t_X3_readLevel_B35 G hr_X3_readLevel hr_X3_readOperand w2 a1 a2 1 
    · refine e_iconst G (pc := 22) (v := 0) dX3_readLevel_22 (by decide) ?_
      exact e_zret dX3_readLevel_23
  · refine e_aload_n G (pc := 5) dX3_readLevel_5 rfl rfl ?_
    refine e_iload_n G (pc := 6) dX3_readLevel_6 rfl rfl ?_
    refine e_cVi G (pc := 7) (As := [.int a2]) (st := []) cv_X3_71 (hr_X3_readOperand w a2 ) sh_3 (by omega) rfl (Nat.le_of_ble_eq_true rfl) dX3_readLevel_7 (fun r3 w4 => ?_)
    exact e_zret dX3_readLevel_10
set_option maxRecDepth 100000 in
set_option maxHeartbeats 4000000 in
theorem t_X3_readOperand_B108 {n : Nat} {E : qE} {Γ : qC} {r_X3_readLevel : qW → Int32 → Int32 → Option (Int32 × qW)} {r_X3_readOperand : qW → Int32 → Option (Int32 × qW)} (G : q_Ok E Γ RX3 cX3_readOperand 5 (4 + n + 1)) (hr_X3_readLevel : ∀ (w : qW) (a1 : Int32) (a2 : Int32), q_AC q_vi (some .boolean) (4 + n) yX3_readLevel cX3_readLevel 6 [.ref 3, .int a1, .int a2] w (r_X3_readLevel w a1 a2)) (hr_X3_readOperand : ∀ (w : qW) (a1 : Int32), q_AC q_vi (some .boolean) (4 + n) yX3_readOperand cX3_readOperand 5 [.ref 3, .int a1] w (r_X3_readOperand w a1)) (w : qW) (l4 : Int32) (s0 : Int32) : q_Ev E Γ 5 (q_Fz E Γ cX3_readOperand) 108 [none, none, none, none, some (.int l4)] [.int s0, .ref 3] w (f_X3_readOperand_B108 r_X3_readLevel r_X3_readOperand w l4 s0) := by
  unfold f_X3_readOperand_B108
  refine e_iconst G (pc := 108) (v := 0) dX3_readOperand_108 (by decide) ?_
  refine e_cVv G (pc := 109) (As := [.int s0, .int 0]) (st := []) cv_X3_67 (c_X3_write w s0 0 ) sh_3 (by omega) rfl (Nat.le_of_ble_eq_true rfl) dX3_readOperand_109 (fun r1 w2 => ?_)
  refine e_iload G (pc := 112) dX3_readOperand_112 rfl ?_
  exact e_zret dX3_readOperand_114
set_option maxRecDepth 100000 in
set_option maxHeartbeats 4000000 in
theorem t_X3_readOperand_B71 {n : Nat} {E : qE} {Γ : qC} {r_X3_readLevel : qW → Int32 → Int32 → Option (Int32 × qW)} {r_X3_readOperand : qW → Int32 → Option (Int32 × qW)} (G : q_Ok E Γ RX3 cX3_readOperand 5 (4 + n + 1)) (hr_X3_readLevel : ∀ (w : qW) (a1 : Int32) (a2 : Int32), q_AC q_vi (some .boolean) (4 + n) yX3_readLevel cX3_readLevel 6 [.ref 3, .int a1, .int a2] w (r_X3_readLevel w a1 a2)) (hr_X3_readOperand : ∀ (w : qW) (a1 : Int32), q_AC q_vi (some .boolean) (4 + n) yX3_readOperand cX3_readOperand 5 [.ref 3, .int a1] w (r_X3_readOperand w a1)) (w : qW) (l1 : Int32) (l2 : Int32) : q_Ev E Γ 5 (q_Fz E Γ cX3_readOperand) 71 [some (.ref 3), some (.int l1), some (.int l2), none, none] [] w (f_X3_readOperand_B71 r_X3_readLevel r_X3_readOperand w l1 l2) := by
  unfold f_X3_readOperand_B71
  refine e_aload_n G (pc := 71) dX3_readOperand_71 rfl rfl ?_
  refine e_dup G (pc := 72) dX3_readOperand_72 rfl ?_
  refine e_getI G (pc := 73) sh_3 rfl lk_X3_31 dX3_readOperand_73 ?_
  refine e_iconst G (pc := 76) (v := 1) dX3_readOperand_76 (by decide) ?_
  refine e_iadd G (pc := 77) dX3_readOperand_77 ?_
  refine e_putI G (pc := 78) sh_3 rfl lp_X3_31 rfl rfl dX3_readOperand_78 (fun w1 => ?_)
  refine e_iload_n G (pc := 81) dX3_readOperand_81 rfl rfl ?_
  refine e_bipush G (pc := 82) (v := 40) dX3_readOperand_82 (by decide) ?_
  refine e_icmp_eq G (pc := 84) (tgt := 115) dX3_readOperand_84 (by decide) ?_ ?_
  · refine e_aload_n G (pc := 115) dX3_readOperand_115 rfl rfl ?_
    refine e_iconst G (pc := 116) (v := 0) dX3_readOperand_116 (by decide) ?_
    refine e_iload_n G (pc := 117) dX3_readOperand_117 rfl rfl ?_
    refine e_iconst G (pc := 118) (v := 1) dX3_readOperand_118 (by decide) ?_
    refine e_iadd G (pc := 119) dX3_readOperand_119 ?_
    refine e_cVi G (pc := 120) (As := [.int 0, .int (l1 + 1)]) (st := []) cv_X3_63 (hr_X3_readLevel w1 0 (l1 + 1) ) sh_3 (by omega) rfl (Nat.le_of_ble_eq_true rfl) dX3_readOperand_120 (fun r2 w3 => ?_)
    refine e_if_eq G (pc := 123) (tgt := 135) dX3_readOperand_123 (by decide) ?_ ?_
    · refine e_iconst G (pc := 135) (v := 0) dX3_readOperand_135 (by decide) ?_
      exact e_zret dX3_readOperand_136
    · refine e_aload_n G (pc := 126) dX3_readOperand_126 rfl rfl ?_
      refine e_cVi G (pc := 127) (As := []) (st := []) cv_X3_59 (c_X3_next w3  ) sh_3 (by omega) rfl (Nat.le_of_ble_eq_true rfl) dX3_readOperand_127 (fun r4 w5 => ?_)
      refine e_bipush G (pc := 130) (v := 41) dX3_readOperand_130 (by decide) ?_
      refine e_icmp_eq G (pc := 132) (tgt := 137) dX3_readOperand_132 (by decide) ?_ ?_
      · refine e_aload_n G (pc := 137) dX3_readOperand_137 rfl rfl ?_
        refine e_dup G (pc := 138) dX3_readOperand_138 rfl ?_
        refine e_getI G (pc := 139) sh_3 rfl lk_X3_31 dX3_readOperand_139 ?_
        refine e_iconst G (pc := 142) (v := 1) dX3_readOperand_142 (by decide) ?_
        refine e_iadd G (pc := 143) dX3_readOperand_143 ?_
        refine e_putI G (pc := 144) sh_3 rfl lp_X3_31 rfl rfl dX3_readOperand_144 (fun w6 => ?_)
        refine e_iconst G (pc := 147) (v := 1) dX3_readOperand_147 (by decide) ?_
        exact e_zret dX3_readOperand_148
      · refine e_iconst G (pc := 135) (v := 0) dX3_readOperand_135 (by decide) ?_
        exact e_zret dX3_readOperand_136
  · refine e_aload_n G (pc := 87) dX3_readOperand_87 rfl rfl ?_
    refine e_iload_n G (pc := 88) dX3_readOperand_88 rfl rfl ?_
    refine e_iconst G (pc := 89) (v := 1) dX3_readOperand_89 (by decide) ?_
    refine e_iadd G (pc := 90) dX3_readOperand_90 ?_
    refine e_cVi G (pc := 91) (As := [.int (l1 + 1)]) (st := []) cv_X3_71 (hr_X3_readOperand w1 (l1 + 1) ) sh_3 (by omega) rfl (Nat.le_of_ble_eq_true rfl) dX3_readOperand_91 (fun r7 w8 => ?_)
    refine e_istore G (pc := 94) (L' := [some (.ref 3), some (.int l1), some (.int l2), none, some (.int r7)]) dX3_readOperand_94 (Nat.le_of_ble_eq_true rfl) rfl ?_
    refine e_aload_n G (pc := 96) dX3_readOperand_96 rfl rfl ?_
    refine e_iload_n G (pc := 97) dX3_readOperand_97 rfl rfl ?_
    refine e_bipush G (pc := 98) (v := 33) dX3_readOperand_98 (by decide) ?_
    refine e_icmp_ne G (pc := 100) (tgt := 107) dX3_readOperand_100 (by decide) ?_ ?_
    · refine e_iconst G (pc := 107) (v := 5) dX3_readOperand_107 (by decide) ?_
      refine e_wk (L' := [none, none, none, none, some (.int r7)]) (And.intro rfl (trivial)) ?_
      exact t_X3_readOperand_B108 G hr_X3_readLevel hr_X3_readOperand w8 r7 5 
    · refine e_iconst G (pc := 103) (v := 4) dX3_readOperand_103 (by decide) ?_
      refine e_goto G (pc := 104) (tgt := 108) dX3_readOperand_104 (by decide) ?_
      refine e_wk (L' := [none, none, none, none, some (.int r7)]) (And.intro rfl (trivial)) ?_
      exact t_X3_readOperand_B108 G hr_X3_readLevel hr_X3_readOperand w8 r7 4 
set_option maxRecDepth 100000 in
set_option maxHeartbeats 4000000 in
theorem t_X3_readOperand {n : Nat} {E : qE} {Γ : qC} {r_X3_readLevel : qW → Int32 → Int32 → Option (Int32 × qW)} {r_X3_readOperand : qW → Int32 → Option (Int32 × qW)} (G : q_Ok E Γ RX3 cX3_readOperand 5 (4 + n + 1)) (hr_X3_readLevel : ∀ (w : qW) (a1 : Int32) (a2 : Int32), q_AC q_vi (some .boolean) (4 + n) yX3_readLevel cX3_readLevel 6 [.ref 3, .int a1, .int a2] w (r_X3_readLevel w a1 a2)) (hr_X3_readOperand : ∀ (w : qW) (a1 : Int32), q_AC q_vi (some .boolean) (4 + n) yX3_readOperand cX3_readOperand 5 [.ref 3, .int a1] w (r_X3_readOperand w a1)) (w : qW) (a1 : Int32) : q_Ev E Γ 5 (q_Fz E Γ cX3_readOperand) 0 [some (.ref 3), some (.int a1), none, none, none] [] w (b_X3_readOperand r_X3_readLevel r_X3_readOperand w a1) := by
  unfold b_X3_readOperand
  refine e_aload_n G (pc := 0) dX3_readOperand_0 rfl rfl ?_
  refine e_cVi G (pc := 1) (As := []) (st := []) cv_X3_59 (c_X3_next w  ) sh_3 (by omega) rfl (Nat.le_of_ble_eq_true rfl) dX3_readOperand_1 (fun r1 w2 => ?_)
  refine e_istore_n G (pc := 4) (L' := [some (.ref 3), some (.int a1), some (.int r1), none, none]) dX3_readOperand_4 rfl (Nat.le_of_ble_eq_true rfl) rfl ?_
  refine e_iload_n G (pc := 5) dX3_readOperand_5 rfl rfl ?_
  refine e_cSi G (pc := 6) (ci := 0) (id := 0) (sl := []) (As := [.int r1]) (st := []) cs_X3_79 (c_X3_isDigit w2 r1 ) (by omega) rfl (Nat.le_of_ble_eq_true rfl) dX3_readOperand_6 (fun r3 w4 => ?_)
  refine e_if_eq G (pc := 9) (tgt := 18) dX3_readOperand_9 (by decide) ?_ ?_
  · refine e_iload_n G (pc := 18) dX3_readOperand_18 rfl rfl ?_
    refine e_cSi G (pc := 19) (ci := 0) (id := 0) (sl := []) (As := [.int r1]) (st := []) cs_X3_85 (c_X3_nameOf w4 r1 ) (by omega) rfl (Nat.le_of_ble_eq_true rfl) dX3_readOperand_19 (fun r5 w6 => ?_)
    refine e_istore_n G (pc := 22) (L' := [some (.ref 3), some (.int a1), some (.int r1), some (.int r5), none]) dX3_readOperand_22 rfl (Nat.le_of_ble_eq_true rfl) rfl ?_
    refine e_iload_n G (pc := 23) dX3_readOperand_23 rfl rfl ?_
    refine e_if_lt G (pc := 24) (tgt := 45) dX3_readOperand_24 (by decide) ?_ ?_
    · refine e_iload_n G (pc := 45) dX3_readOperand_45 rfl rfl ?_
      refine e_bipush G (pc := 46) (v := 6) dX3_readOperand_46 (by decide) ?_
      refine e_icmp_ge G (pc := 48) (tgt := 69) dX3_readOperand_48 (by decide) ?_ ?_
      · refine e_iconst G (pc := 69) (v := 0) dX3_readOperand_69 (by decide) ?_
        exact e_zret dX3_readOperand_70
      · refine e_iload_n G (pc := 51) dX3_readOperand_51 rfl rfl ?_
        refine e_bipush G (pc := 52) (v := 40) dX3_readOperand_52 (by decide) ?_
        refine e_icmp_eq G (pc := 54) (tgt := 71) dX3_readOperand_54 (by decide) ?_ ?_
        · refine e_wk (L' := [some (.ref 3), some (.int a1), some (.int r1), none, none]) (And.intro rfl (And.intro rfl (And.intro rfl (trivial)))) ?_
          exact t_X3_readOperand_B71 G hr_X3_readLevel hr_X3_readOperand w6 a1 r1 
        · refine e_iload_n G (pc := 57) dX3_readOperand_57 rfl rfl ?_
          refine e_bipush G (pc := 58) (v := 33) dX3_readOperand_58 (by decide) ?_
          refine e_icmp_eq G (pc := 60) (tgt := 71) dX3_readOperand_60 (by decide) ?_ ?_
          · refine e_wk (L' := [some (.ref 3), some (.int a1), some (.int r1), none, none]) (And.intro rfl (And.intro rfl (And.intro rfl (trivial)))) ?_
            exact t_X3_readOperand_B71 G hr_X3_readLevel hr_X3_readOperand w6 a1 r1 
          · refine e_iload_n G (pc := 63) dX3_readOperand_63 rfl rfl ?_
            refine e_bipush G (pc := 64) (v := 45) dX3_readOperand_64 (by decide) ?_
            refine e_icmp_eq G (pc := 66) (tgt := 71) dX3_readOperand_66 (by decide) ?_ ?_
            · refine e_wk (L' := [some (.ref 3), some (.int a1), some (.int r1), none, none]) (And.intro rfl (And.intro rfl (And.intro rfl (trivial)))) ?_
              exact t_X3_readOperand_B71 G hr_X3_readLevel hr_X3_readOperand w6 a1 r1 
            · refine e_iconst G (pc := 69) (v := 0) dX3_readOperand_69 (by decide) ?_
              exact e_zret dX3_readOperand_70
    · refine e_aload_n G (pc := 27) dX3_readOperand_27 rfl rfl ?_
      refine e_dup G (pc := 28) dX3_readOperand_28 rfl ?_
      refine e_getI G (pc := 29) sh_3 rfl lk_X3_31 dX3_readOperand_29 ?_
      refine e_iconst G (pc := 32) (v := 1) dX3_readOperand_32 (by decide) ?_
      refine e_iadd G (pc := 33) dX3_readOperand_33 ?_
      refine e_putI G (pc := 34) sh_3 rfl lp_X3_31 rfl rfl dX3_readOperand_34 (fun w7 => ?_)
      refine e_aload_n G (pc := 37) dX3_readOperand_37 rfl rfl ?_
      refine e_iconst G (pc := 38) (v := 1) dX3_readOperand_38 (by decide) ?_
      refine e_iload_n G (pc := 39) dX3_readOperand_39 rfl rfl ?_
      refine e_cVv G (pc := 40) (As := [.int 1, .int r5]) (st := []) cv_X3_67 (c_X3_write w7 1 r5 ) sh_3 (by omega) rfl (Nat.le_of_ble_eq_true rfl) dX3_readOperand_40 (fun r8 w9 => ?_)
      refine e_iconst G (pc := 43) (v := 1) dX3_readOperand_43 (by decide) ?_
      exact e_zret dX3_readOperand_44
  · refine e_aload_n G (pc := 12) dX3_readOperand_12 rfl rfl ?_
    refine e_cVv G (pc := 13) (As := []) (st := []) cv_X3_82 (c_X3_readNumber w4  ) sh_3 (by omega) rfl (Nat.le_of_ble_eq_true rfl) dX3_readOperand_13 (fun r10 w11 => ?_)
    refine e_iconst G (pc := 16) (v := 1) dX3_readOperand_16 (by decide) ?_
    exact e_zret dX3_readOperand_17
set_option maxRecDepth 100000 in
set_option maxHeartbeats 4000000 in
theorem g_X3_readLevel : ∀ n : Nat, (∀ (w : qW) (a1 : Int32) (a2 : Int32), q_AC q_vi (some .boolean) (4 + n) yX3_readLevel cX3_readLevel 6 [.ref 3, .int a1, .int a2] w (((G_X3_readLevel n).1) w a1 a2)) ∧ (∀ (w : qW) (a1 : Int32), q_AC q_vi (some .boolean) (4 + n) yX3_readOperand cX3_readOperand 5 [.ref 3, .int a1] w (((G_X3_readLevel n).2) w a1)) := by
  intro n
  induction n with
  | zero => exact ⟨(fun _ _ _ _ _ _ _ h => (by cases h)), (fun _ _ _ _ _ _ h => (by cases h))⟩
  | succ n ih =>
    refine ⟨?_, ?_⟩
    · exact fun w a1 a2  => q_met_z (k := 3) (by decide +kernel) rfl rfl rfl (fun _ _ G => t_X3_readLevel G (ih.1) (ih.2) w a1 a2 )
    · exact fun w a1  => q_met_z (k := 3) (by decide +kernel) rfl rfl rfl (fun _ _ G => t_X3_readOperand G (ih.1) (ih.2) w a1 )

set_option maxRecDepth 100000 in
set_option maxHeartbeats 4000000 in
theorem c_X3_readLevel (w : qW) (a1 : Int32) (a2 : Int32) : q_AC q_vi (some .boolean) (104) yX3_readLevel cX3_readLevel 6 [.ref 3, .int a1, .int a2] w (f_X3_readLevel w a1 a2) := (g_X3_readLevel q_rfuel).1 w a1 a2 
set_option maxRecDepth 100000 in
set_option maxHeartbeats 4000000 in
theorem c_X3_readOperand (w : qW) (a1 : Int32) : q_AC q_vi (some .boolean) (104) yX3_readOperand cX3_readOperand 5 [.ref 3, .int a1] w (f_X3_readOperand w a1) := (g_X3_readLevel q_rfuel).2 w a1 
set_option maxRecDepth 100000 in
set_option maxHeartbeats 4000000 in
theorem t_X3_readLine {E : qE} {Γ : qC} (G : q_Ok E Γ RX3 cX3_readLine 2 (105)) (w : qW) : q_Ev E Γ 2 (q_Fz E Γ cX3_readLine) 0 [some (.ref 3), none] [] w (f_X3_readLine w ) := by
  unfold f_X3_readLine
  refine e_aload_n G (pc := 0) dX3_readLine_0 rfl rfl ?_
  refine e_iconst G (pc := 1) (v := 0) dX3_readLine_1 (by decide) ?_
  refine e_iconst G (pc := 2) (v := 0) dX3_readLine_2 (by decide) ?_
  refine e_cVi G (pc := 3) (As := [.int 0, .int 0]) (st := []) cv_X3_63 (c_X3_readLevel w 0 0 ) sh_3 (Nat.le_of_ble_eq_true rfl) rfl (Nat.le_of_ble_eq_true rfl) dX3_readLine_3 (fun r1 w2 => ?_)
  refine e_if_ne G (pc := 6) (tgt := 11) dX3_readLine_6 (by decide) ?_ ?_
  · refine e_aload_n G (pc := 11) dX3_readLine_11 rfl rfl ?_
    refine e_cVi G (pc := 12) (As := []) (st := []) cv_X3_59 (c_X3_next w2  ) sh_3 (Nat.le_of_ble_eq_true rfl) rfl (Nat.le_of_ble_eq_true rfl) dX3_readLine_12 (fun r3 w4 => ?_)
    refine e_bipush G (pc := 15) (v := 63) dX3_readLine_15 (by decide) ?_
    refine e_icmp_ne G (pc := 17) (tgt := 83) dX3_readLine_17 (by decide) ?_ ?_
    · refine e_aload_n G (pc := 83) dX3_readLine_83 rfl rfl ?_
      refine e_iconst G (pc := 84) (v := 2) dX3_readLine_84 (by decide) ?_
      refine e_iconst G (pc := 85) (v := 0) dX3_readLine_85 (by decide) ?_
      refine e_cVv G (pc := 86) (As := [.int 2, .int 0]) (st := []) cv_X3_67 (c_X3_write w4 2 0 ) sh_3 (Nat.le_of_ble_eq_true rfl) rfl (Nat.le_of_ble_eq_true rfl) dX3_readLine_86 (fun r5 w6 => ?_)
      refine e_iconst G (pc := 89) (v := 1) dX3_readLine_89 (by decide) ?_
      exact e_zret dX3_readLine_90
    · refine e_aload_n G (pc := 20) dX3_readLine_20 rfl rfl ?_
      refine e_dup G (pc := 21) dX3_readLine_21 rfl ?_
      refine e_getI G (pc := 22) sh_3 rfl lk_X3_31 dX3_readLine_22 ?_
      refine e_iconst G (pc := 25) (v := 1) dX3_readLine_25 (by decide) ?_
      refine e_iadd G (pc := 26) dX3_readLine_26 ?_
      refine e_putI G (pc := 27) sh_3 rfl lp_X3_31 rfl rfl dX3_readLine_27 (fun w7 => ?_)
      refine e_aload_n G (pc := 30) dX3_readLine_30 rfl rfl ?_
      refine e_getI G (pc := 31) sh_3 rfl lk_X3_34 dX3_readLine_31 ?_
      refine e_ti (fun v8 => ?_)
      refine e_istore_n G (pc := 34) (L' := [some (.ref 3), some (.int v8)]) dX3_readLine_34 rfl (Nat.le_of_ble_eq_true rfl) rfl ?_
      refine e_aload_n G (pc := 35) dX3_readLine_35 rfl rfl ?_
      refine e_iconst G (pc := 36) (v := 3) dX3_readLine_36 (by decide) ?_
      refine e_iconst G (pc := 37) (v := 0) dX3_readLine_37 (by decide) ?_
      refine e_cVv G (pc := 38) (As := [.int 3, .int 0]) (st := []) cv_X3_67 (c_X3_write w7 3 0 ) sh_3 (Nat.le_of_ble_eq_true rfl) rfl (Nat.le_of_ble_eq_true rfl) dX3_readLine_38 (fun r9 w10 => ?_)
      refine e_aload_n G (pc := 41) dX3_readLine_41 rfl rfl ?_
      refine e_iconst G (pc := 42) (v := 0) dX3_readLine_42 (by decide) ?_
      refine e_iconst G (pc := 43) (v := 0) dX3_readLine_43 (by decide) ?_
      refine e_cVi G (pc := 44) (As := [.int 0, .int 0]) (st := []) cv_X3_63 (c_X3_readLevel w10 0 0 ) sh_3 (Nat.le_of_ble_eq_true rfl) rfl (Nat.le_of_ble_eq_true rfl) dX3_readLine_44 (fun r11 w12 => ?_)
      refine e_if_ne G (pc := 47) (tgt := 52) dX3_readLine_47 (by decide) ?_ ?_
      · refine e_aload_n G (pc := 52) dX3_readLine_52 rfl rfl ?_
        refine e_iconst G (pc := 53) (v := 2) dX3_readLine_53 (by decide) ?_
        refine e_iconst G (pc := 54) (v := 0) dX3_readLine_54 (by decide) ?_
        refine e_cVv G (pc := 55) (As := [.int 2, .int 0]) (st := []) cv_X3_67 (c_X3_write w12 2 0 ) sh_3 (Nat.le_of_ble_eq_true rfl) rfl (Nat.le_of_ble_eq_true rfl) dX3_readLine_55 (fun r13 w14 => ?_)
        refine e_iload_n G (pc := 58) dX3_readLine_58 rfl rfl ?_
        refine e_aload_n G (pc := 59) dX3_readLine_59 rfl rfl ?_
        refine e_getD G (pc := 60) (n := 128) sh_3 rfl lk_X3_18 dX3_readLine_60 (fun id15 hs16 => ?_)
        refine e_alen G (pc := 63) hs16 dX3_readLine_63 ?_
        refine e_icmp_ge G (pc := 64) (tgt := 81) dX3_readLine_64 (by decide) ?_ ?_
        · refine e_iconst G (pc := 81) (v := 1) dX3_readLine_81 (by decide) ?_
          exact e_zret dX3_readLine_82
        · refine e_aload_n G (pc := 67) dX3_readLine_67 rfl rfl ?_
          refine e_getD G (pc := 68) (n := 128) sh_3 rfl lk_X3_18 dX3_readLine_68 (fun id17 hs18 => ?_)
          refine e_iload_n G (pc := 71) dX3_readLine_71 rfl rfl ?_
          refine e_iconst G (pc := 72) (v := 3) dX3_readLine_72 (by decide) ?_
          refine e_aload_n G (pc := 73) dX3_readLine_73 rfl rfl ?_
          refine e_getI G (pc := 74) sh_3 rfl lk_X3_34 dX3_readLine_74 ?_
          refine e_iconst G (pc := 77) (v := 5) dX3_readLine_77 (by decide) ?_
          refine e_ishl G (pc := 78) dX3_readLine_78 ?_
          refine e_ior G (pc := 79) dX3_readLine_79 ?_
          refine e_iast G (pc := 80) hs18 dX3_readLine_80 (fun w19 => ?_)
          refine e_iconst G (pc := 81) (v := 1) dX3_readLine_81 (by decide) ?_
          exact e_zret dX3_readLine_82
      · refine e_iconst G (pc := 50) (v := 0) dX3_readLine_50 (by decide) ?_
        exact e_zret dX3_readLine_51
  · refine e_iconst G (pc := 9) (v := 0) dX3_readLine_9 (by decide) ?_
    exact e_zret dX3_readLine_10
set_option maxRecDepth 100000 in
set_option maxHeartbeats 4000000 in
theorem c_X3_readLine (w : qW) : q_AC q_vi (some .boolean) (105) yX3_readLine cX3_readLine 2 [.ref 3] w (f_X3_readLine w ) := q_met_z (k := 1) (by decide +kernel) rfl rfl rfl (fun _ _ G => t_X3_readLine G w  )
set_option maxRecDepth 100000 in
set_option maxHeartbeats 4000000 in
theorem t_X3_readText_B2 {E : qE} {Γ : qC} (G : q_Ok E Γ RX3 cX3_readText 3 (106)) (k2 : qW → Int32 → Option (Int32 × qW)) (hk2 : ∀ (w : qW) (l1 : Int32), q_Ev E Γ 3 (q_Fz E Γ cX3_readText) 2 [some (.ref 3), some (.int l1), none] [] w (k2 w l1)) (w : qW) (l1 : Int32) : q_Ev E Γ 3 (q_Fz E Γ cX3_readText) 2 [some (.ref 3), some (.int l1), none] [] w (f_X3_readText_B2 k2 w l1) := by
  unfold f_X3_readText_B2
  refine e_iload_n G (pc := 2) dX3_readText_2 rfl rfl ?_
  refine e_bipush G (pc := 3) (v := 120) dX3_readText_3 (by decide) ?_
  refine e_icmp_gt G (pc := 5) (tgt := 52) dX3_readText_5 (by decide) ?_ ?_
  · refine e_iconst G (pc := 52) (v := 0) dX3_readText_52 (by decide) ?_
    exact e_zret dX3_readText_53
  · refine e_aload_n G (pc := 8) dX3_readText_8 rfl rfl ?_
    refine e_cVi G (pc := 9) (As := []) (st := []) cv_X3_56 (c_X3_readLine w  ) sh_3 (Nat.le_of_ble_eq_true rfl) rfl (Nat.le_of_ble_eq_true rfl) dX3_readText_9 (fun r1 w2 => ?_)
    refine e_if_ne G (pc := 12) (tgt := 17) dX3_readText_12 (by decide) ?_ ?_
    · refine e_aload_n G (pc := 17) dX3_readText_17 rfl rfl ?_
      refine e_cVi G (pc := 18) (As := []) (st := []) cv_X3_59 (c_X3_next w2  ) sh_3 (Nat.le_of_ble_eq_true rfl) rfl (Nat.le_of_ble_eq_true rfl) dX3_readText_18 (fun r3 w4 => ?_)
      refine e_istore_n G (pc := 21) (L' := [some (.ref 3), some (.int l1), some (.int r3)]) dX3_readText_21 rfl (Nat.le_of_ble_eq_true rfl) rfl ?_
      refine e_iload_n G (pc := 22) dX3_readText_22 rfl rfl ?_
      refine e_if_ge G (pc := 23) (tgt := 28) dX3_readText_23 (by decide) ?_ ?_
      · refine e_iload_n G (pc := 28) dX3_readText_28 rfl rfl ?_
        refine e_bipush G (pc := 29) (v := 59) dX3_readText_29 (by decide) ?_
        refine e_icmp_eq G (pc := 31) (tgt := 36) dX3_readText_31 (by decide) ?_ ?_
        · refine e_aload_n G (pc := 36) dX3_readText_36 rfl rfl ?_
          refine e_dup G (pc := 37) dX3_readText_37 rfl ?_
          refine e_getI G (pc := 38) sh_3 rfl lk_X3_31 dX3_readText_38 ?_
          refine e_iconst G (pc := 41) (v := 1) dX3_readText_41 (by decide) ?_
          refine e_iadd G (pc := 42) dX3_readText_42 ?_
          refine e_putI G (pc := 43) sh_3 rfl lp_X3_31 rfl rfl dX3_readText_43 (fun w5 => ?_)
          refine e_iinc G (pc := 46) (x := l1) (v := l1 + 1) (L' := fun v6 => [some (.ref 3), some (.int v6), some (.int r3)]) dX3_readText_46 (Nat.le_of_ble_eq_true rfl) rfl (by rfl) (fun _ => rfl) (fun v6 => ?_)
          refine e_goto G (pc := 49) (tgt := 2) dX3_readText_49 (by decide) ?_
          refine e_wk (L' := [some (.ref 3), some (.int v6), none]) (And.intro rfl (And.intro rfl (trivial))) ?_
          exact hk2 w5 v6 
        · refine e_iconst G (pc := 34) (v := 0) dX3_readText_34 (by decide) ?_
          exact e_zret dX3_readText_35
      · refine e_iconst G (pc := 26) (v := 1) dX3_readText_26 (by decide) ?_
        exact e_zret dX3_readText_27
    · refine e_iconst G (pc := 15) (v := 0) dX3_readText_15 (by decide) ?_
      exact e_zret dX3_readText_16
set_option maxRecDepth 100000 in
set_option maxHeartbeats 4000000 in
theorem t_X3_readText_R2 {E : qE} {Γ : qC} (G : q_Ok E Γ RX3 cX3_readText 3 (106)) : ∀ (fuel : Nat) (w : qW) (l1 : Int32) , q_Ev E Γ 3 (q_Fz E Γ cX3_readText) 2 [some (.ref 3), some (.int l1), none] [] w (f_X3_readText_R2 fuel w l1) := by
  intro fuel
  induction fuel with
  | zero => intros; exact e_none
  | succ fuel ih =>
    intro w l1 
    exact t_X3_readText_B2 G _ ih w l1 
set_option maxRecDepth 100000 in
set_option maxHeartbeats 4000000 in
theorem t_X3_readText {E : qE} {Γ : qC} (G : q_Ok E Γ RX3 cX3_readText 3 (106)) (w : qW) : q_Ev E Γ 3 (q_Fz E Γ cX3_readText) 0 [some (.ref 3), none, none] [] w (f_X3_readText w ) := by
  unfold f_X3_readText
  refine e_iconst G (pc := 0) (v := 0) dX3_readText_0 (by decide) ?_
  refine e_istore_n G (pc := 1) (L' := [some (.ref 3), some (.int 0), none]) dX3_readText_1 rfl (Nat.le_of_ble_eq_true rfl) rfl ?_
  exact t_X3_readText_R2 G  q_fuel w 0 
set_option maxRecDepth 100000 in
set_option maxHeartbeats 4000000 in
theorem c_X3_readText (w : qW) : q_AC q_vi (some .boolean) (106) yX3_readText cX3_readText 3 [.ref 3] w (f_X3_readText w ) := q_met_z (k := 2) (by decide +kernel) rfl rfl rfl (fun _ _ G => t_X3_readText G w  )
set_option maxRecDepth 100000 in
set_option maxHeartbeats 4000000 in
theorem t_X3_learn {E : qE} {Γ : qC} (G : q_Ok E Γ RX3 cX3_learn 3 (107)) (w : qW) : q_Ev E Γ 3 (q_Fi E Γ cX3_learn) 0 [some (.ref 3), none, none] [] w (f_X3_learn w ) := by
  unfold f_X3_learn
  refine e_aload_n G (pc := 0) dX3_learn_0 rfl rfl ?_
  refine e_iconst G (pc := 1) (v := 0) dX3_learn_1 (by decide) ?_
  refine e_putI G (pc := 2) sh_3 rfl lp_X3_31 rfl rfl dX3_learn_2 (fun w1 => ?_)
  refine e_aload_n G (pc := 5) dX3_learn_5 rfl rfl ?_
  refine e_iconst G (pc := 6) (v := 0) dX3_learn_6 (by decide) ?_
  refine e_putI G (pc := 7) sh_3 rfl lp_X3_34 rfl rfl dX3_learn_7 (fun w2 => ?_)
  refine e_aload_n G (pc := 10) dX3_learn_10 rfl rfl ?_
  refine e_cVi G (pc := 11) (As := []) (st := []) cv_X3_37 (c_X3_readText w2  ) sh_3 (Nat.le_of_ble_eq_true rfl) rfl (Nat.le_of_ble_eq_true rfl) dX3_learn_11 (fun r3 w4 => ?_)
  refine e_istore_n G (pc := 14) (L' := [some (.ref 3), some (.int r3), none]) dX3_learn_14 rfl (Nat.le_of_ble_eq_true rfl) rfl ?_
  refine e_aload_n G (pc := 15) dX3_learn_15 rfl rfl ?_
  refine e_iconst G (pc := 16) (v := 0) dX3_learn_16 (by decide) ?_
  refine e_putI G (pc := 17) sh_3 rfl lp_X3_27 rfl rfl dX3_learn_17 (fun w5 => ?_)
  refine e_iload_n G (pc := 20) dX3_learn_20 rfl rfl ?_
  refine e_if_ne G (pc := 21) (tgt := 29) dX3_learn_21 (by decide) ?_ ?_
  · refine e_aload_n G (pc := 29) dX3_learn_29 rfl rfl ?_
    refine e_getD G (pc := 30) (n := 128) sh_3 rfl lk_X3_15 dX3_learn_30 (fun id6 hs7 => ?_)
    refine e_astore_n G (pc := 33) (L' := [some (.ref 3), some (.int r3), some (.ref id6)]) dX3_learn_33 rfl (Nat.le_of_ble_eq_true rfl) rfl ?_
    refine e_aload_n G (pc := 34) dX3_learn_34 rfl rfl ?_
    refine e_aload_n G (pc := 35) dX3_learn_35 rfl rfl ?_
    refine e_getD G (pc := 36) (n := 128) sh_3 rfl lk_X3_18 dX3_learn_36 (fun id8 hs9 => ?_)
    refine e_putD G (pc := 39) sh_3 rfl lp_X3_15 dX3_learn_39 (fun w10 => ?_)
    refine e_aload_n G (pc := 42) dX3_learn_42 rfl rfl ?_
    refine e_aload_n G (pc := 43) dX3_learn_43 rfl rfl ?_
    refine e_putD G (pc := 44) sh_3 rfl lp_X3_18 dX3_learn_44 (fun w11 => ?_)
    refine e_aload_n G (pc := 47) dX3_learn_47 rfl rfl ?_
    refine e_aload_n G (pc := 48) dX3_learn_48 rfl rfl ?_
    refine e_getI G (pc := 49) sh_3 rfl lk_X3_34 dX3_learn_49 ?_
    refine e_putI G (pc := 52) sh_3 rfl lp_X3_41 rfl rfl dX3_learn_52 (fun w12 => ?_)
    refine e_aload_n G (pc := 55) dX3_learn_55 rfl rfl ?_
    refine e_iconst G (pc := 56) (v := 1) dX3_learn_56 (by decide) ?_
    refine e_putI G (pc := 57) sh_3 rfl lp_X3_44 (by decide) (by decide) dX3_learn_57 (fun w13 => ?_)
    refine e_iconst G (pc := 60) (v := (-1)) dX3_learn_60 (by decide) ?_
    exact e_iret dX3_learn_61
  · refine e_aload_n G (pc := 24) dX3_learn_24 rfl rfl ?_
    refine e_getI G (pc := 25) sh_3 rfl lk_X3_31 dX3_learn_25 ?_
    exact e_iret dX3_learn_28
set_option maxRecDepth 100000 in
set_option maxHeartbeats 4000000 in
theorem c_X3_learn (w : qW) : q_AC q_vi (some .int) (107) yX3_learn cX3_learn 3 [.ref 3] w (f_X3_learn w ) := q_met_i (k := 2) (by decide +kernel) rfl rfl rfl (fun _ _ G => t_X3_learn G w  )
set_option maxRecDepth 100000 in
set_option maxHeartbeats 4000000 in
theorem t_X0_isThree {E : qE} {Γ : qC} (G : q_Ok E Γ RX0 cX0_isThree 6 (3)) (w : qW) (id1 : Nat) (a2 : Int32) (hs1 : q_shelf id1) : q_Ev E Γ 6 (q_Fz E Γ cX0_isThree) 0 [some (.ref id1), some (.int a2), none, none, none, none] [] w (f_X0_isThree w id1 a2) := by
  unfold f_X0_isThree
  refine e_aload_n G (pc := 0) dX0_isThree_0 rfl rfl ?_
  refine e_iload_n G (pc := 1) dX0_isThree_1 rfl rfl ?_
  refine e_cVl G (pc := 2) (As := [.int a2]) (st := []) cv_X0_50 (c_X6_get w id1 a2 hs1) hs1.1 (Nat.le_of_ble_eq_true rfl) rfl (Nat.le_of_ble_eq_true rfl) dX0_isThree_2 (fun r1 w2 => ?_)
  refine e_lstore_n G (pc := 5) (L' := [some (.ref id1), some (.int a2), some (.long r1), none, none, none]) dX0_isThree_5 rfl (Nat.le_of_ble_eq_true rfl) rfl ?_
  refine e_aload_n G (pc := 6) dX0_isThree_6 rfl rfl ?_
  refine e_iload_n G (pc := 7) dX0_isThree_7 rfl rfl ?_
  refine e_iconst G (pc := 8) (v := 1) dX0_isThree_8 (by decide) ?_
  refine e_iadd G (pc := 9) dX0_isThree_9 ?_
  refine e_cVl G (pc := 10) (As := [.int (a2 + 1)]) (st := []) cv_X0_50 (c_X6_get w2 id1 (a2 + 1) hs1) hs1.1 (Nat.le_of_ble_eq_true rfl) rfl (Nat.le_of_ble_eq_true rfl) dX0_isThree_10 (fun r3 w4 => ?_)
  refine e_lstore G (pc := 13) (L' := [some (.ref id1), some (.int a2), some (.long r1), none, some (.long r3), none]) dX0_isThree_13 (Nat.le_of_ble_eq_true rfl) rfl ?_
  refine e_lload_n G (pc := 15) dX0_isThree_15 rfl rfl ?_
  refine e_lconst G (pc := 16) (v := 0) dX0_isThree_16 (by decide) ?_
  refine e_lcmp G (pc := 17) dX0_isThree_17 ?_
  refine e_if_lt G (pc := 18) (tgt := 49) dX0_isThree_18 (by decide) ?_ ?_
  · refine e_iconst G (pc := 49) (v := 0) dX0_isThree_49 (by decide) ?_
    exact e_zret dX0_isThree_50
  · refine e_lload_n G (pc := 21) dX0_isThree_21 rfl rfl ?_
    refine e_ldc2 G (pc := 22) kl_X0_54 dX0_isThree_22 ?_
    refine e_lcmp G (pc := 25) dX0_isThree_25 ?_
    refine e_if_ge G (pc := 26) (tgt := 49) dX0_isThree_26 (by decide) ?_ ?_
    · refine e_iconst G (pc := 49) (v := 0) dX0_isThree_49 (by decide) ?_
      exact e_zret dX0_isThree_50
    · refine e_lload G (pc := 29) dX0_isThree_29 rfl ?_
      refine e_lconst G (pc := 31) (v := 0) dX0_isThree_31 (by decide) ?_
      refine e_lcmp G (pc := 32) dX0_isThree_32 ?_
      refine e_if_lt G (pc := 33) (tgt := 49) dX0_isThree_33 (by decide) ?_ ?_
      · refine e_iconst G (pc := 49) (v := 0) dX0_isThree_49 (by decide) ?_
        exact e_zret dX0_isThree_50
      · refine e_lload G (pc := 36) dX0_isThree_36 rfl ?_
        refine e_ldc2 G (pc := 38) kl_X0_54 dX0_isThree_38 ?_
        refine e_lcmp G (pc := 41) dX0_isThree_41 ?_
        refine e_if_ge G (pc := 42) (tgt := 49) dX0_isThree_42 (by decide) ?_ ?_
        · refine e_iconst G (pc := 49) (v := 0) dX0_isThree_49 (by decide) ?_
          exact e_zret dX0_isThree_50
        · refine e_iconst G (pc := 45) (v := 1) dX0_isThree_45 (by decide) ?_
          refine e_goto G (pc := 46) (tgt := 50) dX0_isThree_46 (by decide) ?_
          exact e_zret dX0_isThree_50
set_option maxRecDepth 100000 in
set_option maxHeartbeats 4000000 in
theorem c_X0_isThree (w : qW) (id1 : Nat) (a2 : Int32) (hs1 : q_shelf id1) : q_AC q_vi (some .boolean) (3) yX0_isThree cX0_isThree 6 [.ref id1, .int a2] w (f_X0_isThree w id1 a2) := q_met_z (k := 4) (by decide +kernel) rfl rfl rfl (fun _ _ G => t_X0_isThree G w id1 a2 hs1)
set_option maxRecDepth 100000 in
set_option maxHeartbeats 4000000 in
theorem t_X0_open_B12 {E : qE} {Γ : qC} (G : q_Ok E Γ RX0 cX0_open 3 (4)) (id1 : Nat) (hs1 : q_shelf id1) (k12 : qW → Int32 → Option (Unit × qW)) (hk12 : ∀ (w : qW) (l2 : Int32), q_Ev E Γ 3 (q_Fv E Γ cX0_open) 12 [some (.ref 16), some (.ref id1), some (.int l2)] [] w (k12 w l2)) (w : qW) (l2 : Int32) : q_Ev E Γ 3 (q_Fv E Γ cX0_open) 12 [some (.ref 16), some (.ref id1), some (.int l2)] [] w (f_X0_open_B12 id1 k12 w l2) := by
  unfold f_X0_open_B12
  refine e_iload_n G (pc := 12) dX0_open_12 rfl rfl ?_
  refine e_aload_n G (pc := 13) dX0_open_13 rfl rfl ?_
  refine e_cVi G (pc := 14) (As := []) (st := [.int l2]) cv_X0_40 (c_X6_size w id1 hs1) hs1.1 (Nat.le_of_ble_eq_true rfl) rfl (Nat.le_of_ble_eq_true rfl) dX0_open_14 (fun r1 w2 => ?_)
  refine e_icmp_ge G (pc := 17) (tgt := 113) dX0_open_17 (by decide) ?_ ?_
  · exact e_vret dX0_open_113
  · refine e_aload_n G (pc := 20) dX0_open_20 rfl rfl ?_
    refine e_getI G (pc := 21) sh_16 rfl lk_X0_32 dX0_open_21 ?_
    refine e_bipush G (pc := 24) (v := 20) dX0_open_24 (by decide) ?_
    refine e_icmp_ge G (pc := 26) (tgt := 113) dX0_open_26 (by decide) ?_ ?_
    · exact e_vret dX0_open_113
    · refine e_iload_n G (pc := 29) dX0_open_29 rfl rfl ?_
      refine e_iconst G (pc := 30) (v := 2) dX0_open_30 (by decide) ?_
      refine e_iadd G (pc := 31) dX0_open_31 ?_
      refine e_aload_n G (pc := 32) dX0_open_32 rfl rfl ?_
      refine e_cVi G (pc := 33) (As := []) (st := [.int (l2 + 2)]) cv_X0_40 (c_X6_size w2 id1 hs1) hs1.1 (Nat.le_of_ble_eq_true rfl) rfl (Nat.le_of_ble_eq_true rfl) dX0_open_33 (fun r3 w4 => ?_)
      refine e_icmp_ge G (pc := 36) (tgt := 47) dX0_open_36 (by decide) ?_ ?_
      · refine e_aload_n G (pc := 47) dX0_open_47 rfl rfl ?_
        refine e_iconst G (pc := 48) (v := 1) dX0_open_48 (by decide) ?_
        refine e_putI G (pc := 49) sh_16 rfl lp_X0_36 (by decide) (by decide) dX0_open_49 (fun w5 => ?_)
        exact e_vret dX0_open_52
      · refine e_aload_n G (pc := 39) dX0_open_39 rfl rfl ?_
        refine e_iload_n G (pc := 40) dX0_open_40 rfl rfl ?_
        refine e_cSi G (pc := 41) (ci := 0) (id := 0) (sl := []) (As := [.ref id1, .int l2]) (st := []) cs_X0_46 (c_X0_isThree w4 id1 l2 hs1) (Nat.le_of_ble_eq_true rfl) rfl (Nat.le_of_ble_eq_true rfl) dX0_open_41 (fun r6 w7 => ?_)
        refine e_if_ne G (pc := 44) (tgt := 53) dX0_open_44 (by decide) ?_ ?_
        · refine e_aload_n G (pc := 53) dX0_open_53 rfl rfl ?_
          refine e_getF G (pc := 54) sh_16 rfl lk_X0_11 dX0_open_54 ?_
          refine e_aload_n G (pc := 57) dX0_open_57 rfl rfl ?_
          refine e_getI G (pc := 58) sh_16 rfl lk_X0_32 dX0_open_58 ?_
          refine e_bipush G (pc := 61) (v := 12) dX0_open_61 (by decide) ?_
          refine e_aload_n G (pc := 63) dX0_open_63 rfl rfl ?_
          refine e_iload_n G (pc := 64) dX0_open_64 rfl rfl ?_
          refine e_iconst G (pc := 65) (v := 1) dX0_open_65 (by decide) ?_
          refine e_iadd G (pc := 66) dX0_open_66 ?_
          refine e_cVl G (pc := 67) (As := [.int (l2 + 1)]) (st := [.int 12, .int (q_I w7 16 4), .ref 17]) cv_X0_50 (c_X6_get w7 id1 (l2 + 1) hs1) hs1.1 (Nat.le_of_ble_eq_true rfl) rfl (Nat.le_of_ble_eq_true rfl) dX0_open_67 (fun r8 w9 => ?_)
          refine e_l2i G (pc := 70) dX0_open_70 ?_
          refine e_imul G (pc := 71) dX0_open_71 ?_
          refine e_aload_n G (pc := 72) dX0_open_72 rfl rfl ?_
          refine e_iload_n G (pc := 73) dX0_open_73 rfl rfl ?_
          refine e_cVl G (pc := 74) (As := [.int l2]) (st := [.int ((12 : Int32) * (Int64.toInt32 r8)), .int (q_I w7 16 4), .ref 17]) cv_X0_50 (c_X6_get w9 id1 l2 hs1) hs1.1 (Nat.le_of_ble_eq_true rfl) rfl (Nat.le_of_ble_eq_true rfl) dX0_open_74 (fun r10 w11 => ?_)
          refine e_l2i G (pc := 77) dX0_open_77 ?_
          refine e_iadd G (pc := 78) dX0_open_78 ?_
          refine e_iast G (pc := 79) sh_17 dX0_open_79 (fun w12 => ?_)
          refine e_aload_n G (pc := 80) dX0_open_80 rfl rfl ?_
          refine e_getF G (pc := 81) sh_16 rfl lk_X0_15 dX0_open_81 ?_
          refine e_aload_n G (pc := 84) dX0_open_84 rfl rfl ?_
          refine e_getI G (pc := 85) sh_16 rfl lk_X0_32 dX0_open_85 ?_
          refine e_aload_n G (pc := 88) dX0_open_88 rfl rfl ?_
          refine e_iload_n G (pc := 89) dX0_open_89 rfl rfl ?_
          refine e_iconst G (pc := 90) (v := 2) dX0_open_90 (by decide) ?_
          refine e_iadd G (pc := 91) dX0_open_91 ?_
          refine e_cVl G (pc := 92) (As := [.int (l2 + 2)]) (st := [.int (q_I w12 16 4), .ref 18]) cv_X0_50 (c_X6_get w12 id1 (l2 + 2) hs1) hs1.1 (Nat.le_of_ble_eq_true rfl) rfl (Nat.le_of_ble_eq_true rfl) dX0_open_92 (fun r13 w14 => ?_)
          refine e_l2i G (pc := 95) dX0_open_95 ?_
          refine e_iast G (pc := 96) sh_18 dX0_open_96 (fun w15 => ?_)
          refine e_aload_n G (pc := 97) dX0_open_97 rfl rfl ?_
          refine e_dup G (pc := 98) dX0_open_98 rfl ?_
          refine e_getI G (pc := 99) sh_16 rfl lk_X0_32 dX0_open_99 ?_
          refine e_iconst G (pc := 102) (v := 1) dX0_open_102 (by decide) ?_
          refine e_iadd G (pc := 103) dX0_open_103 ?_
          refine e_putI G (pc := 104) sh_16 rfl lp_X0_32 rfl rfl dX0_open_104 (fun w16 => ?_)
          refine e_iinc G (pc := 107) (x := l2) (v := l2 + 3) (L' := fun v17 => [some (.ref 16), some (.ref id1), some (.int v17)]) dX0_open_107 (Nat.le_of_ble_eq_true rfl) rfl (by rfl) (fun _ => rfl) (fun v17 => ?_)
          refine e_goto G (pc := 110) (tgt := 12) dX0_open_110 (by decide) ?_
          exact hk12 w16 v17 
        · refine e_aload_n G (pc := 47) dX0_open_47 rfl rfl ?_
          refine e_iconst G (pc := 48) (v := 1) dX0_open_48 (by decide) ?_
          refine e_putI G (pc := 49) sh_16 rfl lp_X0_36 (by decide) (by decide) dX0_open_49 (fun w18 => ?_)
          exact e_vret dX0_open_52
set_option maxRecDepth 100000 in
set_option maxHeartbeats 4000000 in
theorem t_X0_open_R12 {E : qE} {Γ : qC} (G : q_Ok E Γ RX0 cX0_open 3 (4)) (id1 : Nat) (hs1 : q_shelf id1) : ∀ (fuel : Nat) (w : qW) (l2 : Int32) , q_Ev E Γ 3 (q_Fv E Γ cX0_open) 12 [some (.ref 16), some (.ref id1), some (.int l2)] [] w (f_X0_open_R12 id1 fuel w l2) := by
  intro fuel
  induction fuel with
  | zero => intros; exact e_none
  | succ fuel ih =>
    intro w l2 
    exact t_X0_open_B12 G id1 hs1 _ ih w l2 
set_option maxRecDepth 100000 in
set_option maxHeartbeats 4000000 in
theorem t_X0_open {E : qE} {Γ : qC} (G : q_Ok E Γ RX0 cX0_open 3 (4)) (w : qW) (id1 : Nat) (hs1 : q_shelf id1) : q_Ev E Γ 3 (q_Fv E Γ cX0_open) 0 [some (.ref 16), some (.ref id1), none] [] w (f_X0_open w id1) := by
  unfold f_X0_open
  refine e_aload_n G (pc := 0) dX0_open_0 rfl rfl ?_
  refine e_iconst G (pc := 1) (v := 0) dX0_open_1 (by decide) ?_
  refine e_putI G (pc := 2) sh_16 rfl lp_X0_32 rfl rfl dX0_open_2 (fun w1 => ?_)
  refine e_aload_n G (pc := 5) dX0_open_5 rfl rfl ?_
  refine e_iconst G (pc := 6) (v := 0) dX0_open_6 (by decide) ?_
  refine e_putI G (pc := 7) sh_16 rfl lp_X0_36 (by decide) (by decide) dX0_open_7 (fun w2 => ?_)
  refine e_iconst G (pc := 10) (v := 0) dX0_open_10 (by decide) ?_
  refine e_istore_n G (pc := 11) (L' := [some (.ref 16), some (.ref id1), some (.int 0)]) dX0_open_11 rfl (Nat.le_of_ble_eq_true rfl) rfl ?_
  exact t_X0_open_R12 G id1 hs1  q_fuel w2 0 
set_option maxRecDepth 100000 in
set_option maxHeartbeats 4000000 in
theorem c_X0_open (w : qW) (id1 : Nat) (hs1 : q_shelf id1) : q_AC q_vv none (4) yX0_open cX0_open 3 [.ref 16, .ref id1] w (f_X0_open w id1) := q_met_v (k := 1) (by decide +kernel) rfl rfl rfl (fun _ _ G => t_X0_open G w id1 hs1)
set_option maxRecDepth 100000 in
set_option maxHeartbeats 4000000 in
theorem t_X0_firstWrong_B2 {E : qE} {Γ : qC} (G : q_Ok E Γ RX0 cX0_firstWrong 3 (7)) (k2 : qW → Int32 → Int32 → Option (Int32 × qW)) (hk2 : ∀ (w : qW) (l1 : Int32) (l2 : Int32), q_Ev E Γ 3 (q_Fi E Γ cX0_firstWrong) 2 [some (.ref 16), some (.int l1), some (.int l2)] [] w (k2 w l1 l2)) (w : qW) (l1 : Int32) (l2 : Int32) : q_Ev E Γ 3 (q_Fi E Γ cX0_firstWrong) 2 [some (.ref 16), some (.int l1), some (.int l2)] [] w (f_X0_firstWrong_B2 k2 w l1 l2) := by
  unfold f_X0_firstWrong_B2
  refine e_iload_n G (pc := 2) dX0_firstWrong_2 rfl rfl ?_
  refine e_aload_n G (pc := 3) dX0_firstWrong_3 rfl rfl ?_
  refine e_getI G (pc := 4) sh_16 rfl lk_X0_32 dX0_firstWrong_4 ?_
  refine e_icmp_ge G (pc := 7) (tgt := 46) dX0_firstWrong_7 (by decide) ?_ ?_
  · refine e_aload_n G (pc := 46) dX0_firstWrong_46 rfl rfl ?_
    refine e_getI G (pc := 47) sh_16 rfl lk_X0_36 dX0_firstWrong_47 ?_
    refine e_if_eq G (pc := 50) (tgt := 60) dX0_firstWrong_50 (by decide) ?_ ?_
    · refine e_bipush G (pc := 60) (v := (-2)) dX0_firstWrong_60 (by decide) ?_
      exact e_iret dX0_firstWrong_62
    · refine e_aload_n G (pc := 53) dX0_firstWrong_53 rfl rfl ?_
      refine e_getI G (pc := 54) sh_16 rfl lk_X0_32 dX0_firstWrong_54 ?_
      refine e_goto G (pc := 57) (tgt := 62) dX0_firstWrong_57 (by decide) ?_
      exact e_iret dX0_firstWrong_62
  · refine e_bipush G (pc := 10) (v := 12) dX0_firstWrong_10 (by decide) ?_
    refine e_aload_n G (pc := 12) dX0_firstWrong_12 rfl rfl ?_
    refine e_getF G (pc := 13) sh_16 rfl lk_X0_28 dX0_firstWrong_13 ?_
    refine e_aload_n G (pc := 16) dX0_firstWrong_16 rfl rfl ?_
    refine e_getF G (pc := 17) sh_16 rfl lk_X0_11 dX0_firstWrong_17 ?_
    refine e_iload_n G (pc := 20) dX0_firstWrong_20 rfl rfl ?_
    refine e_iald G (pc := 21) sh_17 dX0_firstWrong_21 (fun v1 => ?_)
    refine e_iload_n G (pc := 22) dX0_firstWrong_22 rfl rfl ?_
    refine e_cVi G (pc := 23) (As := [.int v1, .int l1]) (st := [.int 12]) cv_X0_56 (c_X5_byAll w v1 l1 ) sh_9 (Nat.le_of_ble_eq_true rfl) rfl (Nat.le_of_ble_eq_true rfl) dX0_firstWrong_23 (fun r2 w3 => ?_)
    refine e_mmin G (pc := 26) mt_X0_62 (Nat.le_of_ble_eq_true rfl) (Nat.le_of_ble_eq_true rfl) dX0_firstWrong_26 ?_
    refine e_ti (fun v4 => ?_)
    refine e_aload_n G (pc := 29) dX0_firstWrong_29 rfl rfl ?_
    refine e_getF G (pc := 30) sh_16 rfl lk_X0_15 dX0_firstWrong_30 ?_
    refine e_iload_n G (pc := 33) dX0_firstWrong_33 rfl rfl ?_
    refine e_iald G (pc := 34) sh_18 dX0_firstWrong_34 (fun v5 => ?_)
    refine e_icmp_eq G (pc := 35) (tgt := 40) dX0_firstWrong_35 (by decide) ?_ ?_
    · refine e_iinc G (pc := 40) (x := l2) (v := l2 + 1) (L' := fun v6 => [some (.ref 16), some (.int l1), some (.int v6)]) dX0_firstWrong_40 (Nat.le_of_ble_eq_true rfl) rfl (by rfl) (fun _ => rfl) (fun v6 => ?_)
      refine e_goto G (pc := 43) (tgt := 2) dX0_firstWrong_43 (by decide) ?_
      exact hk2 w3 l1 v6 
    · refine e_iload_n G (pc := 38) dX0_firstWrong_38 rfl rfl ?_
      exact e_iret dX0_firstWrong_39
set_option maxRecDepth 100000 in
set_option maxHeartbeats 4000000 in
theorem t_X0_firstWrong_R2 {E : qE} {Γ : qC} (G : q_Ok E Γ RX0 cX0_firstWrong 3 (7)) : ∀ (fuel : Nat) (w : qW) (l1 : Int32) (l2 : Int32) , q_Ev E Γ 3 (q_Fi E Γ cX0_firstWrong) 2 [some (.ref 16), some (.int l1), some (.int l2)] [] w (f_X0_firstWrong_R2 fuel w l1 l2) := by
  intro fuel
  induction fuel with
  | zero => intros; exact e_none
  | succ fuel ih =>
    intro w l1 l2 
    exact t_X0_firstWrong_B2 G _ ih w l1 l2 
set_option maxRecDepth 100000 in
set_option maxHeartbeats 4000000 in
theorem t_X0_firstWrong {E : qE} {Γ : qC} (G : q_Ok E Γ RX0 cX0_firstWrong 3 (7)) (w : qW) (a1 : Int32) : q_Ev E Γ 3 (q_Fi E Γ cX0_firstWrong) 0 [some (.ref 16), some (.int a1), none] [] w (f_X0_firstWrong w a1) := by
  unfold f_X0_firstWrong
  refine e_iconst G (pc := 0) (v := 0) dX0_firstWrong_0 (by decide) ?_
  refine e_istore_n G (pc := 1) (L' := [some (.ref 16), some (.int a1), some (.int 0)]) dX0_firstWrong_1 rfl (Nat.le_of_ble_eq_true rfl) rfl ?_
  exact t_X0_firstWrong_R2 G  q_fuel w a1 0 
set_option maxRecDepth 100000 in
set_option maxHeartbeats 4000000 in
theorem c_X0_firstWrong (w : qW) (a1 : Int32) : q_AC q_vi (some .int) (7) yX0_firstWrong cX0_firstWrong 3 [.ref 16, .int a1] w (f_X0_firstWrong w a1) := q_met_i (k := 1) (by decide +kernel) rfl rfl rfl (fun _ _ G => t_X0_firstWrong G w a1 )
set_option maxRecDepth 100000 in
set_option maxHeartbeats 4000000 in
theorem t_X0_leaveOut_B12 {E : qE} {Γ : qC} (G : q_Ok E Γ RX0 cX0_leaveOut 4 (7)) (k12 : qW → Int32 → Int32 → Int32 → Option (Unit × qW)) (hk12 : ∀ (w : qW) (l1 : Int32) (l2 : Int32) (l3 : Int32), q_Ev E Γ 4 (q_Fv E Γ cX0_leaveOut) 12 [some (.ref 16), some (.int l1), some (.int l2), some (.int l3)] [] w (k12 w l1 l2 l3)) (w : qW) (l1 : Int32) (l2 : Int32) (l3 : Int32) : q_Ev E Γ 4 (q_Fv E Γ cX0_leaveOut) 12 [some (.ref 16), some (.int l1), some (.int l2), some (.int l3)] [] w (f_X0_leaveOut_B12 k12 w l1 l2 l3) := by
  unfold f_X0_leaveOut_B12
  refine e_iload_n G (pc := 12) dX0_leaveOut_12 rfl rfl ?_
  refine e_aload_n G (pc := 13) dX0_leaveOut_13 rfl rfl ?_
  refine e_getI G (pc := 14) sh_16 rfl lk_X0_32 dX0_leaveOut_14 ?_
  refine e_icmp_ge G (pc := 17) (tgt := 62) dX0_leaveOut_17 (by decide) ?_ ?_
  · exact e_vret dX0_leaveOut_62
  · refine e_aload_n G (pc := 20) dX0_leaveOut_20 rfl rfl ?_
    refine e_getF G (pc := 21) sh_16 rfl lk_X0_18 dX0_leaveOut_21 ?_
    refine e_iload_n G (pc := 24) dX0_leaveOut_24 rfl rfl ?_
    refine e_aload_n G (pc := 25) dX0_leaveOut_25 rfl rfl ?_
    refine e_getF G (pc := 26) sh_16 rfl lk_X0_28 dX0_leaveOut_26 ?_
    refine e_aload_n G (pc := 29) dX0_leaveOut_29 rfl rfl ?_
    refine e_getF G (pc := 30) sh_16 rfl lk_X0_11 dX0_leaveOut_30 ?_
    refine e_iload_n G (pc := 33) dX0_leaveOut_33 rfl rfl ?_
    refine e_iald G (pc := 34) sh_17 dX0_leaveOut_34 (fun v1 => ?_)
    refine e_iload_n G (pc := 35) dX0_leaveOut_35 rfl rfl ?_
    refine e_cVi G (pc := 36) (As := [.int v1, .int l2]) (st := [.int l3, .ref 19]) cv_X0_56 (c_X5_byAll w v1 l2 ) sh_9 (Nat.le_of_ble_eq_true rfl) rfl (Nat.le_of_ble_eq_true rfl) dX0_leaveOut_36 (fun r2 w3 => ?_)
    refine e_aload_n G (pc := 39) dX0_leaveOut_39 rfl rfl ?_
    refine e_getF G (pc := 40) sh_16 rfl lk_X0_28 dX0_leaveOut_40 ?_
    refine e_iload_n G (pc := 43) dX0_leaveOut_43 rfl rfl ?_
    refine e_aload_n G (pc := 44) dX0_leaveOut_44 rfl rfl ?_
    refine e_getF G (pc := 45) sh_16 rfl lk_X0_11 dX0_leaveOut_45 ?_
    refine e_iload_n G (pc := 48) dX0_leaveOut_48 rfl rfl ?_
    refine e_iald G (pc := 49) sh_17 dX0_leaveOut_49 (fun v4 => ?_)
    refine e_iload_n G (pc := 50) dX0_leaveOut_50 rfl rfl ?_
    refine e_cVi G (pc := 51) (As := [.int l1, .int v4, .int l2]) (st := [.int r2, .int l3, .ref 19]) cv_X0_73 (c_X5_byMan w3 l1 v4 l2 ) sh_9 (Nat.le_of_ble_eq_true rfl) rfl (Nat.le_of_ble_eq_true rfl) dX0_leaveOut_51 (fun r5 w6 => ?_)
    refine e_isub G (pc := 54) dX0_leaveOut_54 ?_
    refine e_iast G (pc := 55) sh_19 dX0_leaveOut_55 (fun w7 => ?_)
    refine e_iinc G (pc := 56) (x := l3) (v := l3 + 1) (L' := fun v8 => [some (.ref 16), some (.int l1), some (.int l2), some (.int v8)]) dX0_leaveOut_56 (Nat.le_of_ble_eq_true rfl) rfl (by rfl) (fun _ => rfl) (fun v8 => ?_)
    refine e_goto G (pc := 59) (tgt := 12) dX0_leaveOut_59 (by decide) ?_
    exact hk12 w7 l1 l2 v8 
set_option maxRecDepth 100000 in
set_option maxHeartbeats 4000000 in
theorem t_X0_leaveOut_R12 {E : qE} {Γ : qC} (G : q_Ok E Γ RX0 cX0_leaveOut 4 (7)) : ∀ (fuel : Nat) (w : qW) (l1 : Int32) (l2 : Int32) (l3 : Int32) , q_Ev E Γ 4 (q_Fv E Γ cX0_leaveOut) 12 [some (.ref 16), some (.int l1), some (.int l2), some (.int l3)] [] w (f_X0_leaveOut_R12 fuel w l1 l2 l3) := by
  intro fuel
  induction fuel with
  | zero => intros; exact e_none
  | succ fuel ih =>
    intro w l1 l2 l3 
    exact t_X0_leaveOut_B12 G _ ih w l1 l2 l3 
set_option maxRecDepth 100000 in
set_option maxHeartbeats 4000000 in
theorem t_X0_leaveOut {E : qE} {Γ : qC} (G : q_Ok E Γ RX0 cX0_leaveOut 4 (7)) (w : qW) (a1 : Int32) (a2 : Int32) : q_Ev E Γ 4 (q_Fv E Γ cX0_leaveOut) 0 [some (.ref 16), some (.int a1), some (.int a2), none] [] w (f_X0_leaveOut w a1 a2) := by
  unfold f_X0_leaveOut
  refine e_aload_n G (pc := 0) dX0_leaveOut_0 rfl rfl ?_
  refine e_iload_n G (pc := 1) dX0_leaveOut_1 rfl rfl ?_
  refine e_putI G (pc := 2) sh_16 rfl lp_X0_67 rfl rfl dX0_leaveOut_2 (fun w1 => ?_)
  refine e_aload_n G (pc := 5) dX0_leaveOut_5 rfl rfl ?_
  refine e_iload_n G (pc := 6) dX0_leaveOut_6 rfl rfl ?_
  refine e_putI G (pc := 7) sh_16 rfl lp_X0_70 rfl rfl dX0_leaveOut_7 (fun w2 => ?_)
  refine e_iconst G (pc := 10) (v := 0) dX0_leaveOut_10 (by decide) ?_
  refine e_istore_n G (pc := 11) (L' := [some (.ref 16), some (.int a1), some (.int a2), some (.int 0)]) dX0_leaveOut_11 rfl (Nat.le_of_ble_eq_true rfl) rfl ?_
  exact t_X0_leaveOut_R12 G  q_fuel w2 a1 a2 0 
set_option maxRecDepth 100000 in
set_option maxHeartbeats 4000000 in
theorem c_X0_leaveOut (w : qW) (a1 : Int32) (a2 : Int32) : q_AC q_vv none (7) yX0_leaveOut cX0_leaveOut 4 [.ref 16, .int a1, .int a2] w (f_X0_leaveOut w a1 a2) := q_met_v (k := 1) (by decide +kernel) rfl rfl rfl (fun _ _ G => t_X0_leaveOut G w a1 a2 )
set_option maxRecDepth 100000 in
set_option maxHeartbeats 4000000 in
theorem t_X0_fitsHim_B2 {E : qE} {Γ : qC} (G : q_Ok E Γ RX0 cX0_fitsHim 5 (6)) (k2 : qW → Int32 → Int32 → Int32 → Option (Int32 × qW)) (hk2 : ∀ (w : qW) (l1 : Int32) (l2 : Int32) (l3 : Int32), q_Ev E Γ 5 (q_Fz E Γ cX0_fitsHim) 2 [some (.ref 16), some (.int l1), some (.int l2), some (.int l3), none] [] w (k2 w l1 l2 l3)) (w : qW) (l1 : Int32) (l2 : Int32) (l3 : Int32) : q_Ev E Γ 5 (q_Fz E Γ cX0_fitsHim) 2 [some (.ref 16), some (.int l1), some (.int l2), some (.int l3), none] [] w (f_X0_fitsHim_B2 k2 w l1 l2 l3) := by
  unfold f_X0_fitsHim_B2
  refine e_iload_n G (pc := 2) dX0_fitsHim_2 rfl rfl ?_
  refine e_aload_n G (pc := 3) dX0_fitsHim_3 rfl rfl ?_
  refine e_getI G (pc := 4) sh_16 rfl lk_X0_32 dX0_fitsHim_4 ?_
  refine e_icmp_ge G (pc := 7) (tgt := 66) dX0_fitsHim_7 (by decide) ?_ ?_
  · refine e_aload_n G (pc := 66) dX0_fitsHim_66 rfl rfl ?_
    refine e_getI G (pc := 67) sh_16 rfl lk_X0_36 dX0_fitsHim_67 ?_
    refine e_if_ne G (pc := 70) (tgt := 77) dX0_fitsHim_70 (by decide) ?_ ?_
    · refine e_iconst G (pc := 77) (v := 0) dX0_fitsHim_77 (by decide) ?_
      exact e_zret dX0_fitsHim_78
    · refine e_iconst G (pc := 73) (v := 1) dX0_fitsHim_73 (by decide) ?_
      refine e_goto G (pc := 74) (tgt := 78) dX0_fitsHim_74 (by decide) ?_
      exact e_zret dX0_fitsHim_78
  · refine e_aload_n G (pc := 10) dX0_fitsHim_10 rfl rfl ?_
    refine e_getF G (pc := 11) sh_16 rfl lk_X0_18 dX0_fitsHim_11 ?_
    refine e_iload_n G (pc := 14) dX0_fitsHim_14 rfl rfl ?_
    refine e_iald G (pc := 15) sh_19 dX0_fitsHim_15 (fun v1 => ?_)
    refine e_aload_n G (pc := 16) dX0_fitsHim_16 rfl rfl ?_
    refine e_getF G (pc := 17) sh_16 rfl lk_X0_28 dX0_fitsHim_17 ?_
    refine e_aload_n G (pc := 20) dX0_fitsHim_20 rfl rfl ?_
    refine e_getI G (pc := 21) sh_16 rfl lk_X0_67 dX0_fitsHim_21 ?_
    refine e_iload_n G (pc := 24) dX0_fitsHim_24 rfl rfl ?_
    refine e_iload_n G (pc := 25) dX0_fitsHim_25 rfl rfl ?_
    refine e_aload_n G (pc := 26) dX0_fitsHim_26 rfl rfl ?_
    refine e_getF G (pc := 27) sh_16 rfl lk_X0_11 dX0_fitsHim_27 ?_
    refine e_iload_n G (pc := 30) dX0_fitsHim_30 rfl rfl ?_
    refine e_iald G (pc := 31) sh_17 dX0_fitsHim_31 (fun v2 => ?_)
    refine e_aload_n G (pc := 32) dX0_fitsHim_32 rfl rfl ?_
    refine e_getI G (pc := 33) sh_16 rfl lk_X0_70 dX0_fitsHim_33 ?_
    refine e_cVi G (pc := 36) (As := [.int (q_I w 16 8), .int l1, .int l2, .int v2, .int (q_I w 16 9)]) (st := [.int v1]) cv_X0_85 (c_X5_ifHe w (q_I w 16 8) l1 l2 v2 (q_I w 16 9) ) sh_9 (Nat.le_of_ble_eq_true rfl) rfl (Nat.le_of_ble_eq_true rfl) dX0_fitsHim_36 (fun r3 w4 => ?_)
    refine e_iadd G (pc := 39) dX0_fitsHim_39 ?_
    refine e_ti (fun v5 => ?_)
    refine e_istore G (pc := 40) (L' := [some (.ref 16), some (.int l1), some (.int l2), some (.int l3), some (.int v5)]) dX0_fitsHim_40 (Nat.le_of_ble_eq_true rfl) rfl ?_
    refine e_bipush G (pc := 42) (v := 12) dX0_fitsHim_42 (by decide) ?_
    refine e_iload G (pc := 44) dX0_fitsHim_44 rfl ?_
    refine e_mmin G (pc := 46) mt_X0_62 (Nat.le_of_ble_eq_true rfl) (Nat.le_of_ble_eq_true rfl) dX0_fitsHim_46 ?_
    refine e_ti (fun v6 => ?_)
    refine e_aload_n G (pc := 49) dX0_fitsHim_49 rfl rfl ?_
    refine e_getF G (pc := 50) sh_16 rfl lk_X0_15 dX0_fitsHim_50 ?_
    refine e_iload_n G (pc := 53) dX0_fitsHim_53 rfl rfl ?_
    refine e_iald G (pc := 54) sh_18 dX0_fitsHim_54 (fun v7 => ?_)
    refine e_icmp_eq G (pc := 55) (tgt := 60) dX0_fitsHim_55 (by decide) ?_ ?_
    · refine e_iinc G (pc := 60) (x := l3) (v := l3 + 1) (L' := fun v8 => [some (.ref 16), some (.int l1), some (.int l2), some (.int v8), some (.int v5)]) dX0_fitsHim_60 (Nat.le_of_ble_eq_true rfl) rfl (by rfl) (fun _ => rfl) (fun v8 => ?_)
      refine e_goto G (pc := 63) (tgt := 2) dX0_fitsHim_63 (by decide) ?_
      refine e_wk (L' := [some (.ref 16), some (.int l1), some (.int l2), some (.int v8), none]) (And.intro rfl (And.intro rfl (And.intro rfl (And.intro rfl (trivial))))) ?_
      exact hk2 w4 l1 l2 v8 
    · refine e_iconst G (pc := 58) (v := 0) dX0_fitsHim_58 (by decide) ?_
      exact e_zret dX0_fitsHim_59
set_option maxRecDepth 100000 in
set_option maxHeartbeats 4000000 in
theorem t_X0_fitsHim_R2 {E : qE} {Γ : qC} (G : q_Ok E Γ RX0 cX0_fitsHim 5 (6)) : ∀ (fuel : Nat) (w : qW) (l1 : Int32) (l2 : Int32) (l3 : Int32) , q_Ev E Γ 5 (q_Fz E Γ cX0_fitsHim) 2 [some (.ref 16), some (.int l1), some (.int l2), some (.int l3), none] [] w (f_X0_fitsHim_R2 fuel w l1 l2 l3) := by
  intro fuel
  induction fuel with
  | zero => intros; exact e_none
  | succ fuel ih =>
    intro w l1 l2 l3 
    exact t_X0_fitsHim_B2 G _ ih w l1 l2 l3 
set_option maxRecDepth 100000 in
set_option maxHeartbeats 4000000 in
theorem t_X0_fitsHim {E : qE} {Γ : qC} (G : q_Ok E Γ RX0 cX0_fitsHim 5 (6)) (w : qW) (a1 : Int32) (a2 : Int32) : q_Ev E Γ 5 (q_Fz E Γ cX0_fitsHim) 0 [some (.ref 16), some (.int a1), some (.int a2), none, none] [] w (f_X0_fitsHim w a1 a2) := by
  unfold f_X0_fitsHim
  refine e_iconst G (pc := 0) (v := 0) dX0_fitsHim_0 (by decide) ?_
  refine e_istore_n G (pc := 1) (L' := [some (.ref 16), some (.int a1), some (.int a2), some (.int 0), none]) dX0_fitsHim_1 rfl (Nat.le_of_ble_eq_true rfl) rfl ?_
  exact t_X0_fitsHim_R2 G  q_fuel w a1 a2 0 
set_option maxRecDepth 100000 in
set_option maxHeartbeats 4000000 in
theorem c_X0_fitsHim (w : qW) (a1 : Int32) (a2 : Int32) : q_AC q_vi (some .boolean) (6) yX0_fitsHim cX0_fitsHim 5 [.ref 16, .int a1, .int a2] w (f_X0_fitsHim w a1 a2) := q_met_z (k := 2) (by decide +kernel) rfl rfl rfl (fun _ _ G => t_X0_fitsHim G w a1 a2 )
set_option maxRecDepth 100000 in
set_option maxHeartbeats 4000000 in
theorem t_X0_cellsThatFit_B34 {E : qE} {Γ : qC} (G : q_Ok E Γ RX0 cX0_cellsThatFit 3 (7)) (k4 : qW → Int32 → Int32 → Option (Int32 × qW)) (hk4 : ∀ (w : qW) (l1 : Int32) (l2 : Int32), q_Ev E Γ 3 (q_Fi E Γ cX0_cellsThatFit) 4 [some (.ref 16), some (.int l1), some (.int l2)] [] w (k4 w l1 l2)) (w : qW) (l1 : Int32) (l2 : Int32) : q_Ev E Γ 3 (q_Fi E Γ cX0_cellsThatFit) 34 [some (.ref 16), some (.int l1), some (.int l2)] [] w (f_X0_cellsThatFit_B34 k4 w l1 l2) := by
  unfold f_X0_cellsThatFit_B34
  refine e_iinc G (pc := 34) (x := l2) (v := l2 + 1) (L' := fun v1 => [some (.ref 16), some (.int l1), some (.int v1)]) dX0_cellsThatFit_34 (Nat.le_of_ble_eq_true rfl) rfl (by rfl) (fun _ => rfl) (fun v1 => ?_)
  refine e_goto G (pc := 37) (tgt := 4) dX0_cellsThatFit_37 (by decide) ?_
  exact hk4 w l1 v1 
set_option maxRecDepth 100000 in
set_option maxHeartbeats 4000000 in
theorem t_X0_cellsThatFit_B4 {E : qE} {Γ : qC} (G : q_Ok E Γ RX0 cX0_cellsThatFit 3 (7)) (k4 : qW → Int32 → Int32 → Option (Int32 × qW)) (hk4 : ∀ (w : qW) (l1 : Int32) (l2 : Int32), q_Ev E Γ 3 (q_Fi E Γ cX0_cellsThatFit) 4 [some (.ref 16), some (.int l1), some (.int l2)] [] w (k4 w l1 l2)) (w : qW) (l1 : Int32) (l2 : Int32) : q_Ev E Γ 3 (q_Fi E Γ cX0_cellsThatFit) 4 [some (.ref 16), some (.int l1), some (.int l2)] [] w (f_X0_cellsThatFit_B4 k4 w l1 l2) := by
  unfold f_X0_cellsThatFit_B4
  refine e_iload_n G (pc := 4) dX0_cellsThatFit_4 rfl rfl ?_
  refine e_sipush G (pc := 5) (v := 144) dX0_cellsThatFit_5 (by decide) ?_
  refine e_icmp_ge G (pc := 8) (tgt := 40) dX0_cellsThatFit_8 (by decide) ?_ ?_
  · refine e_iload_n G (pc := 40) dX0_cellsThatFit_40 rfl rfl ?_
    exact e_iret dX0_cellsThatFit_41
  · refine e_aload_n G (pc := 11) dX0_cellsThatFit_11 rfl rfl ?_
    refine e_iload_n G (pc := 12) dX0_cellsThatFit_12 rfl rfl ?_
    refine e_aload_n G (pc := 13) dX0_cellsThatFit_13 rfl rfl ?_
    refine e_getF G (pc := 14) sh_16 rfl lk_X0_24 dX0_cellsThatFit_14 ?_
    refine e_aload_n G (pc := 17) dX0_cellsThatFit_17 rfl rfl ?_
    refine e_getI G (pc := 18) sh_16 rfl lk_X0_67 dX0_cellsThatFit_18 ?_
    refine e_iconst G (pc := 21) (v := 1) dX0_cellsThatFit_21 (by decide) ?_
    refine e_cVi G (pc := 22) (As := [.int (q_I w 16 8), .int 1]) (st := [.int l2, .ref 16]) cv_X0_77 (c_X4_get w (q_I w 16 8) 1 ) sh_1 (Nat.le_of_ble_eq_true rfl) rfl (Nat.le_of_ble_eq_true rfl) dX0_cellsThatFit_22 (fun r1 w2 => ?_)
    refine e_cVi G (pc := 25) (As := [.int l2, .int r1]) (st := []) cv_X0_81 (c_X0_fitsHim w2 l2 r1 ) sh_16 (Nat.le_of_ble_eq_true rfl) rfl (Nat.le_of_ble_eq_true rfl) dX0_cellsThatFit_25 (fun r3 w4 => ?_)
    refine e_if_eq G (pc := 28) (tgt := 34) dX0_cellsThatFit_28 (by decide) ?_ ?_
    · exact t_X0_cellsThatFit_B34 G k4 hk4 w4 l1 l2 
    · refine e_iinc G (pc := 31) (x := l1) (v := l1 + 1) (L' := fun v5 => [some (.ref 16), some (.int v5), some (.int l2)]) dX0_cellsThatFit_31 (Nat.le_of_ble_eq_true rfl) rfl (by rfl) (fun _ => rfl) (fun v5 => ?_)
      exact t_X0_cellsThatFit_B34 G k4 hk4 w4 v5 l2 
set_option maxRecDepth 100000 in
set_option maxHeartbeats 4000000 in
theorem t_X0_cellsThatFit_R4 {E : qE} {Γ : qC} (G : q_Ok E Γ RX0 cX0_cellsThatFit 3 (7)) : ∀ (fuel : Nat) (w : qW) (l1 : Int32) (l2 : Int32) , q_Ev E Γ 3 (q_Fi E Γ cX0_cellsThatFit) 4 [some (.ref 16), some (.int l1), some (.int l2)] [] w (f_X0_cellsThatFit_R4 fuel w l1 l2) := by
  intro fuel
  induction fuel with
  | zero => intros; exact e_none
  | succ fuel ih =>
    intro w l1 l2 
    exact t_X0_cellsThatFit_B4 G _ ih w l1 l2 
set_option maxRecDepth 100000 in
set_option maxHeartbeats 4000000 in
theorem t_X0_cellsThatFit {E : qE} {Γ : qC} (G : q_Ok E Γ RX0 cX0_cellsThatFit 3 (7)) (w : qW) : q_Ev E Γ 3 (q_Fi E Γ cX0_cellsThatFit) 0 [some (.ref 16), none, none] [] w (f_X0_cellsThatFit w ) := by
  unfold f_X0_cellsThatFit
  refine e_iconst G (pc := 0) (v := 0) dX0_cellsThatFit_0 (by decide) ?_
  refine e_istore_n G (pc := 1) (L' := [some (.ref 16), some (.int 0), none]) dX0_cellsThatFit_1 rfl (Nat.le_of_ble_eq_true rfl) rfl ?_
  refine e_iconst G (pc := 2) (v := 0) dX0_cellsThatFit_2 (by decide) ?_
  refine e_istore_n G (pc := 3) (L' := [some (.ref 16), some (.int 0), some (.int 0)]) dX0_cellsThatFit_3 rfl (Nat.le_of_ble_eq_true rfl) rfl ?_
  exact t_X0_cellsThatFit_R4 G  q_fuel w 0 0 
set_option maxRecDepth 100000 in
set_option maxHeartbeats 4000000 in
theorem c_X0_cellsThatFit (w : qW) : q_AC q_vi (some .int) (7) yX0_cellsThatFit cX0_cellsThatFit 3 [.ref 16] w (f_X0_cellsThatFit w ) := q_met_i (k := 2) (by decide +kernel) rfl rfl rfl (fun _ _ G => t_X0_cellsThatFit G w  )
set_option maxRecDepth 100000 in
set_option maxHeartbeats 4000000 in
theorem t_X0_leastCellThatFits_B2 {E : qE} {Γ : qC} (G : q_Ok E Γ RX0 cX0_leastCellThatFits 2 (7)) (k2 : qW → Int32 → Option (Int32 × qW)) (hk2 : ∀ (w : qW) (l1 : Int32), q_Ev E Γ 2 (q_Fi E Γ cX0_leastCellThatFits) 2 [some (.ref 16), some (.int l1)] [] w (k2 w l1)) (w : qW) (l1 : Int32) : q_Ev E Γ 2 (q_Fi E Γ cX0_leastCellThatFits) 2 [some (.ref 16), some (.int l1)] [] w (f_X0_leastCellThatFits_B2 k2 w l1) := by
  unfold f_X0_leastCellThatFits_B2
  refine e_iload_n G (pc := 2) dX0_leastCellThatFits_2 rfl rfl ?_
  refine e_sipush G (pc := 3) (v := 144) dX0_leastCellThatFits_3 (by decide) ?_
  refine e_icmp_ge G (pc := 6) (tgt := 37) dX0_leastCellThatFits_6 (by decide) ?_ ?_
  · refine e_bipush G (pc := 37) (v := (-2)) dX0_leastCellThatFits_37 (by decide) ?_
    exact e_iret dX0_leastCellThatFits_39
  · refine e_aload_n G (pc := 9) dX0_leastCellThatFits_9 rfl rfl ?_
    refine e_iload_n G (pc := 10) dX0_leastCellThatFits_10 rfl rfl ?_
    refine e_aload_n G (pc := 11) dX0_leastCellThatFits_11 rfl rfl ?_
    refine e_getF G (pc := 12) sh_16 rfl lk_X0_24 dX0_leastCellThatFits_12 ?_
    refine e_aload_n G (pc := 15) dX0_leastCellThatFits_15 rfl rfl ?_
    refine e_getI G (pc := 16) sh_16 rfl lk_X0_67 dX0_leastCellThatFits_16 ?_
    refine e_iconst G (pc := 19) (v := 1) dX0_leastCellThatFits_19 (by decide) ?_
    refine e_cVi G (pc := 20) (As := [.int (q_I w 16 8), .int 1]) (st := [.int l1, .ref 16]) cv_X0_77 (c_X4_get w (q_I w 16 8) 1 ) sh_1 (Nat.le_of_ble_eq_true rfl) rfl (Nat.le_of_ble_eq_true rfl) dX0_leastCellThatFits_20 (fun r1 w2 => ?_)
    refine e_cVi G (pc := 23) (As := [.int l1, .int r1]) (st := []) cv_X0_81 (c_X0_fitsHim w2 l1 r1 ) sh_16 (Nat.le_of_ble_eq_true rfl) rfl (Nat.le_of_ble_eq_true rfl) dX0_leastCellThatFits_23 (fun r3 w4 => ?_)
    refine e_if_eq G (pc := 26) (tgt := 31) dX0_leastCellThatFits_26 (by decide) ?_ ?_
    · refine e_iinc G (pc := 31) (x := l1) (v := l1 + 1) (L' := fun v5 => [some (.ref 16), some (.int v5)]) dX0_leastCellThatFits_31 (Nat.le_of_ble_eq_true rfl) rfl (by rfl) (fun _ => rfl) (fun v5 => ?_)
      refine e_goto G (pc := 34) (tgt := 2) dX0_leastCellThatFits_34 (by decide) ?_
      exact hk2 w4 v5 
    · refine e_iload_n G (pc := 29) dX0_leastCellThatFits_29 rfl rfl ?_
      exact e_iret dX0_leastCellThatFits_30
set_option maxRecDepth 100000 in
set_option maxHeartbeats 4000000 in
theorem t_X0_leastCellThatFits_R2 {E : qE} {Γ : qC} (G : q_Ok E Γ RX0 cX0_leastCellThatFits 2 (7)) : ∀ (fuel : Nat) (w : qW) (l1 : Int32) , q_Ev E Γ 2 (q_Fi E Γ cX0_leastCellThatFits) 2 [some (.ref 16), some (.int l1)] [] w (f_X0_leastCellThatFits_R2 fuel w l1) := by
  intro fuel
  induction fuel with
  | zero => intros; exact e_none
  | succ fuel ih =>
    intro w l1 
    exact t_X0_leastCellThatFits_B2 G _ ih w l1 
set_option maxRecDepth 100000 in
set_option maxHeartbeats 4000000 in
theorem t_X0_leastCellThatFits {E : qE} {Γ : qC} (G : q_Ok E Γ RX0 cX0_leastCellThatFits 2 (7)) (w : qW) : q_Ev E Γ 2 (q_Fi E Γ cX0_leastCellThatFits) 0 [some (.ref 16), none] [] w (f_X0_leastCellThatFits w ) := by
  unfold f_X0_leastCellThatFits
  refine e_iconst G (pc := 0) (v := 0) dX0_leastCellThatFits_0 (by decide) ?_
  refine e_istore_n G (pc := 1) (L' := [some (.ref 16), some (.int 0)]) dX0_leastCellThatFits_1 rfl (Nat.le_of_ble_eq_true rfl) rfl ?_
  exact t_X0_leastCellThatFits_R2 G  q_fuel w 0 
set_option maxRecDepth 100000 in
set_option maxHeartbeats 4000000 in
theorem c_X0_leastCellThatFits (w : qW) : q_AC q_vi (some .int) (7) yX0_leastCellThatFits cX0_leastCellThatFits 2 [.ref 16] w (f_X0_leastCellThatFits w ) := q_met_i (k := 1) (by decide +kernel) rfl rfl rfl (fun _ _ G => t_X0_leastCellThatFits G w  )
set_option maxRecDepth 100000 in
set_option maxHeartbeats 4000000 in
theorem t_X0_kindsThatFit_B35 {E : qE} {Γ : qC} (G : q_Ok E Γ RX0 cX0_kindsThatFit 3 (7)) (k4 : qW → Int32 → Int32 → Option (Int32 × qW)) (hk4 : ∀ (w : qW) (l1 : Int32) (l2 : Int32), q_Ev E Γ 3 (q_Fi E Γ cX0_kindsThatFit) 4 [some (.ref 16), some (.int l1), some (.int l2)] [] w (k4 w l1 l2)) (w : qW) (l1 : Int32) (l2 : Int32) : q_Ev E Γ 3 (q_Fi E Γ cX0_kindsThatFit) 35 [some (.ref 16), some (.int l1), some (.int l2)] [] w (f_X0_kindsThatFit_B35 k4 w l1 l2) := by
  unfold f_X0_kindsThatFit_B35
  refine e_iinc G (pc := 35) (x := l2) (v := l2 + 1) (L' := fun v1 => [some (.ref 16), some (.int l1), some (.int v1)]) dX0_kindsThatFit_35 (Nat.le_of_ble_eq_true rfl) rfl (by rfl) (fun _ => rfl) (fun v1 => ?_)
  refine e_goto G (pc := 38) (tgt := 4) dX0_kindsThatFit_38 (by decide) ?_
  exact hk4 w l1 v1 
set_option maxRecDepth 100000 in
set_option maxHeartbeats 4000000 in
theorem t_X0_kindsThatFit_B4 {E : qE} {Γ : qC} (G : q_Ok E Γ RX0 cX0_kindsThatFit 3 (7)) (k4 : qW → Int32 → Int32 → Option (Int32 × qW)) (hk4 : ∀ (w : qW) (l1 : Int32) (l2 : Int32), q_Ev E Γ 3 (q_Fi E Γ cX0_kindsThatFit) 4 [some (.ref 16), some (.int l1), some (.int l2)] [] w (k4 w l1 l2)) (w : qW) (l1 : Int32) (l2 : Int32) : q_Ev E Γ 3 (q_Fi E Γ cX0_kindsThatFit) 4 [some (.ref 16), some (.int l1), some (.int l2)] [] w (f_X0_kindsThatFit_B4 k4 w l1 l2) := by
  unfold f_X0_kindsThatFit_B4
  refine e_iload_n G (pc := 4) dX0_kindsThatFit_4 rfl rfl ?_
  refine e_iconst G (pc := 5) (v := 2) dX0_kindsThatFit_5 (by decide) ?_
  refine e_icmp_gt G (pc := 6) (tgt := 41) dX0_kindsThatFit_6 (by decide) ?_ ?_
  · refine e_iload_n G (pc := 41) dX0_kindsThatFit_41 rfl rfl ?_
    exact e_iret dX0_kindsThatFit_42
  · refine e_aload_n G (pc := 9) dX0_kindsThatFit_9 rfl rfl ?_
    refine e_aload_n G (pc := 10) dX0_kindsThatFit_10 rfl rfl ?_
    refine e_getF G (pc := 11) sh_16 rfl lk_X0_24 dX0_kindsThatFit_11 ?_
    refine e_aload_n G (pc := 14) dX0_kindsThatFit_14 rfl rfl ?_
    refine e_getI G (pc := 15) sh_16 rfl lk_X0_67 dX0_kindsThatFit_15 ?_
    refine e_iconst G (pc := 18) (v := 0) dX0_kindsThatFit_18 (by decide) ?_
    refine e_cVi G (pc := 19) (As := [.int (q_I w 16 8), .int 0]) (st := [.ref 16]) cv_X0_77 (c_X4_get w (q_I w 16 8) 0 ) sh_1 (Nat.le_of_ble_eq_true rfl) rfl (Nat.le_of_ble_eq_true rfl) dX0_kindsThatFit_19 (fun r1 w2 => ?_)
    refine e_iload_n G (pc := 22) dX0_kindsThatFit_22 rfl rfl ?_
    refine e_cVi G (pc := 23) (As := [.int r1, .int l2]) (st := []) cv_X0_81 (c_X0_fitsHim w2 r1 l2 ) sh_16 (Nat.le_of_ble_eq_true rfl) rfl (Nat.le_of_ble_eq_true rfl) dX0_kindsThatFit_23 (fun r3 w4 => ?_)
    refine e_if_eq G (pc := 26) (tgt := 35) dX0_kindsThatFit_26 (by decide) ?_ ?_
    · exact t_X0_kindsThatFit_B35 G k4 hk4 w4 l1 l2 
    · refine e_iload_n G (pc := 29) dX0_kindsThatFit_29 rfl rfl ?_
      refine e_iconst G (pc := 30) (v := 1) dX0_kindsThatFit_30 (by decide) ?_
      refine e_iload_n G (pc := 31) dX0_kindsThatFit_31 rfl rfl ?_
      refine e_ishl G (pc := 32) dX0_kindsThatFit_32 ?_
      refine e_ior G (pc := 33) dX0_kindsThatFit_33 ?_
      refine e_ti (fun v5 => ?_)
      refine e_istore_n G (pc := 34) (L' := [some (.ref 16), some (.int v5), some (.int l2)]) dX0_kindsThatFit_34 rfl (Nat.le_of_ble_eq_true rfl) rfl ?_
      exact t_X0_kindsThatFit_B35 G k4 hk4 w4 v5 l2 
set_option maxRecDepth 100000 in
set_option maxHeartbeats 4000000 in
theorem t_X0_kindsThatFit_R4 {E : qE} {Γ : qC} (G : q_Ok E Γ RX0 cX0_kindsThatFit 3 (7)) : ∀ (fuel : Nat) (w : qW) (l1 : Int32) (l2 : Int32) , q_Ev E Γ 3 (q_Fi E Γ cX0_kindsThatFit) 4 [some (.ref 16), some (.int l1), some (.int l2)] [] w (f_X0_kindsThatFit_R4 fuel w l1 l2) := by
  intro fuel
  induction fuel with
  | zero => intros; exact e_none
  | succ fuel ih =>
    intro w l1 l2 
    exact t_X0_kindsThatFit_B4 G _ ih w l1 l2 
set_option maxRecDepth 100000 in
set_option maxHeartbeats 4000000 in
theorem t_X0_kindsThatFit {E : qE} {Γ : qC} (G : q_Ok E Γ RX0 cX0_kindsThatFit 3 (7)) (w : qW) : q_Ev E Γ 3 (q_Fi E Γ cX0_kindsThatFit) 0 [some (.ref 16), none, none] [] w (f_X0_kindsThatFit w ) := by
  unfold f_X0_kindsThatFit
  refine e_iconst G (pc := 0) (v := 0) dX0_kindsThatFit_0 (by decide) ?_
  refine e_istore_n G (pc := 1) (L' := [some (.ref 16), some (.int 0), none]) dX0_kindsThatFit_1 rfl (Nat.le_of_ble_eq_true rfl) rfl ?_
  refine e_iconst G (pc := 2) (v := 0) dX0_kindsThatFit_2 (by decide) ?_
  refine e_istore_n G (pc := 3) (L' := [some (.ref 16), some (.int 0), some (.int 0)]) dX0_kindsThatFit_3 rfl (Nat.le_of_ble_eq_true rfl) rfl ?_
  exact t_X0_kindsThatFit_R4 G  q_fuel w 0 0 
set_option maxRecDepth 100000 in
set_option maxHeartbeats 4000000 in
theorem c_X0_kindsThatFit (w : qW) : q_AC q_vi (some .int) (7) yX0_kindsThatFit cX0_kindsThatFit 3 [.ref 16] w (f_X0_kindsThatFit w ) := q_met_i (k := 2) (by decide +kernel) rfl rfl rfl (fun _ _ G => t_X0_kindsThatFit G w  )
set_option maxRecDepth 100000 in
set_option maxHeartbeats 4000000 in
theorem t_X0_weighMen_B12 {E : qE} {Γ : qC} (G : q_Ok E Γ RX0 cX0_weighMen 4 (6)) (k2 : qW → Int32 → Int32 → Option (Unit × qW)) (k12 : qW → Int32 → Int32 → Int32 → Option (Unit × qW)) (hk2 : ∀ (w : qW) (l1 : Int32) (l2 : Int32), q_Ev E Γ 4 (q_Fv E Γ cX0_weighMen) 2 [some (.ref 16), some (.int l1), some (.int l2), none] [] w (k2 w l1 l2)) (hk12 : ∀ (w : qW) (l1 : Int32) (l2 : Int32) (l3 : Int32), q_Ev E Γ 4 (q_Fv E Γ cX0_weighMen) 12 [some (.ref 16), some (.int l1), some (.int l2), some (.int l3)] [] w (k12 w l1 l2 l3)) (w : qW) (l1 : Int32) (l2 : Int32) (l3 : Int32) : q_Ev E Γ 4 (q_Fv E Γ cX0_weighMen) 12 [some (.ref 16), some (.int l1), some (.int l2), some (.int l3)] [] w (f_X0_weighMen_B12 k2 k12 w l1 l2 l3) := by
  unfold f_X0_weighMen_B12
  refine e_iload_n G (pc := 12) dX0_weighMen_12 rfl rfl ?_
  refine e_aload_n G (pc := 13) dX0_weighMen_13 rfl rfl ?_
  refine e_getF G (pc := 14) sh_16 rfl lk_X0_24 dX0_weighMen_14 ?_
  refine e_getI G (pc := 17) sh_1 rfl lk_X0_89 dX0_weighMen_17 ?_
  refine e_icmp_ge G (pc := 20) (tgt := 55) dX0_weighMen_20 (by decide) ?_ ?_
  · refine e_iinc G (pc := 55) (x := l2) (v := l2 + 1) (L' := fun v1 => [some (.ref 16), some (.int l1), some (.int v1), some (.int l3)]) dX0_weighMen_55 (Nat.le_of_ble_eq_true rfl) rfl (by rfl) (fun _ => rfl) (fun v1 => ?_)
    refine e_goto G (pc := 58) (tgt := 2) dX0_weighMen_58 (by decide) ?_
    refine e_wk (L' := [some (.ref 16), some (.int l1), some (.int v1), none]) (And.intro rfl (And.intro rfl (And.intro rfl (trivial)))) ?_
    exact hk2 w l1 v1 
  · refine e_aload_n G (pc := 23) dX0_weighMen_23 rfl rfl ?_
    refine e_getF G (pc := 24) sh_16 rfl lk_X0_21 dX0_weighMen_24 ?_
    refine e_iload_n G (pc := 27) dX0_weighMen_27 rfl rfl ?_
    refine e_bipush G (pc := 28) (v := 7) dX0_weighMen_28 (by decide) ?_
    refine e_imul G (pc := 30) dX0_weighMen_30 ?_
    refine e_iload_n G (pc := 31) dX0_weighMen_31 rfl rfl ?_
    refine e_iadd G (pc := 32) dX0_weighMen_32 ?_
    refine e_aload_n G (pc := 33) dX0_weighMen_33 rfl rfl ?_
    refine e_getF G (pc := 34) sh_16 rfl lk_X0_28 dX0_weighMen_34 ?_
    refine e_iload_n G (pc := 37) dX0_weighMen_37 rfl rfl ?_
    refine e_aload_n G (pc := 38) dX0_weighMen_38 rfl rfl ?_
    refine e_getF G (pc := 39) sh_16 rfl lk_X0_11 dX0_weighMen_39 ?_
    refine e_iload_n G (pc := 42) dX0_weighMen_42 rfl rfl ?_
    refine e_iald G (pc := 43) sh_17 dX0_weighMen_43 (fun v2 => ?_)
    refine e_iload_n G (pc := 44) dX0_weighMen_44 rfl rfl ?_
    refine e_cVi G (pc := 45) (As := [.int l3, .int v2, .int l1]) (st := [.int ((l2 * 7) + l3), .ref 20]) cv_X0_73 (c_X5_byMan w l3 v2 l1 ) sh_9 (Nat.le_of_ble_eq_true rfl) rfl (Nat.le_of_ble_eq_true rfl) dX0_weighMen_45 (fun r3 w4 => ?_)
    refine e_iast G (pc := 48) sh_20 dX0_weighMen_48 (fun w5 => ?_)
    refine e_iinc G (pc := 49) (x := l3) (v := l3 + 1) (L' := fun v6 => [some (.ref 16), some (.int l1), some (.int l2), some (.int v6)]) dX0_weighMen_49 (Nat.le_of_ble_eq_true rfl) rfl (by rfl) (fun _ => rfl) (fun v6 => ?_)
    refine e_goto G (pc := 52) (tgt := 12) dX0_weighMen_52 (by decide) ?_
    exact hk12 w5 l1 l2 v6 
set_option maxRecDepth 100000 in
set_option maxHeartbeats 4000000 in
theorem t_X0_weighMen_R12 {E : qE} {Γ : qC} (G : q_Ok E Γ RX0 cX0_weighMen 4 (6)) (k2 : qW → Int32 → Int32 → Option (Unit × qW)) (hk2 : ∀ (w : qW) (l1 : Int32) (l2 : Int32), q_Ev E Γ 4 (q_Fv E Γ cX0_weighMen) 2 [some (.ref 16), some (.int l1), some (.int l2), none] [] w (k2 w l1 l2)) : ∀ (fuel : Nat) (w : qW) (l1 : Int32) (l2 : Int32) (l3 : Int32) , q_Ev E Γ 4 (q_Fv E Γ cX0_weighMen) 12 [some (.ref 16), some (.int l1), some (.int l2), some (.int l3)] [] w (f_X0_weighMen_R12 k2 fuel w l1 l2 l3) := by
  intro fuel
  induction fuel with
  | zero => intros; exact e_none
  | succ fuel ih =>
    intro w l1 l2 l3 
    exact t_X0_weighMen_B12 G k2 _ hk2 ih w l1 l2 l3 
set_option maxRecDepth 100000 in
set_option maxHeartbeats 4000000 in
theorem t_X0_weighMen_B2 {E : qE} {Γ : qC} (G : q_Ok E Γ RX0 cX0_weighMen 4 (6)) (k2 : qW → Int32 → Int32 → Option (Unit × qW)) (hk2 : ∀ (w : qW) (l1 : Int32) (l2 : Int32), q_Ev E Γ 4 (q_Fv E Γ cX0_weighMen) 2 [some (.ref 16), some (.int l1), some (.int l2), none] [] w (k2 w l1 l2)) (w : qW) (l1 : Int32) (l2 : Int32) : q_Ev E Γ 4 (q_Fv E Γ cX0_weighMen) 2 [some (.ref 16), some (.int l1), some (.int l2), none] [] w (f_X0_weighMen_B2 k2 w l1 l2) := by
  unfold f_X0_weighMen_B2
  refine e_iload_n G (pc := 2) dX0_weighMen_2 rfl rfl ?_
  refine e_aload_n G (pc := 3) dX0_weighMen_3 rfl rfl ?_
  refine e_getI G (pc := 4) sh_16 rfl lk_X0_32 dX0_weighMen_4 ?_
  refine e_icmp_ge G (pc := 7) (tgt := 61) dX0_weighMen_7 (by decide) ?_ ?_
  · exact e_vret dX0_weighMen_61
  · refine e_iconst G (pc := 10) (v := 0) dX0_weighMen_10 (by decide) ?_
    refine e_istore_n G (pc := 11) (L' := [some (.ref 16), some (.int l1), some (.int l2), some (.int 0)]) dX0_weighMen_11 rfl (Nat.le_of_ble_eq_true rfl) rfl ?_
    exact t_X0_weighMen_R12 G k2 hk2  q_fuel w l1 l2 0 
set_option maxRecDepth 100000 in
set_option maxHeartbeats 4000000 in
theorem t_X0_weighMen_R2 {E : qE} {Γ : qC} (G : q_Ok E Γ RX0 cX0_weighMen 4 (6)) : ∀ (fuel : Nat) (w : qW) (l1 : Int32) (l2 : Int32) , q_Ev E Γ 4 (q_Fv E Γ cX0_weighMen) 2 [some (.ref 16), some (.int l1), some (.int l2), none] [] w (f_X0_weighMen_R2 fuel w l1 l2) := by
  intro fuel
  induction fuel with
  | zero => intros; exact e_none
  | succ fuel ih =>
    intro w l1 l2 
    exact t_X0_weighMen_B2 G _ ih w l1 l2 
set_option maxRecDepth 100000 in
set_option maxHeartbeats 4000000 in
theorem t_X0_weighMen {E : qE} {Γ : qC} (G : q_Ok E Γ RX0 cX0_weighMen 4 (6)) (w : qW) (a1 : Int32) : q_Ev E Γ 4 (q_Fv E Γ cX0_weighMen) 0 [some (.ref 16), some (.int a1), none, none] [] w (f_X0_weighMen w a1) := by
  unfold f_X0_weighMen
  refine e_iconst G (pc := 0) (v := 0) dX0_weighMen_0 (by decide) ?_
  refine e_istore_n G (pc := 1) (L' := [some (.ref 16), some (.int a1), some (.int 0), none]) dX0_weighMen_1 rfl (Nat.le_of_ble_eq_true rfl) rfl ?_
  exact t_X0_weighMen_R2 G  q_fuel w a1 0 
set_option maxRecDepth 100000 in
set_option maxHeartbeats 4000000 in
theorem c_X0_weighMen (w : qW) (a1 : Int32) : q_AC q_vv none (6) yX0_weighMen cX0_weighMen 4 [.ref 16, .int a1] w (f_X0_weighMen w a1) := q_met_v (k := 2) (by decide +kernel) rfl rfl rfl (fun _ _ G => t_X0_weighMen G w a1 )
set_option maxRecDepth 100000 in
set_option maxHeartbeats 4000000 in
theorem t_X0_fitsSet_B51 {E : qE} {Γ : qC} (G : q_Ok E Γ RX0 cX0_fitsSet 5 (2)) (k2 : qW → Int32 → Int32 → Option (Int32 × qW)) (k15 : qW → Int32 → Int32 → Int32 → Int32 → Option (Int32 × qW)) (hk2 : ∀ (w : qW) (l1 : Int32) (l2 : Int32), q_Ev E Γ 5 (q_Fz E Γ cX0_fitsSet) 2 [some (.ref 16), some (.int l1), some (.int l2), none, none] [] w (k2 w l1 l2)) (hk15 : ∀ (w : qW) (l1 : Int32) (l2 : Int32) (l3 : Int32) (l4 : Int32), q_Ev E Γ 5 (q_Fz E Γ cX0_fitsSet) 15 [some (.ref 16), some (.int l1), some (.int l2), some (.int l3), some (.int l4)] [] w (k15 w l1 l2 l3 l4)) (w : qW) (l1 : Int32) (l2 : Int32) (l3 : Int32) (l4 : Int32) : q_Ev E Γ 5 (q_Fz E Γ cX0_fitsSet) 51 [some (.ref 16), some (.int l1), some (.int l2), some (.int l3), some (.int l4)] [] w (f_X0_fitsSet_B51 k2 k15 w l1 l2 l3 l4) := by
  unfold f_X0_fitsSet_B51
  refine e_iinc G (pc := 51) (x := l4) (v := l4 + 1) (L' := fun v1 => [some (.ref 16), some (.int l1), some (.int l2), some (.int l3), some (.int v1)]) dX0_fitsSet_51 (Nat.le_of_ble_eq_true rfl) rfl (by rfl) (fun _ => rfl) (fun v1 => ?_)
  refine e_goto G (pc := 54) (tgt := 15) dX0_fitsSet_54 (by decide) ?_
  exact hk15 w l1 l2 l3 v1 
set_option maxRecDepth 100000 in
set_option maxHeartbeats 4000000 in
theorem t_X0_fitsSet_B15 {E : qE} {Γ : qC} (G : q_Ok E Γ RX0 cX0_fitsSet 5 (2)) (k2 : qW → Int32 → Int32 → Option (Int32 × qW)) (k15 : qW → Int32 → Int32 → Int32 → Int32 → Option (Int32 × qW)) (hk2 : ∀ (w : qW) (l1 : Int32) (l2 : Int32), q_Ev E Γ 5 (q_Fz E Γ cX0_fitsSet) 2 [some (.ref 16), some (.int l1), some (.int l2), none, none] [] w (k2 w l1 l2)) (hk15 : ∀ (w : qW) (l1 : Int32) (l2 : Int32) (l3 : Int32) (l4 : Int32), q_Ev E Γ 5 (q_Fz E Γ cX0_fitsSet) 15 [some (.ref 16), some (.int l1), some (.int l2), some (.int l3), some (.int l4)] [] w (k15 w l1 l2 l3 l4)) (w : qW) (l1 : Int32) (l2 : Int32) (l3 : Int32) (l4 : Int32) : q_Ev E Γ 5 (q_Fz E Γ cX0_fitsSet) 15 [some (.ref 16), some (.int l1), some (.int l2), some (.int l3), some (.int l4)] [] w (f_X0_fitsSet_B15 k2 k15 w l1 l2 l3 l4) := by
  unfold f_X0_fitsSet_B15
  refine e_iload G (pc := 15) dX0_fitsSet_15 rfl ?_
  refine e_aload_n G (pc := 17) dX0_fitsSet_17 rfl rfl ?_
  refine e_getF G (pc := 18) sh_16 rfl lk_X0_24 dX0_fitsSet_18 ?_
  refine e_getI G (pc := 21) sh_1 rfl lk_X0_89 dX0_fitsSet_21 ?_
  refine e_icmp_ge G (pc := 24) (tgt := 57) dX0_fitsSet_24 (by decide) ?_ ?_
  · refine e_bipush G (pc := 57) (v := 12) dX0_fitsSet_57 (by decide) ?_
    refine e_iload_n G (pc := 59) dX0_fitsSet_59 rfl rfl ?_
    refine e_mmin G (pc := 60) mt_X0_62 (Nat.le_of_ble_eq_true rfl) (Nat.le_of_ble_eq_true rfl) dX0_fitsSet_60 ?_
    refine e_ti (fun v1 => ?_)
    refine e_aload_n G (pc := 63) dX0_fitsSet_63 rfl rfl ?_
    refine e_getF G (pc := 64) sh_16 rfl lk_X0_15 dX0_fitsSet_64 ?_
    refine e_iload_n G (pc := 67) dX0_fitsSet_67 rfl rfl ?_
    refine e_iald G (pc := 68) sh_18 dX0_fitsSet_68 (fun v2 => ?_)
    refine e_icmp_eq G (pc := 69) (tgt := 74) dX0_fitsSet_69 (by decide) ?_ ?_
    · refine e_iinc G (pc := 74) (x := l2) (v := l2 + 1) (L' := fun v3 => [some (.ref 16), some (.int l1), some (.int v3), some (.int l3), some (.int l4)]) dX0_fitsSet_74 (Nat.le_of_ble_eq_true rfl) rfl (by rfl) (fun _ => rfl) (fun v3 => ?_)
      refine e_goto G (pc := 77) (tgt := 2) dX0_fitsSet_77 (by decide) ?_
      refine e_wk (L' := [some (.ref 16), some (.int l1), some (.int v3), none, none]) (And.intro rfl (And.intro rfl (And.intro rfl (trivial)))) ?_
      exact hk2 w l1 v3 
    · refine e_iconst G (pc := 72) (v := 0) dX0_fitsSet_72 (by decide) ?_
      exact e_zret dX0_fitsSet_73
  · refine e_iload_n G (pc := 27) dX0_fitsSet_27 rfl rfl ?_
    refine e_iload G (pc := 28) dX0_fitsSet_28 rfl ?_
    refine e_ishr G (pc := 30) dX0_fitsSet_30 ?_
    refine e_iconst G (pc := 31) (v := 1) dX0_fitsSet_31 (by decide) ?_
    refine e_iand G (pc := 32) dX0_fitsSet_32 ?_
    refine e_if_eq G (pc := 33) (tgt := 51) dX0_fitsSet_33 (by decide) ?_ ?_
    · exact t_X0_fitsSet_B51 G k2 k15 hk2 hk15 w l1 l2 l3 l4 
    · refine e_iload_n G (pc := 36) dX0_fitsSet_36 rfl rfl ?_
      refine e_aload_n G (pc := 37) dX0_fitsSet_37 rfl rfl ?_
      refine e_getF G (pc := 38) sh_16 rfl lk_X0_21 dX0_fitsSet_38 ?_
      refine e_iload_n G (pc := 41) dX0_fitsSet_41 rfl rfl ?_
      refine e_bipush G (pc := 42) (v := 7) dX0_fitsSet_42 (by decide) ?_
      refine e_imul G (pc := 44) dX0_fitsSet_44 ?_
      refine e_iload G (pc := 45) dX0_fitsSet_45 rfl ?_
      refine e_iadd G (pc := 47) dX0_fitsSet_47 ?_
      refine e_iald G (pc := 48) sh_20 dX0_fitsSet_48 (fun v4 => ?_)
      refine e_iadd G (pc := 49) dX0_fitsSet_49 ?_
      refine e_ti (fun v5 => ?_)
      refine e_istore_n G (pc := 50) (L' := [some (.ref 16), some (.int l1), some (.int l2), some (.int v5), some (.int l4)]) dX0_fitsSet_50 rfl (Nat.le_of_ble_eq_true rfl) rfl ?_
      exact t_X0_fitsSet_B51 G k2 k15 hk2 hk15 w l1 l2 v5 l4 
set_option maxRecDepth 100000 in
set_option maxHeartbeats 4000000 in
theorem t_X0_fitsSet_R15 {E : qE} {Γ : qC} (G : q_Ok E Γ RX0 cX0_fitsSet 5 (2)) (k2 : qW → Int32 → Int32 → Option (Int32 × qW)) (hk2 : ∀ (w : qW) (l1 : Int32) (l2 : Int32), q_Ev E Γ 5 (q_Fz E Γ cX0_fitsSet) 2 [some (.ref 16), some (.int l1), some (.int l2), none, none] [] w (k2 w l1 l2)) : ∀ (fuel : Nat) (w : qW) (l1 : Int32) (l2 : Int32) (l3 : Int32) (l4 : Int32) , q_Ev E Γ 5 (q_Fz E Γ cX0_fitsSet) 15 [some (.ref 16), some (.int l1), some (.int l2), some (.int l3), some (.int l4)] [] w (f_X0_fitsSet_R15 k2 fuel w l1 l2 l3 l4) := by
  intro fuel
  induction fuel with
  | zero => intros; exact e_none
  | succ fuel ih =>
    intro w l1 l2 l3 l4 
    exact t_X0_fitsSet_B15 G k2 _ hk2 ih w l1 l2 l3 l4 
set_option maxRecDepth 100000 in
set_option maxHeartbeats 4000000 in
theorem t_X0_fitsSet_B2 {E : qE} {Γ : qC} (G : q_Ok E Γ RX0 cX0_fitsSet 5 (2)) (k2 : qW → Int32 → Int32 → Option (Int32 × qW)) (hk2 : ∀ (w : qW) (l1 : Int32) (l2 : Int32), q_Ev E Γ 5 (q_Fz E Γ cX0_fitsSet) 2 [some (.ref 16), some (.int l1), some (.int l2), none, none] [] w (k2 w l1 l2)) (w : qW) (l1 : Int32) (l2 : Int32) : q_Ev E Γ 5 (q_Fz E Γ cX0_fitsSet) 2 [some (.ref 16), some (.int l1), some (.int l2), none, none] [] w (f_X0_fitsSet_B2 k2 w l1 l2) := by
  unfold f_X0_fitsSet_B2
  refine e_iload_n G (pc := 2) dX0_fitsSet_2 rfl rfl ?_
  refine e_aload_n G (pc := 3) dX0_fitsSet_3 rfl rfl ?_
  refine e_getI G (pc := 4) sh_16 rfl lk_X0_32 dX0_fitsSet_4 ?_
  refine e_icmp_ge G (pc := 7) (tgt := 80) dX0_fitsSet_7 (by decide) ?_ ?_
  · refine e_aload_n G (pc := 80) dX0_fitsSet_80 rfl rfl ?_
    refine e_getI G (pc := 81) sh_16 rfl lk_X0_36 dX0_fitsSet_81 ?_
    refine e_if_ne G (pc := 84) (tgt := 91) dX0_fitsSet_84 (by decide) ?_ ?_
    · refine e_iconst G (pc := 91) (v := 0) dX0_fitsSet_91 (by decide) ?_
      exact e_zret dX0_fitsSet_92
    · refine e_iconst G (pc := 87) (v := 1) dX0_fitsSet_87 (by decide) ?_
      refine e_goto G (pc := 88) (tgt := 92) dX0_fitsSet_88 (by decide) ?_
      exact e_zret dX0_fitsSet_92
  · refine e_iconst G (pc := 10) (v := 0) dX0_fitsSet_10 (by decide) ?_
    refine e_istore_n G (pc := 11) (L' := [some (.ref 16), some (.int l1), some (.int l2), some (.int 0), none]) dX0_fitsSet_11 rfl (Nat.le_of_ble_eq_true rfl) rfl ?_
    refine e_iconst G (pc := 12) (v := 0) dX0_fitsSet_12 (by decide) ?_
    refine e_istore G (pc := 13) (L' := [some (.ref 16), some (.int l1), some (.int l2), some (.int 0), some (.int 0)]) dX0_fitsSet_13 (Nat.le_of_ble_eq_true rfl) rfl ?_
    exact t_X0_fitsSet_R15 G k2 hk2  q_fuel w l1 l2 0 0 
set_option maxRecDepth 100000 in
set_option maxHeartbeats 4000000 in
theorem t_X0_fitsSet_R2 {E : qE} {Γ : qC} (G : q_Ok E Γ RX0 cX0_fitsSet 5 (2)) : ∀ (fuel : Nat) (w : qW) (l1 : Int32) (l2 : Int32) , q_Ev E Γ 5 (q_Fz E Γ cX0_fitsSet) 2 [some (.ref 16), some (.int l1), some (.int l2), none, none] [] w (f_X0_fitsSet_R2 fuel w l1 l2) := by
  intro fuel
  induction fuel with
  | zero => intros; exact e_none
  | succ fuel ih =>
    intro w l1 l2 
    exact t_X0_fitsSet_B2 G _ ih w l1 l2 
set_option maxRecDepth 100000 in
set_option maxHeartbeats 4000000 in
theorem t_X0_fitsSet {E : qE} {Γ : qC} (G : q_Ok E Γ RX0 cX0_fitsSet 5 (2)) (w : qW) (a1 : Int32) : q_Ev E Γ 5 (q_Fz E Γ cX0_fitsSet) 0 [some (.ref 16), some (.int a1), none, none, none] [] w (f_X0_fitsSet w a1) := by
  unfold f_X0_fitsSet
  refine e_iconst G (pc := 0) (v := 0) dX0_fitsSet_0 (by decide) ?_
  refine e_istore_n G (pc := 1) (L' := [some (.ref 16), some (.int a1), some (.int 0), none, none]) dX0_fitsSet_1 rfl (Nat.le_of_ble_eq_true rfl) rfl ?_
  exact t_X0_fitsSet_R2 G  q_fuel w a1 0 
set_option maxRecDepth 100000 in
set_option maxHeartbeats 4000000 in
theorem c_X0_fitsSet (w : qW) (a1 : Int32) : q_AC q_vi (some .boolean) (2) yX0_fitsSet cX0_fitsSet 5 [.ref 16, .int a1] w (f_X0_fitsSet w a1) := q_met_z (k := 3) (by decide +kernel) rfl rfl rfl (fun _ _ G => t_X0_fitsSet G w a1 )
set_option maxRecDepth 100000 in
set_option maxHeartbeats 4000000 in
theorem t_X0_setsThatFit_B26 {E : qE} {Γ : qC} (G : q_Ok E Γ RX0 cX0_setsThatFit 3 (3)) (k4 : qW → Int32 → Int32 → Option (Int32 × qW)) (hk4 : ∀ (w : qW) (l1 : Int32) (l2 : Int32), q_Ev E Γ 3 (q_Fi E Γ cX0_setsThatFit) 4 [some (.ref 16), some (.int l1), some (.int l2)] [] w (k4 w l1 l2)) (w : qW) (l1 : Int32) (l2 : Int32) : q_Ev E Γ 3 (q_Fi E Γ cX0_setsThatFit) 26 [some (.ref 16), some (.int l1), some (.int l2)] [] w (f_X0_setsThatFit_B26 k4 w l1 l2) := by
  unfold f_X0_setsThatFit_B26
  refine e_iinc G (pc := 26) (x := l2) (v := l2 + 1) (L' := fun v1 => [some (.ref 16), some (.int l1), some (.int v1)]) dX0_setsThatFit_26 (Nat.le_of_ble_eq_true rfl) rfl (by rfl) (fun _ => rfl) (fun v1 => ?_)
  refine e_goto G (pc := 29) (tgt := 4) dX0_setsThatFit_29 (by decide) ?_
  exact hk4 w l1 v1 
set_option maxRecDepth 100000 in
set_option maxHeartbeats 4000000 in
theorem t_X0_setsThatFit_B4 {E : qE} {Γ : qC} (G : q_Ok E Γ RX0 cX0_setsThatFit 3 (3)) (k4 : qW → Int32 → Int32 → Option (Int32 × qW)) (hk4 : ∀ (w : qW) (l1 : Int32) (l2 : Int32), q_Ev E Γ 3 (q_Fi E Γ cX0_setsThatFit) 4 [some (.ref 16), some (.int l1), some (.int l2)] [] w (k4 w l1 l2)) (w : qW) (l1 : Int32) (l2 : Int32) : q_Ev E Γ 3 (q_Fi E Γ cX0_setsThatFit) 4 [some (.ref 16), some (.int l1), some (.int l2)] [] w (f_X0_setsThatFit_B4 k4 w l1 l2) := by
  unfold f_X0_setsThatFit_B4
  refine e_iload_n G (pc := 4) dX0_setsThatFit_4 rfl rfl ?_
  refine e_aload_n G (pc := 5) dX0_setsThatFit_5 rfl rfl ?_
  refine e_getF G (pc := 6) sh_16 rfl lk_X0_24 dX0_setsThatFit_6 ?_
  refine e_cVi G (pc := 9) (As := []) (st := [.int l2]) cv_X0_92 (c_X4_everyone w  ) sh_1 (Nat.le_of_ble_eq_true rfl) rfl (Nat.le_of_ble_eq_true rfl) dX0_setsThatFit_9 (fun r1 w2 => ?_)
  refine e_icmp_gt G (pc := 12) (tgt := 32) dX0_setsThatFit_12 (by decide) ?_ ?_
  · refine e_iload_n G (pc := 32) dX0_setsThatFit_32 rfl rfl ?_
    exact e_iret dX0_setsThatFit_33
  · refine e_aload_n G (pc := 15) dX0_setsThatFit_15 rfl rfl ?_
    refine e_iload_n G (pc := 16) dX0_setsThatFit_16 rfl rfl ?_
    refine e_cVi G (pc := 17) (As := [.int l2]) (st := []) cv_X0_95 (c_X0_fitsSet w2 l2 ) sh_16 (Nat.le_of_ble_eq_true rfl) rfl (Nat.le_of_ble_eq_true rfl) dX0_setsThatFit_17 (fun r3 w4 => ?_)
    refine e_if_eq G (pc := 20) (tgt := 26) dX0_setsThatFit_20 (by decide) ?_ ?_
    · exact t_X0_setsThatFit_B26 G k4 hk4 w4 l1 l2 
    · refine e_iinc G (pc := 23) (x := l1) (v := l1 + 1) (L' := fun v5 => [some (.ref 16), some (.int v5), some (.int l2)]) dX0_setsThatFit_23 (Nat.le_of_ble_eq_true rfl) rfl (by rfl) (fun _ => rfl) (fun v5 => ?_)
      exact t_X0_setsThatFit_B26 G k4 hk4 w4 v5 l2 
set_option maxRecDepth 100000 in
set_option maxHeartbeats 4000000 in
theorem t_X0_setsThatFit_R4 {E : qE} {Γ : qC} (G : q_Ok E Γ RX0 cX0_setsThatFit 3 (3)) : ∀ (fuel : Nat) (w : qW) (l1 : Int32) (l2 : Int32) , q_Ev E Γ 3 (q_Fi E Γ cX0_setsThatFit) 4 [some (.ref 16), some (.int l1), some (.int l2)] [] w (f_X0_setsThatFit_R4 fuel w l1 l2) := by
  intro fuel
  induction fuel with
  | zero => intros; exact e_none
  | succ fuel ih =>
    intro w l1 l2 
    exact t_X0_setsThatFit_B4 G _ ih w l1 l2 
set_option maxRecDepth 100000 in
set_option maxHeartbeats 4000000 in
theorem t_X0_setsThatFit {E : qE} {Γ : qC} (G : q_Ok E Γ RX0 cX0_setsThatFit 3 (3)) (w : qW) : q_Ev E Γ 3 (q_Fi E Γ cX0_setsThatFit) 0 [some (.ref 16), none, none] [] w (f_X0_setsThatFit w ) := by
  unfold f_X0_setsThatFit
  refine e_iconst G (pc := 0) (v := 0) dX0_setsThatFit_0 (by decide) ?_
  refine e_istore_n G (pc := 1) (L' := [some (.ref 16), some (.int 0), none]) dX0_setsThatFit_1 rfl (Nat.le_of_ble_eq_true rfl) rfl ?_
  refine e_iconst G (pc := 2) (v := 0) dX0_setsThatFit_2 (by decide) ?_
  refine e_istore_n G (pc := 3) (L' := [some (.ref 16), some (.int 0), some (.int 0)]) dX0_setsThatFit_3 rfl (Nat.le_of_ble_eq_true rfl) rfl ?_
  exact t_X0_setsThatFit_R4 G  q_fuel w 0 0 
set_option maxRecDepth 100000 in
set_option maxHeartbeats 4000000 in
theorem c_X0_setsThatFit (w : qW) : q_AC q_vi (some .int) (3) yX0_setsThatFit cX0_setsThatFit 3 [.ref 16] w (f_X0_setsThatFit w ) := q_met_i (k := 2) (by decide +kernel) rfl rfl rfl (fun _ _ G => t_X0_setsThatFit G w  )
set_option maxRecDepth 100000 in
set_option maxHeartbeats 4000000 in
theorem t_X0_leastSetThatFits_B2 {E : qE} {Γ : qC} (G : q_Ok E Γ RX0 cX0_leastSetThatFits 2 (3)) (k2 : qW → Int32 → Option (Int32 × qW)) (hk2 : ∀ (w : qW) (l1 : Int32), q_Ev E Γ 2 (q_Fi E Γ cX0_leastSetThatFits) 2 [some (.ref 16), some (.int l1)] [] w (k2 w l1)) (w : qW) (l1 : Int32) : q_Ev E Γ 2 (q_Fi E Γ cX0_leastSetThatFits) 2 [some (.ref 16), some (.int l1)] [] w (f_X0_leastSetThatFits_B2 k2 w l1) := by
  unfold f_X0_leastSetThatFits_B2
  refine e_iload_n G (pc := 2) dX0_leastSetThatFits_2 rfl rfl ?_
  refine e_aload_n G (pc := 3) dX0_leastSetThatFits_3 rfl rfl ?_
  refine e_getF G (pc := 4) sh_16 rfl lk_X0_24 dX0_leastSetThatFits_4 ?_
  refine e_cVi G (pc := 7) (As := []) (st := [.int l1]) cv_X0_92 (c_X4_everyone w  ) sh_1 (Nat.le_of_ble_eq_true rfl) rfl (Nat.le_of_ble_eq_true rfl) dX0_leastSetThatFits_7 (fun r1 w2 => ?_)
  refine e_icmp_gt G (pc := 10) (tgt := 29) dX0_leastSetThatFits_10 (by decide) ?_ ?_
  · refine e_bipush G (pc := 29) (v := (-2)) dX0_leastSetThatFits_29 (by decide) ?_
    exact e_iret dX0_leastSetThatFits_31
  · refine e_aload_n G (pc := 13) dX0_leastSetThatFits_13 rfl rfl ?_
    refine e_iload_n G (pc := 14) dX0_leastSetThatFits_14 rfl rfl ?_
    refine e_cVi G (pc := 15) (As := [.int l1]) (st := []) cv_X0_95 (c_X0_fitsSet w2 l1 ) sh_16 (Nat.le_of_ble_eq_true rfl) rfl (Nat.le_of_ble_eq_true rfl) dX0_leastSetThatFits_15 (fun r3 w4 => ?_)
    refine e_if_eq G (pc := 18) (tgt := 23) dX0_leastSetThatFits_18 (by decide) ?_ ?_
    · refine e_iinc G (pc := 23) (x := l1) (v := l1 + 1) (L' := fun v5 => [some (.ref 16), some (.int v5)]) dX0_leastSetThatFits_23 (Nat.le_of_ble_eq_true rfl) rfl (by rfl) (fun _ => rfl) (fun v5 => ?_)
      refine e_goto G (pc := 26) (tgt := 2) dX0_leastSetThatFits_26 (by decide) ?_
      exact hk2 w4 v5 
    · refine e_iload_n G (pc := 21) dX0_leastSetThatFits_21 rfl rfl ?_
      exact e_iret dX0_leastSetThatFits_22
set_option maxRecDepth 100000 in
set_option maxHeartbeats 4000000 in
theorem t_X0_leastSetThatFits_R2 {E : qE} {Γ : qC} (G : q_Ok E Γ RX0 cX0_leastSetThatFits 2 (3)) : ∀ (fuel : Nat) (w : qW) (l1 : Int32) , q_Ev E Γ 2 (q_Fi E Γ cX0_leastSetThatFits) 2 [some (.ref 16), some (.int l1)] [] w (f_X0_leastSetThatFits_R2 fuel w l1) := by
  intro fuel
  induction fuel with
  | zero => intros; exact e_none
  | succ fuel ih =>
    intro w l1 
    exact t_X0_leastSetThatFits_B2 G _ ih w l1 
set_option maxRecDepth 100000 in
set_option maxHeartbeats 4000000 in
theorem t_X0_leastSetThatFits {E : qE} {Γ : qC} (G : q_Ok E Γ RX0 cX0_leastSetThatFits 2 (3)) (w : qW) : q_Ev E Γ 2 (q_Fi E Γ cX0_leastSetThatFits) 0 [some (.ref 16), none] [] w (f_X0_leastSetThatFits w ) := by
  unfold f_X0_leastSetThatFits
  refine e_iconst G (pc := 0) (v := 0) dX0_leastSetThatFits_0 (by decide) ?_
  refine e_istore_n G (pc := 1) (L' := [some (.ref 16), some (.int 0)]) dX0_leastSetThatFits_1 rfl (Nat.le_of_ble_eq_true rfl) rfl ?_
  exact t_X0_leastSetThatFits_R2 G  q_fuel w 0 
set_option maxRecDepth 100000 in
set_option maxHeartbeats 4000000 in
theorem c_X0_leastSetThatFits (w : qW) : q_AC q_vi (some .int) (3) yX0_leastSetThatFits cX0_leastSetThatFits 2 [.ref 16] w (f_X0_leastSetThatFits w ) := q_met_i (k := 1) (by decide +kernel) rfl rfl rfl (fun _ _ G => t_X0_leastSetThatFits G w  )
set_option maxRecDepth 100000 in
set_option maxHeartbeats 4000000 in
theorem t_X0_certain_B37 {E : qE} {Γ : qC} (G : q_Ok E Γ RX0 cX0_certain 4 (3)) (k12 : qW → Int32 → Int32 → Int32 → Option (Int32 × qW)) (hk12 : ∀ (w : qW) (l1 : Int32) (l2 : Int32) (l3 : Int32), q_Ev E Γ 4 (q_Fi E Γ cX0_certain) 12 [some (.ref 16), some (.int l1), some (.int l2), some (.int l3)] [] w (k12 w l1 l2 l3)) (w : qW) (l1 : Int32) (l2 : Int32) (l3 : Int32) : q_Ev E Γ 4 (q_Fi E Γ cX0_certain) 37 [some (.ref 16), some (.int l1), some (.int l2), some (.int l3)] [] w (f_X0_certain_B37 k12 w l1 l2 l3) := by
  unfold f_X0_certain_B37
  refine e_iinc G (pc := 37) (x := l3) (v := l3 + 1) (L' := fun v1 => [some (.ref 16), some (.int l1), some (.int l2), some (.int v1)]) dX0_certain_37 (Nat.le_of_ble_eq_true rfl) rfl (by rfl) (fun _ => rfl) (fun v1 => ?_)
  refine e_goto G (pc := 40) (tgt := 12) dX0_certain_40 (by decide) ?_
  exact hk12 w l1 l2 v1 
set_option maxRecDepth 100000 in
set_option maxHeartbeats 4000000 in
theorem t_X0_certain_B12 {E : qE} {Γ : qC} (G : q_Ok E Γ RX0 cX0_certain 4 (3)) (k12 : qW → Int32 → Int32 → Int32 → Option (Int32 × qW)) (hk12 : ∀ (w : qW) (l1 : Int32) (l2 : Int32) (l3 : Int32), q_Ev E Γ 4 (q_Fi E Γ cX0_certain) 12 [some (.ref 16), some (.int l1), some (.int l2), some (.int l3)] [] w (k12 w l1 l2 l3)) (w : qW) (l1 : Int32) (l2 : Int32) (l3 : Int32) : q_Ev E Γ 4 (q_Fi E Γ cX0_certain) 12 [some (.ref 16), some (.int l1), some (.int l2), some (.int l3)] [] w (f_X0_certain_B12 k12 w l1 l2 l3) := by
  unfold f_X0_certain_B12
  refine e_iload_n G (pc := 12) dX0_certain_12 rfl rfl ?_
  refine e_aload_n G (pc := 13) dX0_certain_13 rfl rfl ?_
  refine e_getF G (pc := 14) sh_16 rfl lk_X0_24 dX0_certain_14 ?_
  refine e_cVi G (pc := 17) (As := []) (st := [.int l3]) cv_X0_92 (c_X4_everyone w  ) sh_1 (Nat.le_of_ble_eq_true rfl) rfl (Nat.le_of_ble_eq_true rfl) dX0_certain_17 (fun r1 w2 => ?_)
  refine e_icmp_gt G (pc := 20) (tgt := 43) dX0_certain_20 (by decide) ?_ ?_
  · refine e_iload_n G (pc := 43) dX0_certain_43 rfl rfl ?_
    refine e_if_eq G (pc := 44) (tgt := 51) dX0_certain_44 (by decide) ?_ ?_
    · refine e_iconst G (pc := 51) (v := 0) dX0_certain_51 (by decide) ?_
      exact e_iret dX0_certain_52
    · refine e_iload_n G (pc := 47) dX0_certain_47 rfl rfl ?_
      refine e_goto G (pc := 48) (tgt := 52) dX0_certain_48 (by decide) ?_
      exact e_iret dX0_certain_52
  · refine e_aload_n G (pc := 23) dX0_certain_23 rfl rfl ?_
    refine e_iload_n G (pc := 24) dX0_certain_24 rfl rfl ?_
    refine e_cVi G (pc := 25) (As := [.int l3]) (st := []) cv_X0_95 (c_X0_fitsSet w2 l3 ) sh_16 (Nat.le_of_ble_eq_true rfl) rfl (Nat.le_of_ble_eq_true rfl) dX0_certain_25 (fun r3 w4 => ?_)
    refine e_if_eq G (pc := 28) (tgt := 37) dX0_certain_28 (by decide) ?_ ?_
    · exact t_X0_certain_B37 G k12 hk12 w4 l1 l2 l3 
    · refine e_iconst G (pc := 31) (v := 1) dX0_certain_31 (by decide) ?_
      refine e_istore_n G (pc := 32) (L' := [some (.ref 16), some (.int l1), some (.int 1), some (.int l3)]) dX0_certain_32 rfl (Nat.le_of_ble_eq_true rfl) rfl ?_
      refine e_iload_n G (pc := 33) dX0_certain_33 rfl rfl ?_
      refine e_iload_n G (pc := 34) dX0_certain_34 rfl rfl ?_
      refine e_iand G (pc := 35) dX0_certain_35 ?_
      refine e_ti (fun v5 => ?_)
      refine e_istore_n G (pc := 36) (L' := [some (.ref 16), some (.int v5), some (.int 1), some (.int l3)]) dX0_certain_36 rfl (Nat.le_of_ble_eq_true rfl) rfl ?_
      exact t_X0_certain_B37 G k12 hk12 w4 v5 1 l3 
set_option maxRecDepth 100000 in
set_option maxHeartbeats 4000000 in
theorem t_X0_certain_R12 {E : qE} {Γ : qC} (G : q_Ok E Γ RX0 cX0_certain 4 (3)) : ∀ (fuel : Nat) (w : qW) (l1 : Int32) (l2 : Int32) (l3 : Int32) , q_Ev E Γ 4 (q_Fi E Γ cX0_certain) 12 [some (.ref 16), some (.int l1), some (.int l2), some (.int l3)] [] w (f_X0_certain_R12 fuel w l1 l2 l3) := by
  intro fuel
  induction fuel with
  | zero => intros; exact e_none
  | succ fuel ih =>
    intro w l1 l2 l3 
    exact t_X0_certain_B12 G _ ih w l1 l2 l3 
set_option maxRecDepth 100000 in
set_option maxHeartbeats 4000000 in
theorem t_X0_certain {E : qE} {Γ : qC} (G : q_Ok E Γ RX0 cX0_certain 4 (3)) (w : qW) : q_Ev E Γ 4 (q_Fi E Γ cX0_certain) 0 [some (.ref 16), none, none, none] [] w (f_X0_certain w ) := by
  unfold f_X0_certain
  refine e_aload_n G (pc := 0) dX0_certain_0 rfl rfl ?_
  refine e_getF G (pc := 1) sh_16 rfl lk_X0_24 dX0_certain_1 ?_
  refine e_cVi G (pc := 4) (As := []) (st := []) cv_X0_92 (c_X4_everyone w  ) sh_1 (Nat.le_of_ble_eq_true rfl) rfl (Nat.le_of_ble_eq_true rfl) dX0_certain_4 (fun r1 w2 => ?_)
  refine e_istore_n G (pc := 7) (L' := [some (.ref 16), some (.int r1), none, none]) dX0_certain_7 rfl (Nat.le_of_ble_eq_true rfl) rfl ?_
  refine e_iconst G (pc := 8) (v := 0) dX0_certain_8 (by decide) ?_
  refine e_istore_n G (pc := 9) (L' := [some (.ref 16), some (.int r1), some (.int 0), none]) dX0_certain_9 rfl (Nat.le_of_ble_eq_true rfl) rfl ?_
  refine e_iconst G (pc := 10) (v := 0) dX0_certain_10 (by decide) ?_
  refine e_istore_n G (pc := 11) (L' := [some (.ref 16), some (.int r1), some (.int 0), some (.int 0)]) dX0_certain_11 rfl (Nat.le_of_ble_eq_true rfl) rfl ?_
  exact t_X0_certain_R12 G  q_fuel w2 r1 0 0 
set_option maxRecDepth 100000 in
set_option maxHeartbeats 4000000 in
theorem c_X0_certain (w : qW) : q_AC q_vi (some .int) (3) yX0_certain cX0_certain 4 [.ref 16] w (f_X0_certain w ) := q_met_i (k := 3) (by decide +kernel) rfl rfl rfl (fun _ _ G => t_X0_certain G w  )
set_option maxRecDepth 100000 in
set_option maxHeartbeats 4000000 in
theorem t_X0_wishOf_B10 {E : qE} {Γ : qC} (G : q_Ok E Γ RX0 cX0_wishOf 8 (3)) (id1 : Nat) (hs1 : q_shelf id1) (k10 : qW → Int32 → Int32 → Int32 → Int32 → Option (Int32 × qW)) (hk10 : ∀ (w : qW) (l2 : Int32) (l3 : Int32) (l4 : Int32) (l5 : Int32), q_Ev E Γ 8 (q_Fi E Γ cX0_wishOf) 10 [none, some (.ref id1), some (.int l2), some (.int l3), some (.int l4), some (.int l5), none, none] [] w (k10 w l2 l3 l4 l5)) (w : qW) (l2 : Int32) (l3 : Int32) (l4 : Int32) (l5 : Int32) : q_Ev E Γ 8 (q_Fi E Γ cX0_wishOf) 10 [none, some (.ref id1), some (.int l2), some (.int l3), some (.int l4), some (.int l5), none, none] [] w (f_X0_wishOf_B10 id1 k10 w l2 l3 l4 l5) := by
  unfold f_X0_wishOf_B10
  refine e_iload G (pc := 10) dX0_wishOf_10 rfl ?_
  refine e_aload_n G (pc := 12) dX0_wishOf_12 rfl rfl ?_
  refine e_cVi G (pc := 13) (As := []) (st := [.int l5]) cv_X0_40 (c_X6_size w id1 hs1) hs1.1 (Nat.le_of_ble_eq_true rfl) rfl (Nat.le_of_ble_eq_true rfl) dX0_wishOf_13 (fun r1 w2 => ?_)
  refine e_icmp_ge G (pc := 16) (tgt := 66) dX0_wishOf_16 (by decide) ?_ ?_
  · refine e_aload_n G (pc := 66) dX0_wishOf_66 rfl rfl ?_
    refine e_cVi G (pc := 67) (As := []) (st := []) cv_X0_40 (c_X6_size w2 id1 hs1) hs1.1 (Nat.le_of_ble_eq_true rfl) rfl (Nat.le_of_ble_eq_true rfl) dX0_wishOf_67 (fun r3 w4 => ?_)
    refine e_if_ne G (pc := 70) (tgt := 76) dX0_wishOf_70 (by decide) ?_ ?_
    · refine e_iload_n G (pc := 76) dX0_wishOf_76 rfl rfl ?_
      refine e_if_eq G (pc := 77) (tgt := 84) dX0_wishOf_77 (by decide) ?_ ?_
      · refine e_sipush G (pc := 84) (v := 4095) dX0_wishOf_84 (by decide) ?_
        refine e_iload G (pc := 87) dX0_wishOf_87 rfl ?_
        refine e_iconst G (pc := 89) (v := (-1)) dX0_wishOf_89 (by decide) ?_
        refine e_ixor G (pc := 90) dX0_wishOf_90 ?_
        refine e_iand G (pc := 91) dX0_wishOf_91 ?_
        exact e_iret dX0_wishOf_92
      · refine e_iload_n G (pc := 80) dX0_wishOf_80 rfl rfl ?_
        refine e_goto G (pc := 81) (tgt := 92) dX0_wishOf_81 (by decide) ?_
        exact e_iret dX0_wishOf_92
    · refine e_bipush G (pc := 73) (v := (-2)) dX0_wishOf_73 (by decide) ?_
      exact e_iret dX0_wishOf_75
  · refine e_aload_n G (pc := 19) dX0_wishOf_19 rfl rfl ?_
    refine e_iload G (pc := 20) dX0_wishOf_20 rfl ?_
    refine e_cVl G (pc := 22) (As := [.int l5]) (st := []) cv_X0_50 (c_X6_get w2 id1 l5 hs1) hs1.1 (Nat.le_of_ble_eq_true rfl) rfl (Nat.le_of_ble_eq_true rfl) dX0_wishOf_22 (fun r5 w6 => ?_)
    refine e_lstore G (pc := 25) (L' := [none, some (.ref id1), some (.int l2), some (.int l3), some (.int l4), some (.int l5), some (.long r5), none]) dX0_wishOf_25 (Nat.le_of_ble_eq_true rfl) rfl ?_
    refine e_lload G (pc := 27) dX0_wishOf_27 rfl ?_
    refine e_lconst G (pc := 29) (v := 0) dX0_wishOf_29 (by decide) ?_
    refine e_lcmp G (pc := 30) dX0_wishOf_30 ?_
    refine e_if_lt G (pc := 31) (tgt := 43) dX0_wishOf_31 (by decide) ?_ ?_
    · refine e_bipush G (pc := 43) (v := (-2)) dX0_wishOf_43 (by decide) ?_
      exact e_iret dX0_wishOf_45
    · refine e_lload G (pc := 34) dX0_wishOf_34 rfl ?_
      refine e_ldc2 G (pc := 36) kl_X0_99 dX0_wishOf_36 ?_
      refine e_lcmp G (pc := 39) dX0_wishOf_39 ?_
      refine e_if_le G (pc := 40) (tgt := 46) dX0_wishOf_40 (by decide) ?_ ?_
      · refine e_iload_n G (pc := 46) dX0_wishOf_46 rfl rfl ?_
        refine e_lload G (pc := 47) dX0_wishOf_47 rfl ?_
        refine e_l2i G (pc := 49) dX0_wishOf_49 ?_
        refine e_iand G (pc := 50) dX0_wishOf_50 ?_
        refine e_ti (fun v7 => ?_)
        refine e_istore_n G (pc := 51) (L' := [none, some (.ref id1), some (.int l2), some (.int v7), some (.int l4), some (.int l5), some (.long r5), none]) dX0_wishOf_51 rfl (Nat.le_of_ble_eq_true rfl) rfl ?_
        refine e_iload G (pc := 52) dX0_wishOf_52 rfl ?_
        refine e_lload G (pc := 54) dX0_wishOf_54 rfl ?_
        refine e_l2i G (pc := 56) dX0_wishOf_56 ?_
        refine e_ior G (pc := 57) dX0_wishOf_57 ?_
        refine e_ti (fun v8 => ?_)
        refine e_istore G (pc := 58) (L' := [none, some (.ref id1), some (.int l2), some (.int v7), some (.int v8), some (.int l5), some (.long r5), none]) dX0_wishOf_58 (Nat.le_of_ble_eq_true rfl) rfl ?_
        refine e_iinc G (pc := 60) (x := l5) (v := l5 + 1) (L' := fun v9 => [none, some (.ref id1), some (.int l2), some (.int v7), some (.int v8), some (.int v9), some (.long r5), none]) dX0_wishOf_60 (Nat.le_of_ble_eq_true rfl) rfl (by rfl) (fun _ => rfl) (fun v9 => ?_)
        refine e_goto G (pc := 63) (tgt := 10) dX0_wishOf_63 (by decide) ?_
        refine e_wk (L' := [none, some (.ref id1), some (.int l2), some (.int v7), some (.int v8), some (.int v9), none, none]) (And.intro rfl (And.intro rfl (And.intro rfl (And.intro rfl (And.intro rfl (trivial)))))) ?_
        exact hk10 w6 l2 v7 v8 v9 
      · refine e_bipush G (pc := 43) (v := (-2)) dX0_wishOf_43 (by decide) ?_
        exact e_iret dX0_wishOf_45
set_option maxRecDepth 100000 in
set_option maxHeartbeats 4000000 in
theorem t_X0_wishOf_R10 {E : qE} {Γ : qC} (G : q_Ok E Γ RX0 cX0_wishOf 8 (3)) (id1 : Nat) (hs1 : q_shelf id1) : ∀ (fuel : Nat) (w : qW) (l2 : Int32) (l3 : Int32) (l4 : Int32) (l5 : Int32) , q_Ev E Γ 8 (q_Fi E Γ cX0_wishOf) 10 [none, some (.ref id1), some (.int l2), some (.int l3), some (.int l4), some (.int l5), none, none] [] w (f_X0_wishOf_R10 id1 fuel w l2 l3 l4 l5) := by
  intro fuel
  induction fuel with
  | zero => intros; exact e_none
  | succ fuel ih =>
    intro w l2 l3 l4 l5 
    exact t_X0_wishOf_B10 G id1 hs1 _ ih w l2 l3 l4 l5 
set_option maxRecDepth 100000 in
set_option maxHeartbeats 4000000 in
theorem t_X0_wishOf {E : qE} {Γ : qC} (G : q_Ok E Γ RX0 cX0_wishOf 8 (3)) (w : qW) (id1 : Nat) (a2 : Int32) (hs1 : q_shelf id1) : q_Ev E Γ 8 (q_Fi E Γ cX0_wishOf) 0 [some (.ref 16), some (.ref id1), some (.int a2), none, none, none, none, none] [] w (f_X0_wishOf w id1 a2) := by
  unfold f_X0_wishOf
  refine e_sipush G (pc := 0) (v := 4095) dX0_wishOf_0 (by decide) ?_
  refine e_istore_n G (pc := 3) (L' := [some (.ref 16), some (.ref id1), some (.int a2), some (.int 4095), none, none, none, none]) dX0_wishOf_3 rfl (Nat.le_of_ble_eq_true rfl) rfl ?_
  refine e_iconst G (pc := 4) (v := 0) dX0_wishOf_4 (by decide) ?_
  refine e_istore G (pc := 5) (L' := [some (.ref 16), some (.ref id1), some (.int a2), some (.int 4095), some (.int 0), none, none, none]) dX0_wishOf_5 (Nat.le_of_ble_eq_true rfl) rfl ?_
  refine e_iconst G (pc := 7) (v := 0) dX0_wishOf_7 (by decide) ?_
  refine e_istore G (pc := 8) (L' := [some (.ref 16), some (.ref id1), some (.int a2), some (.int 4095), some (.int 0), some (.int 0), none, none]) dX0_wishOf_8 (Nat.le_of_ble_eq_true rfl) rfl ?_
  refine e_wk (L' := [none, some (.ref id1), some (.int a2), some (.int 4095), some (.int 0), some (.int 0), none, none]) (And.intro rfl (And.intro rfl (And.intro rfl (And.intro rfl (And.intro rfl (trivial)))))) ?_
  exact t_X0_wishOf_R10 G id1 hs1  q_fuel w a2 4095 0 0 
set_option maxRecDepth 100000 in
set_option maxHeartbeats 4000000 in
theorem c_X0_wishOf (w : qW) (id1 : Nat) (a2 : Int32) (hs1 : q_shelf id1) : q_AC q_vi (some .int) (3) yX0_wishOf cX0_wishOf 8 [.ref 16, .ref id1, .int a2] w (f_X0_wishOf w id1 a2) := q_met_i (k := 5) (by decide +kernel) rfl rfl rfl (fun _ _ G => t_X0_wishOf G w id1 a2 hs1)
set_option maxRecDepth 100000 in
set_option maxHeartbeats 4000000 in
theorem t_X9_apart {E : qE} {Γ : qC} (G : q_Ok E Γ RX9 cX9_apart 2 (2)) (w : qW) (a1 : Int32) (a2 : Int32) : q_Ev E Γ 2 (q_Fi E Γ cX9_apart) 0 [some (.int a1), some (.int a2)] [] w (f_X9_apart w a1 a2) := by
  unfold f_X9_apart
  refine e_iload_n G (pc := 0) dX9_apart_0 rfl rfl ?_
  refine e_bipush G (pc := 1) (v := 12) dX9_apart_1 (by decide) ?_
  refine e_irem G (pc := 3) dX9_apart_3 (by decide) ?_
  refine e_iload_n G (pc := 4) dX9_apart_4 rfl rfl ?_
  refine e_bipush G (pc := 5) (v := 12) dX9_apart_5 (by decide) ?_
  refine e_irem G (pc := 7) dX9_apart_7 (by decide) ?_
  refine e_isub G (pc := 8) dX9_apart_8 ?_
  refine e_mabs G (pc := 9) mt_X9_75 (Nat.le_of_ble_eq_true rfl) (Nat.le_of_ble_eq_true rfl) dX9_apart_9 ?_
  refine e_ti (fun v1 => ?_)
  refine e_iload_n G (pc := 12) dX9_apart_12 rfl rfl ?_
  refine e_bipush G (pc := 13) (v := 12) dX9_apart_13 (by decide) ?_
  refine e_idiv G (pc := 15) dX9_apart_15 (by decide) ?_
  refine e_iload_n G (pc := 16) dX9_apart_16 rfl rfl ?_
  refine e_bipush G (pc := 17) (v := 12) dX9_apart_17 (by decide) ?_
  refine e_idiv G (pc := 19) dX9_apart_19 (by decide) ?_
  refine e_isub G (pc := 20) dX9_apart_20 ?_
  refine e_mabs G (pc := 21) mt_X9_75 (Nat.le_of_ble_eq_true rfl) (Nat.le_of_ble_eq_true rfl) dX9_apart_21 ?_
  refine e_ti (fun v2 => ?_)
  refine e_iadd G (pc := 24) dX9_apart_24 ?_
  exact e_iret dX9_apart_25
set_option maxRecDepth 100000 in
set_option maxHeartbeats 4000000 in
theorem c_X9_apart (w : qW) (a1 : Int32) (a2 : Int32) : q_AC q_vi (some .int) (2) yX9_apart cX9_apart 2 [.int a1, .int a2] w (f_X9_apart w a1 a2) := q_met_i (k := 0) (by decide +kernel) rfl rfl rfl (fun _ _ G => t_X9_apart G w a1 a2 )
set_option maxRecDepth 100000 in
set_option maxHeartbeats 4000000 in
theorem t_X9_markSeat_B88 {E : qE} {Γ : qC} (G : q_Ok E Γ RX9 cX9_markSeat 9 (6)) (k25 : qW → Int32 → Int32 → Int32 → Int32 → Int32 → Int32 → Int32 → Int32 → Option (Unit × qW)) (hk25 : ∀ (w : qW) (l1 : Int32) (l2 : Int32) (l3 : Int32) (l4 : Int32) (l5 : Int32) (l6 : Int32) (l7 : Int32) (l8 : Int32), q_Ev E Γ 9 (q_Fv E Γ cX9_markSeat) 25 [some (.ref 21), some (.int l1), some (.int l2), some (.int l3), some (.int l4), some (.int l5), some (.int l6), some (.int l7), some (.int l8)] [] w (k25 w l1 l2 l3 l4 l5 l6 l7 l8)) (w : qW) (l1 : Int32) (l2 : Int32) (l3 : Int32) (l4 : Int32) (l5 : Int32) (l6 : Int32) (l7 : Int32) (l8 : Int32) : q_Ev E Γ 9 (q_Fv E Γ cX9_markSeat) 88 [some (.ref 21), some (.int l1), some (.int l2), some (.int l3), some (.int l4), some (.int l5), some (.int l6), some (.int l7), some (.int l8)] [] w (f_X9_markSeat_B88 k25 w l1 l2 l3 l4 l5 l6 l7 l8) := by
  unfold f_X9_markSeat_B88
  refine e_iinc G (pc := 88) (x := l8) (v := l8 + 1) (L' := fun v1 => [some (.ref 21), some (.int l1), some (.int l2), some (.int l3), some (.int l4), some (.int l5), some (.int l6), some (.int l7), some (.int v1)]) dX9_markSeat_88 (Nat.le_of_ble_eq_true rfl) rfl (by rfl) (fun _ => rfl) (fun v1 => ?_)
  refine e_goto G (pc := 91) (tgt := 25) dX9_markSeat_91 (by decide) ?_
  exact hk25 w l1 l2 l3 l4 l5 l6 l7 v1 
set_option maxRecDepth 100000 in
set_option maxHeartbeats 4000000 in
theorem t_X9_markSeat_B25 {E : qE} {Γ : qC} (G : q_Ok E Γ RX9 cX9_markSeat 9 (6)) (k25 : qW → Int32 → Int32 → Int32 → Int32 → Int32 → Int32 → Int32 → Int32 → Option (Unit × qW)) (hk25 : ∀ (w : qW) (l1 : Int32) (l2 : Int32) (l3 : Int32) (l4 : Int32) (l5 : Int32) (l6 : Int32) (l7 : Int32) (l8 : Int32), q_Ev E Γ 9 (q_Fv E Γ cX9_markSeat) 25 [some (.ref 21), some (.int l1), some (.int l2), some (.int l3), some (.int l4), some (.int l5), some (.int l6), some (.int l7), some (.int l8)] [] w (k25 w l1 l2 l3 l4 l5 l6 l7 l8)) (w : qW) (l1 : Int32) (l2 : Int32) (l3 : Int32) (l4 : Int32) (l5 : Int32) (l6 : Int32) (l7 : Int32) (l8 : Int32) : q_Ev E Γ 9 (q_Fv E Γ cX9_markSeat) 25 [some (.ref 21), some (.int l1), some (.int l2), some (.int l3), some (.int l4), some (.int l5), some (.int l6), some (.int l7), some (.int l8)] [] w (f_X9_markSeat_B25 k25 w l1 l2 l3 l4 l5 l6 l7 l8) := by
  unfold f_X9_markSeat_B25
  refine e_iload G (pc := 25) dX9_markSeat_25 rfl ?_
  refine e_sipush G (pc := 27) (v := 144) dX9_markSeat_27 (by decide) ?_
  refine e_icmp_ge G (pc := 30) (tgt := 94) dX9_markSeat_30 (by decide) ?_ ?_
  · exact e_vret dX9_markSeat_94
  · refine e_iload G (pc := 33) dX9_markSeat_33 rfl ?_
    refine e_iload G (pc := 35) dX9_markSeat_35 rfl ?_
    refine e_cSi G (pc := 37) (ci := 0) (id := 0) (sl := []) (As := [.int l8, .int l6]) (st := []) cs_X9_55 (c_X9_apart w l8 l6 ) (Nat.le_of_ble_eq_true rfl) rfl (Nat.le_of_ble_eq_true rfl) dX9_markSeat_37 (fun r1 w2 => ?_)
    refine e_iload G (pc := 40) dX9_markSeat_40 rfl ?_
    refine e_icmp_gt G (pc := 42) (tgt := 88) dX9_markSeat_42 (by decide) ?_ ?_
    · exact t_X9_markSeat_B88 G k25 hk25 w2 l1 l2 l3 l4 l5 l6 l7 l8 
    · refine e_aload_n G (pc := 45) dX9_markSeat_45 rfl rfl ?_
      refine e_getF G (pc := 46) sh_21 rfl lk_X9_22 dX9_markSeat_46 ?_
      refine e_iload_n G (pc := 49) dX9_markSeat_49 rfl rfl ?_
      refine e_iload G (pc := 50) dX9_markSeat_50 rfl ?_
      refine e_iload G (pc := 52) dX9_markSeat_52 rfl ?_
      refine e_iload_n G (pc := 54) dX9_markSeat_54 rfl rfl ?_
      refine e_iload_n G (pc := 55) dX9_markSeat_55 rfl rfl ?_
      refine e_cVi G (pc := 56) (As := [.int l1, .int l8, .int l7, .int l2, .int l3]) (st := []) cv_X9_71 (c_X5_ifHe w2 l1 l8 l7 l2 l3 ) sh_9 (Nat.le_of_ble_eq_true rfl) rfl (Nat.le_of_ble_eq_true rfl) dX9_markSeat_56 (fun r3 w4 => ?_)
      refine e_iload G (pc := 59) dX9_markSeat_59 rfl ?_
      refine e_icmp_lt G (pc := 61) (tgt := 88) dX9_markSeat_61 (by decide) ?_ ?_
      · exact t_X9_markSeat_B88 G k25 hk25 w4 l1 l2 l3 l4 l5 l6 l7 l8 
      · refine e_aload_n G (pc := 64) dX9_markSeat_64 rfl rfl ?_
        refine e_getD G (pc := 65) (n := 1728) sh_21 rfl lk_X9_9 dX9_markSeat_65 (fun id5 hs6 => ?_)
        refine e_bipush G (pc := 68) (v := 12) dX9_markSeat_68 (by decide) ?_
        refine e_iload G (pc := 70) dX9_markSeat_70 rfl ?_
        refine e_imul G (pc := 72) dX9_markSeat_72 ?_
        refine e_iload_n G (pc := 73) dX9_markSeat_73 rfl rfl ?_
        refine e_bipush G (pc := 74) (v := 12) dX9_markSeat_74 (by decide) ?_
        refine e_idiv G (pc := 76) dX9_markSeat_76 (by decide) ?_
        refine e_iadd G (pc := 77) dX9_markSeat_77 ?_
        refine e_ti (fun v7 => ?_)
        refine e_dup2 G (pc := 78) dX9_markSeat_78 rfl rfl ?_
        refine e_iald G (pc := 79) hs6 dX9_markSeat_79 (fun v8 => ?_)
        refine e_iconst G (pc := 80) (v := 1) dX9_markSeat_80 (by decide) ?_
        refine e_iload_n G (pc := 81) dX9_markSeat_81 rfl rfl ?_
        refine e_bipush G (pc := 82) (v := 12) dX9_markSeat_82 (by decide) ?_
        refine e_irem G (pc := 84) dX9_markSeat_84 (by decide) ?_
        refine e_ishl G (pc := 85) dX9_markSeat_85 ?_
        refine e_ior G (pc := 86) dX9_markSeat_86 ?_
        refine e_iast G (pc := 87) hs6 dX9_markSeat_87 (fun w9 => ?_)
        exact t_X9_markSeat_B88 G k25 hk25 w9 l1 l2 l3 l4 l5 l6 l7 l8 
set_option maxRecDepth 100000 in
set_option maxHeartbeats 4000000 in
theorem t_X9_markSeat_R25 {E : qE} {Γ : qC} (G : q_Ok E Γ RX9 cX9_markSeat 9 (6)) : ∀ (fuel : Nat) (w : qW) (l1 : Int32) (l2 : Int32) (l3 : Int32) (l4 : Int32) (l5 : Int32) (l6 : Int32) (l7 : Int32) (l8 : Int32) , q_Ev E Γ 9 (q_Fv E Γ cX9_markSeat) 25 [some (.ref 21), some (.int l1), some (.int l2), some (.int l3), some (.int l4), some (.int l5), some (.int l6), some (.int l7), some (.int l8)] [] w (f_X9_markSeat_R25 fuel w l1 l2 l3 l4 l5 l6 l7 l8) := by
  intro fuel
  induction fuel with
  | zero => intros; exact e_none
  | succ fuel ih =>
    intro w l1 l2 l3 l4 l5 l6 l7 l8 
    exact t_X9_markSeat_B25 G _ ih w l1 l2 l3 l4 l5 l6 l7 l8 
set_option maxRecDepth 100000 in
set_option maxHeartbeats 4000000 in
theorem t_X9_markSeat {E : qE} {Γ : qC} (G : q_Ok E Γ RX9 cX9_markSeat 9 (6)) (w : qW) (a1 : Int32) (a2 : Int32) (a3 : Int32) (a4 : Int32) (a5 : Int32) : q_Ev E Γ 9 (q_Fv E Γ cX9_markSeat) 0 [some (.ref 21), some (.int a1), some (.int a2), some (.int a3), some (.int a4), some (.int a5), none, none, none] [] w (f_X9_markSeat w a1 a2 a3 a4 a5) := by
  unfold f_X9_markSeat
  refine e_aload_n G (pc := 0) dX9_markSeat_0 rfl rfl ?_
  refine e_getF G (pc := 1) sh_21 rfl lk_X9_18 dX9_markSeat_1 ?_
  refine e_iload_n G (pc := 4) dX9_markSeat_4 rfl rfl ?_
  refine e_iconst G (pc := 5) (v := 0) dX9_markSeat_5 (by decide) ?_
  refine e_cVi G (pc := 6) (As := [.int a1, .int 0]) (st := []) cv_X9_26 (c_X4_get w a1 0 ) sh_1 (Nat.le_of_ble_eq_true rfl) rfl (Nat.le_of_ble_eq_true rfl) dX9_markSeat_6 (fun r1 w2 => ?_)
  refine e_istore G (pc := 9) (L' := [some (.ref 21), some (.int a1), some (.int a2), some (.int a3), some (.int a4), some (.int a5), some (.int r1), none, none]) dX9_markSeat_9 (Nat.le_of_ble_eq_true rfl) rfl ?_
  refine e_aload_n G (pc := 11) dX9_markSeat_11 rfl rfl ?_
  refine e_getF G (pc := 12) sh_21 rfl lk_X9_18 dX9_markSeat_12 ?_
  refine e_iload_n G (pc := 15) dX9_markSeat_15 rfl rfl ?_
  refine e_iconst G (pc := 16) (v := 1) dX9_markSeat_16 (by decide) ?_
  refine e_cVi G (pc := 17) (As := [.int a1, .int 1]) (st := []) cv_X9_26 (c_X4_get w2 a1 1 ) sh_1 (Nat.le_of_ble_eq_true rfl) rfl (Nat.le_of_ble_eq_true rfl) dX9_markSeat_17 (fun r3 w4 => ?_)
  refine e_istore G (pc := 20) (L' := [some (.ref 21), some (.int a1), some (.int a2), some (.int a3), some (.int a4), some (.int a5), some (.int r1), some (.int r3), none]) dX9_markSeat_20 (Nat.le_of_ble_eq_true rfl) rfl ?_
  refine e_iconst G (pc := 22) (v := 0) dX9_markSeat_22 (by decide) ?_
  refine e_istore G (pc := 23) (L' := [some (.ref 21), some (.int a1), some (.int a2), some (.int a3), some (.int a4), some (.int a5), some (.int r1), some (.int r3), some (.int 0)]) dX9_markSeat_23 (Nat.le_of_ble_eq_true rfl) rfl ?_
  exact t_X9_markSeat_R25 G  q_fuel w4 a1 a2 a3 a4 a5 r1 r3 0 
set_option maxRecDepth 100000 in
set_option maxHeartbeats 4000000 in
theorem c_X9_markSeat (w : qW) (a1 : Int32) (a2 : Int32) (a3 : Int32) (a4 : Int32) (a5 : Int32) : q_AC q_vv none (6) yX9_markSeat cX9_markSeat 9 [.ref 21, .int a1, .int a2, .int a3, .int a4, .int a5] w (f_X9_markSeat w a1 a2 a3 a4 a5) := q_met_v (k := 3) (by decide +kernel) rfl rfl rfl (fun _ _ G => t_X9_markSeat G w a1 a2 a3 a4 a5 )
set_option maxRecDepth 100000 in
set_option maxHeartbeats 4000000 in
theorem t_X9_lastPlaces_B85 {E : qE} {Γ : qC} (G : q_Ok E Γ RX9 cX9_lastPlaces 7 (7)) (k11 : qW → Int32 → Int32 → Int32 → Int32 → Int32 → Option (Unit × qW)) (hk11 : ∀ (w : qW) (l1 : Int32) (l2 : Int32) (l3 : Int32) (l4 : Int32) (l5 : Int32), q_Ev E Γ 7 (q_Fv E Γ cX9_lastPlaces) 11 [some (.ref 21), some (.int l1), some (.int l2), some (.int l3), some (.int l4), some (.int l5), none] [] w (k11 w l1 l2 l3 l4 l5)) (w : qW) (l1 : Int32) (l2 : Int32) (l3 : Int32) (l4 : Int32) (l5 : Int32) : q_Ev E Γ 7 (q_Fv E Γ cX9_lastPlaces) 85 [some (.ref 21), some (.int l1), some (.int l2), some (.int l3), some (.int l4), some (.int l5), none] [] w (f_X9_lastPlaces_B85 k11 w l1 l2 l3 l4 l5) := by
  unfold f_X9_lastPlaces_B85
  refine e_iinc G (pc := 85) (x := l5) (v := l5 + 1) (L' := fun v1 => [some (.ref 21), some (.int l1), some (.int l2), some (.int l3), some (.int l4), some (.int v1), none]) dX9_lastPlaces_85 (Nat.le_of_ble_eq_true rfl) rfl (by rfl) (fun _ => rfl) (fun v1 => ?_)
  refine e_goto G (pc := 88) (tgt := 11) dX9_lastPlaces_88 (by decide) ?_
  exact hk11 w l1 l2 l3 l4 v1 
set_option maxRecDepth 100000 in
set_option maxHeartbeats 4000000 in
theorem t_X9_lastPlaces_B11 {E : qE} {Γ : qC} (G : q_Ok E Γ RX9 cX9_lastPlaces 7 (7)) (k11 : qW → Int32 → Int32 → Int32 → Int32 → Int32 → Option (Unit × qW)) (hk11 : ∀ (w : qW) (l1 : Int32) (l2 : Int32) (l3 : Int32) (l4 : Int32) (l5 : Int32), q_Ev E Γ 7 (q_Fv E Γ cX9_lastPlaces) 11 [some (.ref 21), some (.int l1), some (.int l2), some (.int l3), some (.int l4), some (.int l5), none] [] w (k11 w l1 l2 l3 l4 l5)) (w : qW) (l1 : Int32) (l2 : Int32) (l3 : Int32) (l4 : Int32) (l5 : Int32) : q_Ev E Γ 7 (q_Fv E Γ cX9_lastPlaces) 11 [some (.ref 21), some (.int l1), some (.int l2), some (.int l3), some (.int l4), some (.int l5), none] [] w (f_X9_lastPlaces_B11 k11 w l1 l2 l3 l4 l5) := by
  unfold f_X9_lastPlaces_B11
  refine e_iload G (pc := 11) dX9_lastPlaces_11 rfl ?_
  refine e_sipush G (pc := 13) (v := 144) dX9_lastPlaces_13 (by decide) ?_
  refine e_icmp_ge G (pc := 16) (tgt := 91) dX9_lastPlaces_16 (by decide) ?_ ?_
  · exact e_vret dX9_lastPlaces_91
  · refine e_iload G (pc := 19) dX9_lastPlaces_19 rfl ?_
    refine e_aload_n G (pc := 21) dX9_lastPlaces_21 rfl rfl ?_
    refine e_getF G (pc := 22) sh_21 rfl lk_X9_18 dX9_lastPlaces_22 ?_
    refine e_iload_n G (pc := 25) dX9_lastPlaces_25 rfl rfl ?_
    refine e_iconst G (pc := 26) (v := 4) dX9_lastPlaces_26 (by decide) ?_
    refine e_cVi G (pc := 27) (As := [.int l2, .int 4]) (st := [.int l5]) cv_X9_26 (c_X4_get w l2 4 ) sh_1 (Nat.le_of_ble_eq_true rfl) rfl (Nat.le_of_ble_eq_true rfl) dX9_lastPlaces_27 (fun r1 w2 => ?_)
    refine e_cSi G (pc := 30) (ci := 0) (id := 0) (sl := []) (As := [.int l5, .int r1]) (st := []) cs_X9_55 (c_X9_apart w2 l5 r1 ) (Nat.le_of_ble_eq_true rfl) rfl (Nat.le_of_ble_eq_true rfl) dX9_lastPlaces_30 (fun r3 w4 => ?_)
    refine e_iload G (pc := 33) dX9_lastPlaces_33 rfl ?_
    refine e_icmp_gt G (pc := 35) (tgt := 85) dX9_lastPlaces_35 (by decide) ?_ ?_
    · exact t_X9_lastPlaces_B85 G k11 hk11 w4 l1 l2 l3 l4 l5 
    · refine e_aload_n G (pc := 38) dX9_lastPlaces_38 rfl rfl ?_
      refine e_getF G (pc := 39) sh_21 rfl lk_X9_22 dX9_lastPlaces_39 ?_
      refine e_iload G (pc := 42) dX9_lastPlaces_42 rfl ?_
      refine e_iload_n G (pc := 44) dX9_lastPlaces_44 rfl rfl ?_
      refine e_cVi G (pc := 45) (As := [.int l5, .int l3]) (st := []) cv_X9_58 (c_X5_byAll w4 l5 l3 ) sh_9 (Nat.le_of_ble_eq_true rfl) rfl (Nat.le_of_ble_eq_true rfl) dX9_lastPlaces_45 (fun r5 w6 => ?_)
      refine e_aload_n G (pc := 48) dX9_lastPlaces_48 rfl rfl ?_
      refine e_getF G (pc := 49) sh_21 rfl lk_X9_22 dX9_lastPlaces_49 ?_
      refine e_iload_n G (pc := 52) dX9_lastPlaces_52 rfl rfl ?_
      refine e_iload G (pc := 53) dX9_lastPlaces_53 rfl ?_
      refine e_iload_n G (pc := 55) dX9_lastPlaces_55 rfl rfl ?_
      refine e_cVi G (pc := 56) (As := [.int l1, .int l5, .int l3]) (st := [.int r5]) cv_X9_63 (c_X5_byMan w6 l1 l5 l3 ) sh_9 (Nat.le_of_ble_eq_true rfl) rfl (Nat.le_of_ble_eq_true rfl) dX9_lastPlaces_56 (fun r7 w8 => ?_)
      refine e_isub G (pc := 59) dX9_lastPlaces_59 ?_
      refine e_ti (fun v9 => ?_)
      refine e_istore G (pc := 60) (L' := [some (.ref 21), some (.int l1), some (.int l2), some (.int l3), some (.int l4), some (.int l5), some (.int v9)]) dX9_lastPlaces_60 (Nat.le_of_ble_eq_true rfl) rfl ?_
      refine e_aload_n G (pc := 62) dX9_lastPlaces_62 rfl rfl ?_
      refine e_iload_n G (pc := 63) dX9_lastPlaces_63 rfl rfl ?_
      refine e_iload G (pc := 64) dX9_lastPlaces_64 rfl ?_
      refine e_iload_n G (pc := 66) dX9_lastPlaces_66 rfl rfl ?_
      refine e_iload G (pc := 67) dX9_lastPlaces_67 rfl ?_
      refine e_aload_n G (pc := 69) dX9_lastPlaces_69 rfl rfl ?_
      refine e_getF G (pc := 70) sh_21 rfl lk_X9_18 dX9_lastPlaces_70 ?_
      refine e_iload_n G (pc := 73) dX9_lastPlaces_73 rfl rfl ?_
      refine e_bipush G (pc := 74) (v := 6) dX9_lastPlaces_74 (by decide) ?_
      refine e_cVi G (pc := 76) (As := [.int l2, .int 6]) (st := [.int l4, .int l3, .int l5, .int l1, .ref 21]) cv_X9_26 (c_X4_get w8 l2 6 ) sh_1 (Nat.le_of_ble_eq_true rfl) rfl (Nat.le_of_ble_eq_true rfl) dX9_lastPlaces_76 (fun r10 w11 => ?_)
      refine e_iload G (pc := 79) dX9_lastPlaces_79 rfl ?_
      refine e_isub G (pc := 81) dX9_lastPlaces_81 ?_
      refine e_cVv G (pc := 82) (As := [.int l1, .int l5, .int l3, .int l4, .int (r10 - v9)]) (st := []) cv_X9_67 (c_X9_markSeat w11 l1 l5 l3 l4 (r10 - v9) ) sh_21 (Nat.le_of_ble_eq_true rfl) rfl (Nat.le_of_ble_eq_true rfl) dX9_lastPlaces_82 (fun r12 w13 => ?_)
      refine e_wk (L' := [some (.ref 21), some (.int l1), some (.int l2), some (.int l3), some (.int l4), some (.int l5), none]) (And.intro rfl (And.intro rfl (And.intro rfl (And.intro rfl (And.intro rfl (And.intro rfl (trivial))))))) ?_
      exact t_X9_lastPlaces_B85 G k11 hk11 w13 l1 l2 l3 l4 l5 
set_option maxRecDepth 100000 in
set_option maxHeartbeats 4000000 in
theorem t_X9_lastPlaces_R11 {E : qE} {Γ : qC} (G : q_Ok E Γ RX9 cX9_lastPlaces 7 (7)) : ∀ (fuel : Nat) (w : qW) (l1 : Int32) (l2 : Int32) (l3 : Int32) (l4 : Int32) (l5 : Int32) , q_Ev E Γ 7 (q_Fv E Γ cX9_lastPlaces) 11 [some (.ref 21), some (.int l1), some (.int l2), some (.int l3), some (.int l4), some (.int l5), none] [] w (f_X9_lastPlaces_R11 fuel w l1 l2 l3 l4 l5) := by
  intro fuel
  induction fuel with
  | zero => intros; exact e_none
  | succ fuel ih =>
    intro w l1 l2 l3 l4 l5 
    exact t_X9_lastPlaces_B11 G _ ih w l1 l2 l3 l4 l5 
set_option maxRecDepth 100000 in
set_option maxHeartbeats 4000000 in
theorem t_X9_lastPlaces {E : qE} {Γ : qC} (G : q_Ok E Γ RX9 cX9_lastPlaces 7 (7)) (w : qW) (a1 : Int32) (a2 : Int32) (a3 : Int32) (a4 : Int32) : q_Ev E Γ 7 (q_Fv E Γ cX9_lastPlaces) 0 [some (.ref 21), some (.int a1), some (.int a2), some (.int a3), some (.int a4), none, none] [] w (f_X9_lastPlaces w a1 a2 a3 a4) := by
  unfold f_X9_lastPlaces
  refine e_aload_n G (pc := 0) dX9_lastPlaces_0 rfl rfl ?_
  refine e_getD G (pc := 1) (n := 1728) sh_21 rfl lk_X9_9 dX9_lastPlaces_1 (fun id1 hs2 => ?_)
  refine e_iconst G (pc := 4) (v := 0) dX9_lastPlaces_4 (by decide) ?_
  refine e_cSv G (pc := 5) (ci := 0) (id := 0) (sl := []) (As := [.ref id1, .int 0]) (st := []) cs_X9_49 (c_J7_fill_53178 1728 w id1 0 hs2) (Nat.le_of_ble_eq_true rfl) rfl (Nat.le_of_ble_eq_true rfl) dX9_lastPlaces_5 (fun r3 w4 => ?_)
  refine e_iconst G (pc := 8) (v := 0) dX9_lastPlaces_8 (by decide) ?_
  refine e_istore G (pc := 9) (L' := [some (.ref 21), some (.int a1), some (.int a2), some (.int a3), some (.int a4), some (.int 0), none]) dX9_lastPlaces_9 (Nat.le_of_ble_eq_true rfl) rfl ?_
  exact t_X9_lastPlaces_R11 G  q_fuel w4 a1 a2 a3 a4 0 
set_option maxRecDepth 100000 in
set_option maxHeartbeats 4000000 in
theorem c_X9_lastPlaces (w : qW) (a1 : Int32) (a2 : Int32) (a3 : Int32) (a4 : Int32) : q_AC q_vv none (7) yX9_lastPlaces cX9_lastPlaces 7 [.ref 21, .int a1, .int a2, .int a3, .int a4] w (f_X9_lastPlaces w a1 a2 a3 a4) := q_met_v (k := 2) (by decide +kernel) rfl rfl rfl (fun _ _ G => t_X9_lastPlaces G w a1 a2 a3 a4 )
set_option maxRecDepth 100000 in
set_option maxHeartbeats 4000000 in
theorem t_X9_manMoves_B110 {E : qE} {Γ : qC} (G : q_Ok E Γ RX9 cX9_manMoves 8 (3)) (k2 : qW → Int32 → Int32 → Int32 → Option (Unit × qW)) (hk2 : ∀ (w : qW) (l1 : Int32) (l2 : Int32) (l3 : Int32), q_Ev E Γ 8 (q_Fv E Γ cX9_manMoves) 2 [some (.ref 21), some (.int l1), some (.int l2), some (.int l3), none, none, none, none] [] w (k2 w l1 l2 l3)) (w : qW) (l1 : Int32) (l2 : Int32) (l3 : Int32) : q_Ev E Γ 8 (q_Fv E Γ cX9_manMoves) 110 [some (.ref 21), some (.int l1), some (.int l2), some (.int l3), none, none, none, none] [] w (f_X9_manMoves_B110 k2 w l1 l2 l3) := by
  unfold f_X9_manMoves_B110
  refine e_iinc G (pc := 110) (x := l3) (v := l3 + 1) (L' := fun v1 => [some (.ref 21), some (.int l1), some (.int l2), some (.int v1), none, none, none, none]) dX9_manMoves_110 (Nat.le_of_ble_eq_true rfl) rfl (by rfl) (fun _ => rfl) (fun v1 => ?_)
  refine e_goto G (pc := 113) (tgt := 2) dX9_manMoves_113 (by decide) ?_
  exact hk2 w l1 l2 v1 
set_option maxRecDepth 100000 in
set_option maxHeartbeats 4000000 in
theorem t_X9_manMoves_B84 {E : qE} {Γ : qC} (G : q_Ok E Γ RX9 cX9_manMoves 8 (3)) (k2 : qW → Int32 → Int32 → Int32 → Option (Unit × qW)) (k24 : qW → Int32 → Int32 → Int32 → Int32 → Option (Unit × qW)) (k37 : qW → Int32 → Int32 → Int32 → Int32 → Int32 → Int32 → Option (Unit × qW)) (hk2 : ∀ (w : qW) (l1 : Int32) (l2 : Int32) (l3 : Int32), q_Ev E Γ 8 (q_Fv E Γ cX9_manMoves) 2 [some (.ref 21), some (.int l1), some (.int l2), some (.int l3), none, none, none, none] [] w (k2 w l1 l2 l3)) (hk24 : ∀ (w : qW) (l1 : Int32) (l2 : Int32) (l3 : Int32) (l4 : Int32), q_Ev E Γ 8 (q_Fv E Γ cX9_manMoves) 24 [some (.ref 21), some (.int l1), some (.int l2), some (.int l3), some (.int l4), none, none, none] [] w (k24 w l1 l2 l3 l4)) (hk37 : ∀ (w : qW) (l1 : Int32) (l2 : Int32) (l3 : Int32) (l4 : Int32) (l5 : Int32) (l6 : Int32), q_Ev E Γ 8 (q_Fv E Γ cX9_manMoves) 37 [some (.ref 21), some (.int l1), some (.int l2), some (.int l3), some (.int l4), some (.int l5), some (.int l6), none] [] w (k37 w l1 l2 l3 l4 l5 l6)) (w : qW) (l1 : Int32) (l2 : Int32) (l3 : Int32) (l4 : Int32) (l5 : Int32) (l6 : Int32) : q_Ev E Γ 8 (q_Fv E Γ cX9_manMoves) 84 [some (.ref 21), some (.int l1), some (.int l2), some (.int l3), some (.int l4), some (.int l5), some (.int l6), none] [] w (f_X9_manMoves_B84 k2 k24 k37 w l1 l2 l3 l4 l5 l6) := by
  unfold f_X9_manMoves_B84
  refine e_iinc G (pc := 84) (x := l6) (v := l6 + 1) (L' := fun v1 => [some (.ref 21), some (.int l1), some (.int l2), some (.int l3), some (.int l4), some (.int l5), some (.int v1), none]) dX9_manMoves_84 (Nat.le_of_ble_eq_true rfl) rfl (by rfl) (fun _ => rfl) (fun v1 => ?_)
  refine e_goto G (pc := 87) (tgt := 37) dX9_manMoves_87 (by decide) ?_
  exact hk37 w l1 l2 l3 l4 l5 v1 
set_option maxRecDepth 100000 in
set_option maxHeartbeats 4000000 in
theorem t_X9_manMoves_B37 {E : qE} {Γ : qC} (G : q_Ok E Γ RX9 cX9_manMoves 8 (3)) (k2 : qW → Int32 → Int32 → Int32 → Option (Unit × qW)) (k24 : qW → Int32 → Int32 → Int32 → Int32 → Option (Unit × qW)) (k37 : qW → Int32 → Int32 → Int32 → Int32 → Int32 → Int32 → Option (Unit × qW)) (hk2 : ∀ (w : qW) (l1 : Int32) (l2 : Int32) (l3 : Int32), q_Ev E Γ 8 (q_Fv E Γ cX9_manMoves) 2 [some (.ref 21), some (.int l1), some (.int l2), some (.int l3), none, none, none, none] [] w (k2 w l1 l2 l3)) (hk24 : ∀ (w : qW) (l1 : Int32) (l2 : Int32) (l3 : Int32) (l4 : Int32), q_Ev E Γ 8 (q_Fv E Γ cX9_manMoves) 24 [some (.ref 21), some (.int l1), some (.int l2), some (.int l3), some (.int l4), none, none, none] [] w (k24 w l1 l2 l3 l4)) (hk37 : ∀ (w : qW) (l1 : Int32) (l2 : Int32) (l3 : Int32) (l4 : Int32) (l5 : Int32) (l6 : Int32), q_Ev E Γ 8 (q_Fv E Γ cX9_manMoves) 37 [some (.ref 21), some (.int l1), some (.int l2), some (.int l3), some (.int l4), some (.int l5), some (.int l6), none] [] w (k37 w l1 l2 l3 l4 l5 l6)) (w : qW) (l1 : Int32) (l2 : Int32) (l3 : Int32) (l4 : Int32) (l5 : Int32) (l6 : Int32) : q_Ev E Γ 8 (q_Fv E Γ cX9_manMoves) 37 [some (.ref 21), some (.int l1), some (.int l2), some (.int l3), some (.int l4), some (.int l5), some (.int l6), none] [] w (f_X9_manMoves_B37 k2 k24 k37 w l1 l2 l3 l4 l5 l6) := by
  unfold f_X9_manMoves_B37
  refine e_iload G (pc := 37) dX9_manMoves_37 rfl ?_
  refine e_iconst G (pc := 39) (v := 4) dX9_manMoves_39 (by decide) ?_
  refine e_icmp_gt G (pc := 40) (tgt := 90) dX9_manMoves_40 (by decide) ?_ ?_
  · refine e_aload_n G (pc := 90) dX9_manMoves_90 rfl rfl ?_
    refine e_getD G (pc := 91) (n := 1728) sh_21 rfl lk_X9_15 dX9_manMoves_91 (fun id1 hs2 => ?_)
    refine e_bipush G (pc := 94) (v := 12) dX9_manMoves_94 (by decide) ?_
    refine e_iload_n G (pc := 96) dX9_manMoves_96 rfl rfl ?_
    refine e_imul G (pc := 97) dX9_manMoves_97 ?_
    refine e_iload G (pc := 98) dX9_manMoves_98 rfl ?_
    refine e_iadd G (pc := 100) dX9_manMoves_100 ?_
    refine e_iload G (pc := 101) dX9_manMoves_101 rfl ?_
    refine e_iast G (pc := 103) hs2 dX9_manMoves_103 (fun w3 => ?_)
    refine e_iinc G (pc := 104) (x := l4) (v := l4 + 1) (L' := fun v4 => [some (.ref 21), some (.int l1), some (.int l2), some (.int l3), some (.int v4), some (.int l5), some (.int l6), none]) dX9_manMoves_104 (Nat.le_of_ble_eq_true rfl) rfl (by rfl) (fun _ => rfl) (fun v4 => ?_)
    refine e_goto G (pc := 107) (tgt := 24) dX9_manMoves_107 (by decide) ?_
    refine e_wk (L' := [some (.ref 21), some (.int l1), some (.int l2), some (.int l3), some (.int v4), none, none, none]) (And.intro rfl (And.intro rfl (And.intro rfl (And.intro rfl (And.intro rfl (trivial)))))) ?_
    exact hk24 w3 l1 l2 l3 v4 
  · refine e_iload_n G (pc := 43) dX9_manMoves_43 rfl rfl ?_
    refine e_iload G (pc := 44) dX9_manMoves_44 rfl ?_
    refine e_cNi G (pc := 46) (ci := 0) (id := 0) (sl := []) (As := [.int l3, .int l6]) (st := []) cn_X9_46 (c_X10_cellAfter w l3 l6 ) (Nat.le_of_ble_eq_true rfl) rfl (Nat.le_of_ble_eq_true rfl) dX9_manMoves_46 (fun r5 w6 => ?_)
    refine e_istore G (pc := 49) (L' := [some (.ref 21), some (.int l1), some (.int l2), some (.int l3), some (.int l4), some (.int l5), some (.int l6), some (.int r5)]) dX9_manMoves_49 (Nat.le_of_ble_eq_true rfl) rfl ?_
    refine e_iload G (pc := 51) dX9_manMoves_51 rfl ?_
    refine e_if_lt G (pc := 53) (tgt := 84) dX9_manMoves_53 (by decide) ?_ ?_
    · refine e_wk (L' := [some (.ref 21), some (.int l1), some (.int l2), some (.int l3), some (.int l4), some (.int l5), some (.int l6), none]) (And.intro rfl (And.intro rfl (And.intro rfl (And.intro rfl (And.intro rfl (And.intro rfl (And.intro rfl (trivial)))))))) ?_
      exact t_X9_manMoves_B84 G k2 k24 k37 hk2 hk24 hk37 w6 l1 l2 l3 l4 l5 l6 
    · refine e_iload G (pc := 56) dX9_manMoves_56 rfl ?_
      refine e_iload_n G (pc := 58) dX9_manMoves_58 rfl rfl ?_
      refine e_cSi G (pc := 59) (ci := 0) (id := 0) (sl := []) (As := [.int r5, .int l1]) (st := []) cs_X9_55 (c_X9_apart w6 r5 l1 ) (Nat.le_of_ble_eq_true rfl) rfl (Nat.le_of_ble_eq_true rfl) dX9_manMoves_59 (fun r7 w8 => ?_)
      refine e_iload_n G (pc := 62) dX9_manMoves_62 rfl rfl ?_
      refine e_icmp_gt G (pc := 63) (tgt := 84) dX9_manMoves_63 (by decide) ?_ ?_
      · refine e_wk (L' := [some (.ref 21), some (.int l1), some (.int l2), some (.int l3), some (.int l4), some (.int l5), some (.int l6), none]) (And.intro rfl (And.intro rfl (And.intro rfl (And.intro rfl (And.intro rfl (And.intro rfl (And.intro rfl (trivial)))))))) ?_
        exact t_X9_manMoves_B84 G k2 k24 k37 hk2 hk24 hk37 w8 l1 l2 l3 l4 l5 l6 
      · refine e_iload G (pc := 66) dX9_manMoves_66 rfl ?_
        refine e_aload_n G (pc := 68) dX9_manMoves_68 rfl rfl ?_
        refine e_getD G (pc := 69) (n := 1728) sh_21 rfl lk_X9_9 dX9_manMoves_69 (fun id9 hs10 => ?_)
        refine e_bipush G (pc := 72) (v := 12) dX9_manMoves_72 (by decide) ?_
        refine e_iload G (pc := 74) dX9_manMoves_74 rfl ?_
        refine e_imul G (pc := 76) dX9_manMoves_76 ?_
        refine e_iload G (pc := 77) dX9_manMoves_77 rfl ?_
        refine e_iadd G (pc := 79) dX9_manMoves_79 ?_
        refine e_iald G (pc := 80) hs10 dX9_manMoves_80 (fun v11 => ?_)
        refine e_ior G (pc := 81) dX9_manMoves_81 ?_
        refine e_ti (fun v12 => ?_)
        refine e_istore G (pc := 82) (L' := [some (.ref 21), some (.int l1), some (.int l2), some (.int l3), some (.int l4), some (.int v12), some (.int l6), some (.int r5)]) dX9_manMoves_82 (Nat.le_of_ble_eq_true rfl) rfl ?_
        refine e_wk (L' := [some (.ref 21), some (.int l1), some (.int l2), some (.int l3), some (.int l4), some (.int v12), some (.int l6), none]) (And.intro rfl (And.intro rfl (And.intro rfl (And.intro rfl (And.intro rfl (And.intro rfl (And.intro rfl (trivial)))))))) ?_
        exact t_X9_manMoves_B84 G k2 k24 k37 hk2 hk24 hk37 w8 l1 l2 l3 l4 v12 l6 
set_option maxRecDepth 100000 in
set_option maxHeartbeats 4000000 in
theorem t_X9_manMoves_R37 {E : qE} {Γ : qC} (G : q_Ok E Γ RX9 cX9_manMoves 8 (3)) (k2 : qW → Int32 → Int32 → Int32 → Option (Unit × qW)) (k24 : qW → Int32 → Int32 → Int32 → Int32 → Option (Unit × qW)) (hk2 : ∀ (w : qW) (l1 : Int32) (l2 : Int32) (l3 : Int32), q_Ev E Γ 8 (q_Fv E Γ cX9_manMoves) 2 [some (.ref 21), some (.int l1), some (.int l2), some (.int l3), none, none, none, none] [] w (k2 w l1 l2 l3)) (hk24 : ∀ (w : qW) (l1 : Int32) (l2 : Int32) (l3 : Int32) (l4 : Int32), q_Ev E Γ 8 (q_Fv E Γ cX9_manMoves) 24 [some (.ref 21), some (.int l1), some (.int l2), some (.int l3), some (.int l4), none, none, none] [] w (k24 w l1 l2 l3 l4)) : ∀ (fuel : Nat) (w : qW) (l1 : Int32) (l2 : Int32) (l3 : Int32) (l4 : Int32) (l5 : Int32) (l6 : Int32) , q_Ev E Γ 8 (q_Fv E Γ cX9_manMoves) 37 [some (.ref 21), some (.int l1), some (.int l2), some (.int l3), some (.int l4), some (.int l5), some (.int l6), none] [] w (f_X9_manMoves_R37 k2 k24 fuel w l1 l2 l3 l4 l5 l6) := by
  intro fuel
  induction fuel with
  | zero => intros; exact e_none
  | succ fuel ih =>
    intro w l1 l2 l3 l4 l5 l6 
    exact t_X9_manMoves_B37 G k2 k24 _ hk2 hk24 ih w l1 l2 l3 l4 l5 l6 
set_option maxRecDepth 100000 in
set_option maxHeartbeats 4000000 in
theorem t_X9_manMoves_B24 {E : qE} {Γ : qC} (G : q_Ok E Γ RX9 cX9_manMoves 8 (3)) (k2 : qW → Int32 → Int32 → Int32 → Option (Unit × qW)) (k24 : qW → Int32 → Int32 → Int32 → Int32 → Option (Unit × qW)) (hk2 : ∀ (w : qW) (l1 : Int32) (l2 : Int32) (l3 : Int32), q_Ev E Γ 8 (q_Fv E Γ cX9_manMoves) 2 [some (.ref 21), some (.int l1), some (.int l2), some (.int l3), none, none, none, none] [] w (k2 w l1 l2 l3)) (hk24 : ∀ (w : qW) (l1 : Int32) (l2 : Int32) (l3 : Int32) (l4 : Int32), q_Ev E Γ 8 (q_Fv E Γ cX9_manMoves) 24 [some (.ref 21), some (.int l1), some (.int l2), some (.int l3), some (.int l4), none, none, none] [] w (k24 w l1 l2 l3 l4)) (w : qW) (l1 : Int32) (l2 : Int32) (l3 : Int32) (l4 : Int32) : q_Ev E Γ 8 (q_Fv E Γ cX9_manMoves) 24 [some (.ref 21), some (.int l1), some (.int l2), some (.int l3), some (.int l4), none, none, none] [] w (f_X9_manMoves_B24 k2 k24 w l1 l2 l3 l4) := by
  unfold f_X9_manMoves_B24
  refine e_iload G (pc := 24) dX9_manMoves_24 rfl ?_
  refine e_bipush G (pc := 26) (v := 12) dX9_manMoves_26 (by decide) ?_
  refine e_icmp_ge G (pc := 28) (tgt := 110) dX9_manMoves_28 (by decide) ?_ ?_
  · refine e_wk (L' := [some (.ref 21), some (.int l1), some (.int l2), some (.int l3), none, none, none, none]) (And.intro rfl (And.intro rfl (And.intro rfl (And.intro rfl (trivial))))) ?_
    exact t_X9_manMoves_B110 G k2 hk2 w l1 l2 l3 
  · refine e_iconst G (pc := 31) (v := 0) dX9_manMoves_31 (by decide) ?_
    refine e_istore G (pc := 32) (L' := [some (.ref 21), some (.int l1), some (.int l2), some (.int l3), some (.int l4), some (.int 0), none, none]) dX9_manMoves_32 (Nat.le_of_ble_eq_true rfl) rfl ?_
    refine e_iconst G (pc := 34) (v := 0) dX9_manMoves_34 (by decide) ?_
    refine e_istore G (pc := 35) (L' := [some (.ref 21), some (.int l1), some (.int l2), some (.int l3), some (.int l4), some (.int 0), some (.int 0), none]) dX9_manMoves_35 (Nat.le_of_ble_eq_true rfl) rfl ?_
    exact t_X9_manMoves_R37 G k2 k24 hk2 hk24  q_fuel w l1 l2 l3 l4 0 0 
set_option maxRecDepth 100000 in
set_option maxHeartbeats 4000000 in
theorem t_X9_manMoves_R24 {E : qE} {Γ : qC} (G : q_Ok E Γ RX9 cX9_manMoves 8 (3)) (k2 : qW → Int32 → Int32 → Int32 → Option (Unit × qW)) (hk2 : ∀ (w : qW) (l1 : Int32) (l2 : Int32) (l3 : Int32), q_Ev E Γ 8 (q_Fv E Γ cX9_manMoves) 2 [some (.ref 21), some (.int l1), some (.int l2), some (.int l3), none, none, none, none] [] w (k2 w l1 l2 l3)) : ∀ (fuel : Nat) (w : qW) (l1 : Int32) (l2 : Int32) (l3 : Int32) (l4 : Int32) , q_Ev E Γ 8 (q_Fv E Γ cX9_manMoves) 24 [some (.ref 21), some (.int l1), some (.int l2), some (.int l3), some (.int l4), none, none, none] [] w (f_X9_manMoves_R24 k2 fuel w l1 l2 l3 l4) := by
  intro fuel
  induction fuel with
  | zero => intros; exact e_none
  | succ fuel ih =>
    intro w l1 l2 l3 l4 
    exact t_X9_manMoves_B24 G k2 _ hk2 ih w l1 l2 l3 l4 
set_option maxRecDepth 100000 in
set_option maxHeartbeats 4000000 in
theorem t_X9_manMoves_B2 {E : qE} {Γ : qC} (G : q_Ok E Γ RX9 cX9_manMoves 8 (3)) (k2 : qW → Int32 → Int32 → Int32 → Option (Unit × qW)) (hk2 : ∀ (w : qW) (l1 : Int32) (l2 : Int32) (l3 : Int32), q_Ev E Γ 8 (q_Fv E Γ cX9_manMoves) 2 [some (.ref 21), some (.int l1), some (.int l2), some (.int l3), none, none, none, none] [] w (k2 w l1 l2 l3)) (w : qW) (l1 : Int32) (l2 : Int32) (l3 : Int32) : q_Ev E Γ 8 (q_Fv E Γ cX9_manMoves) 2 [some (.ref 21), some (.int l1), some (.int l2), some (.int l3), none, none, none, none] [] w (f_X9_manMoves_B2 k2 w l1 l2 l3) := by
  unfold f_X9_manMoves_B2
  refine e_iload_n G (pc := 2) dX9_manMoves_2 rfl rfl ?_
  refine e_sipush G (pc := 3) (v := 144) dX9_manMoves_3 (by decide) ?_
  refine e_icmp_ge G (pc := 6) (tgt := 116) dX9_manMoves_6 (by decide) ?_ ?_
  · exact e_vret dX9_manMoves_116
  · refine e_iload_n G (pc := 9) dX9_manMoves_9 rfl rfl ?_
    refine e_iload_n G (pc := 10) dX9_manMoves_10 rfl rfl ?_
    refine e_cSi G (pc := 11) (ci := 0) (id := 0) (sl := []) (As := [.int l3, .int l1]) (st := []) cs_X9_55 (c_X9_apart w l3 l1 ) (Nat.le_of_ble_eq_true rfl) rfl (Nat.le_of_ble_eq_true rfl) dX9_manMoves_11 (fun r1 w2 => ?_)
    refine e_iload_n G (pc := 14) dX9_manMoves_14 rfl rfl ?_
    refine e_icmp_le G (pc := 15) (tgt := 21) dX9_manMoves_15 (by decide) ?_ ?_
    · refine e_iconst G (pc := 21) (v := 0) dX9_manMoves_21 (by decide) ?_
      refine e_istore G (pc := 22) (L' := [some (.ref 21), some (.int l1), some (.int l2), some (.int l3), some (.int 0), none, none, none]) dX9_manMoves_22 (Nat.le_of_ble_eq_true rfl) rfl ?_
      exact t_X9_manMoves_R24 G k2 hk2  q_fuel w2 l1 l2 l3 0 
    · refine e_goto G (pc := 18) (tgt := 110) dX9_manMoves_18 (by decide) ?_
      exact t_X9_manMoves_B110 G k2 hk2 w2 l1 l2 l3 
set_option maxRecDepth 100000 in
set_option maxHeartbeats 4000000 in
theorem t_X9_manMoves_R2 {E : qE} {Γ : qC} (G : q_Ok E Γ RX9 cX9_manMoves 8 (3)) : ∀ (fuel : Nat) (w : qW) (l1 : Int32) (l2 : Int32) (l3 : Int32) , q_Ev E Γ 8 (q_Fv E Γ cX9_manMoves) 2 [some (.ref 21), some (.int l1), some (.int l2), some (.int l3), none, none, none, none] [] w (f_X9_manMoves_R2 fuel w l1 l2 l3) := by
  intro fuel
  induction fuel with
  | zero => intros; exact e_none
  | succ fuel ih =>
    intro w l1 l2 l3 
    exact t_X9_manMoves_B2 G _ ih w l1 l2 l3 
set_option maxRecDepth 100000 in
set_option maxHeartbeats 4000000 in
theorem t_X9_manMoves {E : qE} {Γ : qC} (G : q_Ok E Γ RX9 cX9_manMoves 8 (3)) (w : qW) (a1 : Int32) (a2 : Int32) : q_Ev E Γ 8 (q_Fv E Γ cX9_manMoves) 0 [some (.ref 21), some (.int a1), some (.int a2), none, none, none, none, none] [] w (f_X9_manMoves w a1 a2) := by
  unfold f_X9_manMoves
  refine e_iconst G (pc := 0) (v := 0) dX9_manMoves_0 (by decide) ?_
  refine e_istore_n G (pc := 1) (L' := [some (.ref 21), some (.int a1), some (.int a2), some (.int 0), none, none, none, none]) dX9_manMoves_1 rfl (Nat.le_of_ble_eq_true rfl) rfl ?_
  exact t_X9_manMoves_R2 G  q_fuel w a1 a2 0 
set_option maxRecDepth 100000 in
set_option maxHeartbeats 4000000 in
theorem c_X9_manMoves (w : qW) (a1 : Int32) (a2 : Int32) : q_AC q_vv none (3) yX9_manMoves cX9_manMoves 8 [.ref 21, .int a1, .int a2] w (f_X9_manMoves w a1 a2) := q_met_v (k := 5) (by decide +kernel) rfl rfl rfl (fun _ _ G => t_X9_manMoves G w a1 a2 )
set_option maxRecDepth 100000 in
set_option maxHeartbeats 4000000 in
theorem t_X9_sitterMoves_B151 {E : qE} {Γ : qC} (G : q_Ok E Γ RX9 cX9_sitterMoves 10 (3)) (k2 : qW → Int32 → Int32 → Int32 → Option (Unit × qW)) (hk2 : ∀ (w : qW) (l1 : Int32) (l2 : Int32) (l3 : Int32), q_Ev E Γ 10 (q_Fv E Γ cX9_sitterMoves) 2 [some (.ref 21), some (.int l1), some (.int l2), some (.int l3), none, none, none, none, none, none] [] w (k2 w l1 l2 l3)) (w : qW) (l1 : Int32) (l2 : Int32) (l3 : Int32) : q_Ev E Γ 10 (q_Fv E Γ cX9_sitterMoves) 151 [some (.ref 21), some (.int l1), some (.int l2), some (.int l3), none, none, none, none, none, none] [] w (f_X9_sitterMoves_B151 k2 w l1 l2 l3) := by
  unfold f_X9_sitterMoves_B151
  refine e_iinc G (pc := 151) (x := l3) (v := l3 + 1) (L' := fun v1 => [some (.ref 21), some (.int l1), some (.int l2), some (.int v1), none, none, none, none, none, none]) dX9_sitterMoves_151 (Nat.le_of_ble_eq_true rfl) rfl (by rfl) (fun _ => rfl) (fun v1 => ?_)
  refine e_goto G (pc := 154) (tgt := 2) dX9_sitterMoves_154 (by decide) ?_
  exact hk2 w l1 l2 v1 
set_option maxRecDepth 100000 in
set_option maxHeartbeats 4000000 in
theorem t_X9_sitterMoves_B117 {E : qE} {Γ : qC} (G : q_Ok E Γ RX9 cX9_sitterMoves 10 (3)) (k2 : qW → Int32 → Int32 → Int32 → Option (Unit × qW)) (k24 : qW → Int32 → Int32 → Int32 → Int32 → Option (Unit × qW)) (hk2 : ∀ (w : qW) (l1 : Int32) (l2 : Int32) (l3 : Int32), q_Ev E Γ 10 (q_Fv E Γ cX9_sitterMoves) 2 [some (.ref 21), some (.int l1), some (.int l2), some (.int l3), none, none, none, none, none, none] [] w (k2 w l1 l2 l3)) (hk24 : ∀ (w : qW) (l1 : Int32) (l2 : Int32) (l3 : Int32) (l4 : Int32), q_Ev E Γ 10 (q_Fv E Γ cX9_sitterMoves) 24 [some (.ref 21), some (.int l1), some (.int l2), some (.int l3), some (.int l4), none, none, none, none, none] [] w (k24 w l1 l2 l3 l4)) (w : qW) (l1 : Int32) (l2 : Int32) (l3 : Int32) (l4 : Int32) (l5 : Int32) (l6 : Int32) (l7 : Int32) (l8 : Int32) (s0 : Int32) : q_Ev E Γ 10 (q_Fv E Γ cX9_sitterMoves) 117 [some (.ref 21), some (.int l1), some (.int l2), some (.int l3), some (.int l4), some (.int l5), some (.int l6), some (.int l7), some (.int l8), none] [.int s0] w (f_X9_sitterMoves_B117 k2 k24 w l1 l2 l3 l4 l5 l6 l7 l8 s0) := by
  unfold f_X9_sitterMoves_B117
  refine e_istore G (pc := 117) (L' := [some (.ref 21), some (.int l1), some (.int l2), some (.int l3), some (.int l4), some (.int l5), some (.int l6), some (.int l7), some (.int l8), some (.int s0)]) dX9_sitterMoves_117 (Nat.le_of_ble_eq_true rfl) rfl ?_
  refine e_aload_n G (pc := 119) dX9_sitterMoves_119 rfl rfl ?_
  refine e_getD G (pc := 120) (n := 1728) sh_21 rfl lk_X9_15 dX9_sitterMoves_120 (fun id1 hs2 => ?_)
  refine e_bipush G (pc := 123) (v := 12) dX9_sitterMoves_123 (by decide) ?_
  refine e_iload_n G (pc := 125) dX9_sitterMoves_125 rfl rfl ?_
  refine e_imul G (pc := 126) dX9_sitterMoves_126 ?_
  refine e_iload G (pc := 127) dX9_sitterMoves_127 rfl ?_
  refine e_iadd G (pc := 129) dX9_sitterMoves_129 ?_
  refine e_iload G (pc := 130) dX9_sitterMoves_130 rfl ?_
  refine e_iload G (pc := 132) dX9_sitterMoves_132 rfl ?_
  refine e_iand G (pc := 134) dX9_sitterMoves_134 ?_
  refine e_iload G (pc := 135) dX9_sitterMoves_135 rfl ?_
  refine e_iand G (pc := 137) dX9_sitterMoves_137 ?_
  refine e_iload G (pc := 138) dX9_sitterMoves_138 rfl ?_
  refine e_iand G (pc := 140) dX9_sitterMoves_140 ?_
  refine e_iload G (pc := 141) dX9_sitterMoves_141 rfl ?_
  refine e_iand G (pc := 143) dX9_sitterMoves_143 ?_
  refine e_iast G (pc := 144) hs2 dX9_sitterMoves_144 (fun w3 => ?_)
  refine e_iinc G (pc := 145) (x := l4) (v := l4 + 1) (L' := fun v4 => [some (.ref 21), some (.int l1), some (.int l2), some (.int l3), some (.int v4), some (.int l5), some (.int l6), some (.int l7), some (.int l8), some (.int s0)]) dX9_sitterMoves_145 (Nat.le_of_ble_eq_true rfl) rfl (by rfl) (fun _ => rfl) (fun v4 => ?_)
  refine e_goto G (pc := 148) (tgt := 24) dX9_sitterMoves_148 (by decide) ?_
  refine e_wk (L' := [some (.ref 21), some (.int l1), some (.int l2), some (.int l3), some (.int v4), none, none, none, none, none]) (And.intro rfl (And.intro rfl (And.intro rfl (And.intro rfl (And.intro rfl (trivial)))))) ?_
  exact hk24 w3 l1 l2 l3 v4 
set_option maxRecDepth 100000 in
set_option maxHeartbeats 4000000 in
theorem t_X9_sitterMoves_B88 {E : qE} {Γ : qC} (G : q_Ok E Γ RX9 cX9_sitterMoves 10 (3)) (k2 : qW → Int32 → Int32 → Int32 → Option (Unit × qW)) (k24 : qW → Int32 → Int32 → Int32 → Int32 → Option (Unit × qW)) (hk2 : ∀ (w : qW) (l1 : Int32) (l2 : Int32) (l3 : Int32), q_Ev E Γ 10 (q_Fv E Γ cX9_sitterMoves) 2 [some (.ref 21), some (.int l1), some (.int l2), some (.int l3), none, none, none, none, none, none] [] w (k2 w l1 l2 l3)) (hk24 : ∀ (w : qW) (l1 : Int32) (l2 : Int32) (l3 : Int32) (l4 : Int32), q_Ev E Γ 10 (q_Fv E Γ cX9_sitterMoves) 24 [some (.ref 21), some (.int l1), some (.int l2), some (.int l3), some (.int l4), none, none, none, none, none] [] w (k24 w l1 l2 l3 l4)) (w : qW) (l1 : Int32) (l2 : Int32) (l3 : Int32) (l4 : Int32) (l5 : Int32) (l6 : Int32) (l7 : Int32) (s0 : Int32) : q_Ev E Γ 10 (q_Fv E Γ cX9_sitterMoves) 88 [some (.ref 21), some (.int l1), some (.int l2), some (.int l3), some (.int l4), some (.int l5), some (.int l6), some (.int l7), none, none] [.int s0] w (f_X9_sitterMoves_B88 k2 k24 w l1 l2 l3 l4 l5 l6 l7 s0) := by
  unfold f_X9_sitterMoves_B88
  refine e_istore G (pc := 88) (L' := [some (.ref 21), some (.int l1), some (.int l2), some (.int l3), some (.int l4), some (.int l5), some (.int l6), some (.int l7), some (.int s0), none]) dX9_sitterMoves_88 (Nat.le_of_ble_eq_true rfl) rfl ?_
  refine e_iload G (pc := 90) dX9_sitterMoves_90 rfl ?_
  refine e_bipush G (pc := 92) (v := 11) dX9_sitterMoves_92 (by decide) ?_
  refine e_icmp_ge G (pc := 94) (tgt := 114) dX9_sitterMoves_94 (by decide) ?_ ?_
  · refine e_sipush G (pc := 114) (v := 4095) dX9_sitterMoves_114 (by decide) ?_
    exact t_X9_sitterMoves_B117 G k2 k24 hk2 hk24 w l1 l2 l3 l4 l5 l6 l7 s0 4095 
  · refine e_aload_n G (pc := 97) dX9_sitterMoves_97 rfl rfl ?_
    refine e_getD G (pc := 98) (n := 1728) sh_21 rfl lk_X9_9 dX9_sitterMoves_98 (fun id1 hs2 => ?_)
    refine e_bipush G (pc := 101) (v := 12) dX9_sitterMoves_101 (by decide) ?_
    refine e_iload_n G (pc := 103) dX9_sitterMoves_103 rfl rfl ?_
    refine e_imul G (pc := 104) dX9_sitterMoves_104 ?_
    refine e_iload G (pc := 105) dX9_sitterMoves_105 rfl ?_
    refine e_iadd G (pc := 107) dX9_sitterMoves_107 ?_
    refine e_iconst G (pc := 108) (v := 1) dX9_sitterMoves_108 (by decide) ?_
    refine e_iadd G (pc := 109) dX9_sitterMoves_109 ?_
    refine e_iald G (pc := 110) hs2 dX9_sitterMoves_110 (fun v3 => ?_)
    refine e_goto G (pc := 111) (tgt := 117) dX9_sitterMoves_111 (by decide) ?_
    exact t_X9_sitterMoves_B117 G k2 k24 hk2 hk24 w l1 l2 l3 l4 l5 l6 l7 s0 v3 
set_option maxRecDepth 100000 in
set_option maxHeartbeats 4000000 in
theorem t_X9_sitterMoves_B24 {E : qE} {Γ : qC} (G : q_Ok E Γ RX9 cX9_sitterMoves 10 (3)) (k2 : qW → Int32 → Int32 → Int32 → Option (Unit × qW)) (k24 : qW → Int32 → Int32 → Int32 → Int32 → Option (Unit × qW)) (hk2 : ∀ (w : qW) (l1 : Int32) (l2 : Int32) (l3 : Int32), q_Ev E Γ 10 (q_Fv E Γ cX9_sitterMoves) 2 [some (.ref 21), some (.int l1), some (.int l2), some (.int l3), none, none, none, none, none, none] [] w (k2 w l1 l2 l3)) (hk24 : ∀ (w : qW) (l1 : Int32) (l2 : Int32) (l3 : Int32) (l4 : Int32), q_Ev E Γ 10 (q_Fv E Γ cX9_sitterMoves) 24 [some (.ref 21), some (.int l1), some (.int l2), some (.int l3), some (.int l4), none, none, none, none, none] [] w (k24 w l1 l2 l3 l4)) (w : qW) (l1 : Int32) (l2 : Int32) (l3 : Int32) (l4 : Int32) : q_Ev E Γ 10 (q_Fv E Γ cX9_sitterMoves) 24 [some (.ref 21), some (.int l1), some (.int l2), some (.int l3), some (.int l4), none, none, none, none, none] [] w (f_X9_sitterMoves_B24 k2 k24 w l1 l2 l3 l4) := by
  unfold f_X9_sitterMoves_B24
  refine e_iload G (pc := 24) dX9_sitterMoves_24 rfl ?_
  refine e_bipush G (pc := 26) (v := 12) dX9_sitterMoves_26 (by decide) ?_
  refine e_icmp_ge G (pc := 28) (tgt := 151) dX9_sitterMoves_28 (by decide) ?_ ?_
  · refine e_wk (L' := [some (.ref 21), some (.int l1), some (.int l2), some (.int l3), none, none, none, none, none, none]) (And.intro rfl (And.intro rfl (And.intro rfl (And.intro rfl (trivial))))) ?_
    exact t_X9_sitterMoves_B151 G k2 hk2 w l1 l2 l3 
  · refine e_aload_n G (pc := 31) dX9_sitterMoves_31 rfl rfl ?_
    refine e_getD G (pc := 32) (n := 1728) sh_21 rfl lk_X9_9 dX9_sitterMoves_32 (fun id1 hs2 => ?_)
    refine e_bipush G (pc := 35) (v := 12) dX9_sitterMoves_35 (by decide) ?_
    refine e_iload_n G (pc := 37) dX9_sitterMoves_37 rfl rfl ?_
    refine e_imul G (pc := 38) dX9_sitterMoves_38 ?_
    refine e_iload G (pc := 39) dX9_sitterMoves_39 rfl ?_
    refine e_iadd G (pc := 41) dX9_sitterMoves_41 ?_
    refine e_iald G (pc := 42) hs2 dX9_sitterMoves_42 (fun v3 => ?_)
    refine e_istore G (pc := 43) (L' := [some (.ref 21), some (.int l1), some (.int l2), some (.int l3), some (.int l4), some (.int v3), none, none, none, none]) dX9_sitterMoves_43 (Nat.le_of_ble_eq_true rfl) rfl ?_
    refine e_iload G (pc := 45) dX9_sitterMoves_45 rfl ?_
    refine e_iconst G (pc := 47) (v := 1) dX9_sitterMoves_47 (by decide) ?_
    refine e_ishl G (pc := 48) dX9_sitterMoves_48 ?_
    refine e_iconst G (pc := 49) (v := 1) dX9_sitterMoves_49 (by decide) ?_
    refine e_ior G (pc := 50) dX9_sitterMoves_50 ?_
    refine e_ti (fun v4 => ?_)
    refine e_istore G (pc := 51) (L' := [some (.ref 21), some (.int l1), some (.int l2), some (.int l3), some (.int l4), some (.int v3), some (.int v4), none, none, none]) dX9_sitterMoves_51 (Nat.le_of_ble_eq_true rfl) rfl ?_
    refine e_iload G (pc := 53) dX9_sitterMoves_53 rfl ?_
    refine e_iconst G (pc := 55) (v := 1) dX9_sitterMoves_55 (by decide) ?_
    refine e_ishr G (pc := 56) dX9_sitterMoves_56 ?_
    refine e_sipush G (pc := 57) (v := 2048) dX9_sitterMoves_57 (by decide) ?_
    refine e_ior G (pc := 60) dX9_sitterMoves_60 ?_
    refine e_ti (fun v5 => ?_)
    refine e_istore G (pc := 61) (L' := [some (.ref 21), some (.int l1), some (.int l2), some (.int l3), some (.int l4), some (.int v3), some (.int v4), some (.int v5), none, none]) dX9_sitterMoves_61 (Nat.le_of_ble_eq_true rfl) rfl ?_
    refine e_iload G (pc := 63) dX9_sitterMoves_63 rfl ?_
    refine e_if_le G (pc := 65) (tgt := 85) dX9_sitterMoves_65 (by decide) ?_ ?_
    · refine e_sipush G (pc := 85) (v := 4095) dX9_sitterMoves_85 (by decide) ?_
      exact t_X9_sitterMoves_B88 G k2 k24 hk2 hk24 w l1 l2 l3 l4 v3 v4 v5 4095 
    · refine e_aload_n G (pc := 68) dX9_sitterMoves_68 rfl rfl ?_
      refine e_getD G (pc := 69) (n := 1728) sh_21 rfl lk_X9_9 dX9_sitterMoves_69 (fun id6 hs7 => ?_)
      refine e_bipush G (pc := 72) (v := 12) dX9_sitterMoves_72 (by decide) ?_
      refine e_iload_n G (pc := 74) dX9_sitterMoves_74 rfl rfl ?_
      refine e_imul G (pc := 75) dX9_sitterMoves_75 ?_
      refine e_iload G (pc := 76) dX9_sitterMoves_76 rfl ?_
      refine e_iadd G (pc := 78) dX9_sitterMoves_78 ?_
      refine e_iconst G (pc := 79) (v := 1) dX9_sitterMoves_79 (by decide) ?_
      refine e_isub G (pc := 80) dX9_sitterMoves_80 ?_
      refine e_iald G (pc := 81) hs7 dX9_sitterMoves_81 (fun v8 => ?_)
      refine e_goto G (pc := 82) (tgt := 88) dX9_sitterMoves_82 (by decide) ?_
      exact t_X9_sitterMoves_B88 G k2 k24 hk2 hk24 w l1 l2 l3 l4 v3 v4 v5 v8 
set_option maxRecDepth 100000 in
set_option maxHeartbeats 4000000 in
theorem t_X9_sitterMoves_R24 {E : qE} {Γ : qC} (G : q_Ok E Γ RX9 cX9_sitterMoves 10 (3)) (k2 : qW → Int32 → Int32 → Int32 → Option (Unit × qW)) (hk2 : ∀ (w : qW) (l1 : Int32) (l2 : Int32) (l3 : Int32), q_Ev E Γ 10 (q_Fv E Γ cX9_sitterMoves) 2 [some (.ref 21), some (.int l1), some (.int l2), some (.int l3), none, none, none, none, none, none] [] w (k2 w l1 l2 l3)) : ∀ (fuel : Nat) (w : qW) (l1 : Int32) (l2 : Int32) (l3 : Int32) (l4 : Int32) , q_Ev E Γ 10 (q_Fv E Γ cX9_sitterMoves) 24 [some (.ref 21), some (.int l1), some (.int l2), some (.int l3), some (.int l4), none, none, none, none, none] [] w (f_X9_sitterMoves_R24 k2 fuel w l1 l2 l3 l4) := by
  intro fuel
  induction fuel with
  | zero => intros; exact e_none
  | succ fuel ih =>
    intro w l1 l2 l3 l4 
    exact t_X9_sitterMoves_B24 G k2 _ hk2 ih w l1 l2 l3 l4 
set_option maxRecDepth 100000 in
set_option maxHeartbeats 4000000 in
theorem t_X9_sitterMoves_B2 {E : qE} {Γ : qC} (G : q_Ok E Γ RX9 cX9_sitterMoves 10 (3)) (k2 : qW → Int32 → Int32 → Int32 → Option (Unit × qW)) (hk2 : ∀ (w : qW) (l1 : Int32) (l2 : Int32) (l3 : Int32), q_Ev E Γ 10 (q_Fv E Γ cX9_sitterMoves) 2 [some (.ref 21), some (.int l1), some (.int l2), some (.int l3), none, none, none, none, none, none] [] w (k2 w l1 l2 l3)) (w : qW) (l1 : Int32) (l2 : Int32) (l3 : Int32) : q_Ev E Γ 10 (q_Fv E Γ cX9_sitterMoves) 2 [some (.ref 21), some (.int l1), some (.int l2), some (.int l3), none, none, none, none, none, none] [] w (f_X9_sitterMoves_B2 k2 w l1 l2 l3) := by
  unfold f_X9_sitterMoves_B2
  refine e_iload_n G (pc := 2) dX9_sitterMoves_2 rfl rfl ?_
  refine e_sipush G (pc := 3) (v := 144) dX9_sitterMoves_3 (by decide) ?_
  refine e_icmp_ge G (pc := 6) (tgt := 157) dX9_sitterMoves_6 (by decide) ?_ ?_
  · exact e_vret dX9_sitterMoves_157
  · refine e_iload_n G (pc := 9) dX9_sitterMoves_9 rfl rfl ?_
    refine e_iload_n G (pc := 10) dX9_sitterMoves_10 rfl rfl ?_
    refine e_cSi G (pc := 11) (ci := 0) (id := 0) (sl := []) (As := [.int l3, .int l1]) (st := []) cs_X9_55 (c_X9_apart w l3 l1 ) (Nat.le_of_ble_eq_true rfl) rfl (Nat.le_of_ble_eq_true rfl) dX9_sitterMoves_11 (fun r1 w2 => ?_)
    refine e_iload_n G (pc := 14) dX9_sitterMoves_14 rfl rfl ?_
    refine e_icmp_le G (pc := 15) (tgt := 21) dX9_sitterMoves_15 (by decide) ?_ ?_
    · refine e_iconst G (pc := 21) (v := 0) dX9_sitterMoves_21 (by decide) ?_
      refine e_istore G (pc := 22) (L' := [some (.ref 21), some (.int l1), some (.int l2), some (.int l3), some (.int 0), none, none, none, none, none]) dX9_sitterMoves_22 (Nat.le_of_ble_eq_true rfl) rfl ?_
      exact t_X9_sitterMoves_R24 G k2 hk2  q_fuel w2 l1 l2 l3 0 
    · refine e_goto G (pc := 18) (tgt := 151) dX9_sitterMoves_18 (by decide) ?_
      exact t_X9_sitterMoves_B151 G k2 hk2 w2 l1 l2 l3 
set_option maxRecDepth 100000 in
set_option maxHeartbeats 4000000 in
theorem t_X9_sitterMoves_R2 {E : qE} {Γ : qC} (G : q_Ok E Γ RX9 cX9_sitterMoves 10 (3)) : ∀ (fuel : Nat) (w : qW) (l1 : Int32) (l2 : Int32) (l3 : Int32) , q_Ev E Γ 10 (q_Fv E Γ cX9_sitterMoves) 2 [some (.ref 21), some (.int l1), some (.int l2), some (.int l3), none, none, none, none, none, none] [] w (f_X9_sitterMoves_R2 fuel w l1 l2 l3) := by
  intro fuel
  induction fuel with
  | zero => intros; exact e_none
  | succ fuel ih =>
    intro w l1 l2 l3 
    exact t_X9_sitterMoves_B2 G _ ih w l1 l2 l3 
set_option maxRecDepth 100000 in
set_option maxHeartbeats 4000000 in
theorem t_X9_sitterMoves {E : qE} {Γ : qC} (G : q_Ok E Γ RX9 cX9_sitterMoves 10 (3)) (w : qW) (a1 : Int32) (a2 : Int32) : q_Ev E Γ 10 (q_Fv E Γ cX9_sitterMoves) 0 [some (.ref 21), some (.int a1), some (.int a2), none, none, none, none, none, none, none] [] w (f_X9_sitterMoves w a1 a2) := by
  unfold f_X9_sitterMoves
  refine e_iconst G (pc := 0) (v := 0) dX9_sitterMoves_0 (by decide) ?_
  refine e_istore_n G (pc := 1) (L' := [some (.ref 21), some (.int a1), some (.int a2), some (.int 0), none, none, none, none, none, none]) dX9_sitterMoves_1 rfl (Nat.le_of_ble_eq_true rfl) rfl ?_
  exact t_X9_sitterMoves_R2 G  q_fuel w a1 a2 0 
set_option maxRecDepth 100000 in
set_option maxHeartbeats 4000000 in
theorem c_X9_sitterMoves (w : qW) (a1 : Int32) (a2 : Int32) : q_AC q_vv none (3) yX9_sitterMoves cX9_sitterMoves 10 [.ref 21, .int a1, .int a2] w (f_X9_sitterMoves w a1 a2) := q_met_v (k := 7) (by decide +kernel) rfl rfl rfl (fun _ _ G => t_X9_sitterMoves G w a1 a2 )
set_option maxRecDepth 100000 in
set_option maxHeartbeats 4000000 in
theorem t_X9_winningStep_B173 {E : qE} {Γ : qC} (G : q_Ok E Γ RX9 cX9_winningStep 13 (8)) (k115 : qW → Int32 → Int32 → Int32 → Int32 → Option (Int32 × qW)) (hk115 : ∀ (w : qW) (l5 : Int32) (l6 : Int32) (l9 : Int32) (l10 : Int32), q_Ev E Γ 13 (q_Fi E Γ cX9_winningStep) 115 [some (.ref 21), none, none, none, none, some (.int l5), some (.int l6), none, some (.ref 102), some (.int l9), some (.int l10), none, none] [] w (k115 w l5 l6 l9 l10)) (w : qW) (l5 : Int32) (l6 : Int32) (l9 : Int32) (l10 : Int32) : q_Ev E Γ 13 (q_Fi E Γ cX9_winningStep) 173 [some (.ref 21), none, none, none, none, some (.int l5), some (.int l6), none, some (.ref 102), some (.int l9), some (.int l10), none, none] [] w (f_X9_winningStep_B173 k115 w l5 l6 l9 l10) := by
  unfold f_X9_winningStep_B173
  refine e_iinc G (pc := 173) (x := l10) (v := l10 + 1) (L' := fun v1 => [some (.ref 21), none, none, none, none, some (.int l5), some (.int l6), none, some (.ref 102), some (.int l9), some (.int v1), none, none]) dX9_winningStep_173 (Nat.le_of_ble_eq_true rfl) rfl (by rfl) (fun _ => rfl) (fun v1 => ?_)
  refine e_goto G (pc := 176) (tgt := 115) dX9_winningStep_176 (by decide) ?_
  exact hk115 w l5 l6 l9 v1 
set_option maxRecDepth 100000 in
set_option maxHeartbeats 4000000 in
theorem t_X9_winningStep_B115 {E : qE} {Γ : qC} (G : q_Ok E Γ RX9 cX9_winningStep 13 (8)) (k115 : qW → Int32 → Int32 → Int32 → Int32 → Option (Int32 × qW)) (hk115 : ∀ (w : qW) (l5 : Int32) (l6 : Int32) (l9 : Int32) (l10 : Int32), q_Ev E Γ 13 (q_Fi E Γ cX9_winningStep) 115 [some (.ref 21), none, none, none, none, some (.int l5), some (.int l6), none, some (.ref 102), some (.int l9), some (.int l10), none, none] [] w (k115 w l5 l6 l9 l10)) (w : qW) (l5 : Int32) (l6 : Int32) (l9 : Int32) (l10 : Int32) : q_Ev E Γ 13 (q_Fi E Γ cX9_winningStep) 115 [some (.ref 21), none, none, none, none, some (.int l5), some (.int l6), none, some (.ref 102), some (.int l9), some (.int l10), none, none] [] w (f_X9_winningStep_B115 k115 w l5 l6 l9 l10) := by
  unfold f_X9_winningStep_B115
  refine e_iload G (pc := 115) dX9_winningStep_115 rfl ?_
  refine e_iload G (pc := 117) dX9_winningStep_117 rfl ?_
  refine e_icmp_ge G (pc := 119) (tgt := 179) dX9_winningStep_119 (by decide) ?_ ?_
  · refine e_iconst G (pc := 179) (v := (-1)) dX9_winningStep_179 (by decide) ?_
    exact e_iret dX9_winningStep_180
  · refine e_aload G (pc := 122) dX9_winningStep_122 rfl ?_
    refine e_iload G (pc := 124) dX9_winningStep_124 rfl ?_
    refine e_tald G (pc := 126) (k := 2) rfl (by decide) dX9_winningStep_126 (fun v1 => ?_)
    refine e_istore G (pc := 127) (L' := [some (.ref 21), none, none, none, none, some (.int l5), some (.int l6), none, some (.ref 102), some (.int l9), some (.int l10), some (.int v1), none]) dX9_winningStep_127 (Nat.le_of_ble_eq_true rfl) rfl ?_
    refine e_iload G (pc := 129) dX9_winningStep_129 rfl ?_
    refine e_iload G (pc := 131) dX9_winningStep_131 rfl ?_
    refine e_cNi G (pc := 133) (ci := 0) (id := 0) (sl := []) (As := [.int l5, .int v1]) (st := []) cn_X9_46 (c_X10_cellAfter w l5 v1 ) (Nat.le_of_ble_eq_true rfl) rfl (Nat.le_of_ble_eq_true rfl) dX9_winningStep_133 (fun r2 w3 => ?_)
    refine e_istore G (pc := 136) (L' := [some (.ref 21), none, none, none, none, some (.int l5), some (.int l6), none, some (.ref 102), some (.int l9), some (.int l10), some (.int v1), some (.int r2)]) dX9_winningStep_136 (Nat.le_of_ble_eq_true rfl) rfl ?_
    refine e_iload G (pc := 138) dX9_winningStep_138 rfl ?_
    refine e_if_lt G (pc := 140) (tgt := 173) dX9_winningStep_140 (by decide) ?_ ?_
    · refine e_wk (L' := [some (.ref 21), none, none, none, none, some (.int l5), some (.int l6), none, some (.ref 102), some (.int l9), some (.int l10), none, none]) (And.intro rfl (And.intro rfl (And.intro rfl (And.intro rfl (And.intro rfl (And.intro rfl (trivial))))))) ?_
      exact t_X9_winningStep_B173 G k115 hk115 w3 l5 l6 l9 l10 
    · refine e_aload_n G (pc := 143) dX9_winningStep_143 rfl rfl ?_
      refine e_getD G (pc := 144) (n := 1728) sh_21 rfl lk_X9_9 dX9_winningStep_144 (fun id4 hs5 => ?_)
      refine e_bipush G (pc := 147) (v := 12) dX9_winningStep_147 (by decide) ?_
      refine e_iload G (pc := 149) dX9_winningStep_149 rfl ?_
      refine e_imul G (pc := 151) dX9_winningStep_151 ?_
      refine e_iload G (pc := 152) dX9_winningStep_152 rfl ?_
      refine e_bipush G (pc := 154) (v := 12) dX9_winningStep_154 (by decide) ?_
      refine e_idiv G (pc := 156) dX9_winningStep_156 (by decide) ?_
      refine e_iadd G (pc := 157) dX9_winningStep_157 ?_
      refine e_iald G (pc := 158) hs5 dX9_winningStep_158 (fun v6 => ?_)
      refine e_iload G (pc := 159) dX9_winningStep_159 rfl ?_
      refine e_bipush G (pc := 161) (v := 12) dX9_winningStep_161 (by decide) ?_
      refine e_irem G (pc := 163) dX9_winningStep_163 (by decide) ?_
      refine e_ishr G (pc := 164) dX9_winningStep_164 ?_
      refine e_iconst G (pc := 165) (v := 1) dX9_winningStep_165 (by decide) ?_
      refine e_iand G (pc := 166) dX9_winningStep_166 ?_
      refine e_if_eq G (pc := 167) (tgt := 173) dX9_winningStep_167 (by decide) ?_ ?_
      · refine e_wk (L' := [some (.ref 21), none, none, none, none, some (.int l5), some (.int l6), none, some (.ref 102), some (.int l9), some (.int l10), none, none]) (And.intro rfl (And.intro rfl (And.intro rfl (And.intro rfl (And.intro rfl (And.intro rfl (trivial))))))) ?_
        exact t_X9_winningStep_B173 G k115 hk115 w3 l5 l6 l9 l10 
      · refine e_iload G (pc := 170) dX9_winningStep_170 rfl ?_
        exact e_iret dX9_winningStep_172
set_option maxRecDepth 100000 in
set_option maxHeartbeats 4000000 in
theorem t_X9_winningStep_R115 {E : qE} {Γ : qC} (G : q_Ok E Γ RX9 cX9_winningStep 13 (8)) : ∀ (fuel : Nat) (w : qW) (l5 : Int32) (l6 : Int32) (l9 : Int32) (l10 : Int32) , q_Ev E Γ 13 (q_Fi E Γ cX9_winningStep) 115 [some (.ref 21), none, none, none, none, some (.int l5), some (.int l6), none, some (.ref 102), some (.int l9), some (.int l10), none, none] [] w (f_X9_winningStep_R115 fuel w l5 l6 l9 l10) := by
  intro fuel
  induction fuel with
  | zero => intros; exact e_none
  | succ fuel ih =>
    intro w l5 l6 l9 l10 
    exact t_X9_winningStep_B115 G _ ih w l5 l6 l9 l10 
set_option maxRecDepth 100000 in
set_option maxHeartbeats 4000000 in
theorem t_X9_winningStep_B76 {E : qE} {Γ : qC} (G : q_Ok E Γ RX9 cX9_winningStep 13 (8)) (k45 : qW → Int32 → Int32 → Int32 → Int32 → Option (Int32 × qW)) (hk45 : ∀ (w : qW) (l5 : Int32) (l6 : Int32) (l7 : Int32) (l8 : Int32), q_Ev E Γ 13 (q_Fi E Γ cX9_winningStep) 45 [some (.ref 21), none, none, none, none, some (.int l5), some (.int l6), some (.int l7), some (.int l8), none, none, none, none] [] w (k45 w l5 l6 l7 l8)) (w : qW) (l5 : Int32) (l6 : Int32) (l7 : Int32) (l8 : Int32) : q_Ev E Γ 13 (q_Fi E Γ cX9_winningStep) 76 [some (.ref 21), none, none, none, none, some (.int l5), some (.int l6), some (.int l7), some (.int l8), none, none, none, none] [] w (f_X9_winningStep_B76 k45 w l5 l6 l7 l8) := by
  unfold f_X9_winningStep_B76
  refine e_aload_n G (pc := 76) dX9_winningStep_76 rfl rfl ?_
  refine e_getD G (pc := 77) (n := 1728) sh_21 rfl lk_X9_9 dX9_winningStep_77 (fun id1 hs2 => ?_)
  refine e_astore G (pc := 80) (L' := [some (.ref 21), none, none, none, none, some (.int l5), some (.int l6), some (.int l7), some (.int l8), some (.ref id1), none, none, none]) dX9_winningStep_80 (Nat.le_of_ble_eq_true rfl) rfl ?_
  refine e_aload_n G (pc := 82) dX9_winningStep_82 rfl rfl ?_
  refine e_aload_n G (pc := 83) dX9_winningStep_83 rfl rfl ?_
  refine e_getD G (pc := 84) (n := 1728) sh_21 rfl lk_X9_15 dX9_winningStep_84 (fun id3 hs4 => ?_)
  refine e_putD G (pc := 87) sh_21 rfl lp_X9_9 dX9_winningStep_87 (fun w5 => ?_)
  refine e_aload_n G (pc := 90) dX9_winningStep_90 rfl rfl ?_
  refine e_aload G (pc := 91) dX9_winningStep_91 rfl ?_
  refine e_putD G (pc := 93) sh_21 rfl lp_X9_15 dX9_winningStep_93 (fun w6 => ?_)
  refine e_iinc G (pc := 96) (x := l8) (v := l8 + (-1)) (L' := fun v7 => [some (.ref 21), none, none, none, none, some (.int l5), some (.int l6), some (.int l7), some (.int v7), some (.ref id1), none, none, none]) dX9_winningStep_96 (Nat.le_of_ble_eq_true rfl) rfl (by rfl) (fun _ => rfl) (fun v7 => ?_)
  refine e_goto G (pc := 99) (tgt := 45) dX9_winningStep_99 (by decide) ?_
  refine e_wk (L' := [some (.ref 21), none, none, none, none, some (.int l5), some (.int l6), some (.int l7), some (.int v7), none, none, none, none]) (And.intro rfl (And.intro rfl (And.intro rfl (And.intro rfl (And.intro rfl (trivial)))))) ?_
  exact hk45 w6 l5 l6 l7 v7 
set_option maxRecDepth 100000 in
set_option maxHeartbeats 4000000 in
theorem t_X9_winningStep_B45 {E : qE} {Γ : qC} (G : q_Ok E Γ RX9 cX9_winningStep 13 (8)) (k45 : qW → Int32 → Int32 → Int32 → Int32 → Option (Int32 × qW)) (hk45 : ∀ (w : qW) (l5 : Int32) (l6 : Int32) (l7 : Int32) (l8 : Int32), q_Ev E Γ 13 (q_Fi E Γ cX9_winningStep) 45 [some (.ref 21), none, none, none, none, some (.int l5), some (.int l6), some (.int l7), some (.int l8), none, none, none, none] [] w (k45 w l5 l6 l7 l8)) (w : qW) (l5 : Int32) (l6 : Int32) (l7 : Int32) (l8 : Int32) : q_Ev E Γ 13 (q_Fi E Γ cX9_winningStep) 45 [some (.ref 21), none, none, none, none, some (.int l5), some (.int l6), some (.int l7), some (.int l8), none, none, none, none] [] w (f_X9_winningStep_B45 k45 w l5 l6 l7 l8) := by
  unfold f_X9_winningStep_B45
  refine e_iload G (pc := 45) dX9_winningStep_45 rfl ?_
  refine e_if_le G (pc := 47) (tgt := 102) dX9_winningStep_47 (by decide) ?_ ?_
  · refine e_gets G (pc := 102) (id := 102) rfl ls_X9_43 dX9_winningStep_102 ?_
    refine e_astore G (pc := 105) (L' := [some (.ref 21), none, none, none, none, some (.int l5), some (.int l6), some (.int l7), some (.ref 102), none, none, none, none]) dX9_winningStep_105 (Nat.le_of_ble_eq_true rfl) rfl ?_
    refine e_aload G (pc := 107) dX9_winningStep_107 rfl ?_
    refine e_tlen G (pc := 109) (k := 2) rfl (by decide) dX9_winningStep_109 ?_
    refine e_ti (fun v1 => ?_)
    refine e_istore G (pc := 110) (L' := [some (.ref 21), none, none, none, none, some (.int l5), some (.int l6), some (.int l7), some (.ref 102), some (.int v1), none, none, none]) dX9_winningStep_110 (Nat.le_of_ble_eq_true rfl) rfl ?_
    refine e_iconst G (pc := 112) (v := 0) dX9_winningStep_112 (by decide) ?_
    refine e_istore G (pc := 113) (L' := [some (.ref 21), none, none, none, none, some (.int l5), some (.int l6), some (.int l7), some (.ref 102), some (.int v1), some (.int 0), none, none]) dX9_winningStep_113 (Nat.le_of_ble_eq_true rfl) rfl ?_
    refine e_wk (L' := [some (.ref 21), none, none, none, none, some (.int l5), some (.int l6), none, some (.ref 102), some (.int v1), some (.int 0), none, none]) (And.intro rfl (And.intro rfl (And.intro rfl (And.intro rfl (And.intro rfl (And.intro rfl (trivial))))))) ?_
    exact t_X9_winningStep_R115 G  q_fuel w l5 l6 v1 0 
  · refine e_iload G (pc := 50) dX9_winningStep_50 rfl ?_
    refine e_iconst G (pc := 52) (v := 2) dX9_winningStep_52 (by decide) ?_
    refine e_irem G (pc := 53) dX9_winningStep_53 (by decide) ?_
    refine e_if_ne G (pc := 54) (tgt := 68) dX9_winningStep_54 (by decide) ?_ ?_
    · refine e_aload_n G (pc := 68) dX9_winningStep_68 rfl rfl ?_
      refine e_iload G (pc := 69) dX9_winningStep_69 rfl ?_
      refine e_iload G (pc := 71) dX9_winningStep_71 rfl ?_
      refine e_cVv G (pc := 73) (As := [.int l5, .int l7]) (st := []) cv_X9_40 (c_X9_sitterMoves w l5 l7 ) sh_21 (Nat.le_of_ble_eq_true rfl) rfl (Nat.le_of_ble_eq_true rfl) dX9_winningStep_73 (fun r2 w3 => ?_)
      exact t_X9_winningStep_B76 G k45 hk45 w3 l5 l6 l7 l8 
    · refine e_aload_n G (pc := 57) dX9_winningStep_57 rfl rfl ?_
      refine e_iload G (pc := 58) dX9_winningStep_58 rfl ?_
      refine e_iload G (pc := 60) dX9_winningStep_60 rfl ?_
      refine e_cVv G (pc := 62) (As := [.int l5, .int l7]) (st := []) cv_X9_36 (c_X9_manMoves w l5 l7 ) sh_21 (Nat.le_of_ble_eq_true rfl) rfl (Nat.le_of_ble_eq_true rfl) dX9_winningStep_62 (fun r4 w5 => ?_)
      refine e_goto G (pc := 65) (tgt := 76) dX9_winningStep_65 (by decide) ?_
      exact t_X9_winningStep_B76 G k45 hk45 w5 l5 l6 l7 l8 
set_option maxRecDepth 100000 in
set_option maxHeartbeats 4000000 in
theorem t_X9_winningStep_R45 {E : qE} {Γ : qC} (G : q_Ok E Γ RX9 cX9_winningStep 13 (8)) : ∀ (fuel : Nat) (w : qW) (l5 : Int32) (l6 : Int32) (l7 : Int32) (l8 : Int32) , q_Ev E Γ 13 (q_Fi E Γ cX9_winningStep) 45 [some (.ref 21), none, none, none, none, some (.int l5), some (.int l6), some (.int l7), some (.int l8), none, none, none, none] [] w (f_X9_winningStep_R45 fuel w l5 l6 l7 l8) := by
  intro fuel
  induction fuel with
  | zero => intros; exact e_none
  | succ fuel ih =>
    intro w l5 l6 l7 l8 
    exact t_X9_winningStep_B45 G _ ih w l5 l6 l7 l8 
set_option maxRecDepth 100000 in
set_option maxHeartbeats 4000000 in
theorem t_X9_winningStep {E : qE} {Γ : qC} (G : q_Ok E Γ RX9 cX9_winningStep 13 (8)) (w : qW) (a1 : Int32) (a2 : Int32) (a3 : Int32) (a4 : Int32) : q_Ev E Γ 13 (q_Fi E Γ cX9_winningStep) 0 [some (.ref 21), some (.int a1), some (.int a2), some (.int a3), some (.int a4), none, none, none, none, none, none, none, none] [] w (f_X9_winningStep w a1 a2 a3 a4) := by
  unfold f_X9_winningStep
  refine e_aload_n G (pc := 0) dX9_winningStep_0 rfl rfl ?_
  refine e_getF G (pc := 1) sh_21 rfl lk_X9_18 dX9_winningStep_1 ?_
  refine e_iload_n G (pc := 4) dX9_winningStep_4 rfl rfl ?_
  refine e_iconst G (pc := 5) (v := 0) dX9_winningStep_5 (by decide) ?_
  refine e_cVi G (pc := 6) (As := [.int a1, .int 0]) (st := []) cv_X9_26 (c_X4_get w a1 0 ) sh_1 (Nat.le_of_ble_eq_true rfl) rfl (Nat.le_of_ble_eq_true rfl) dX9_winningStep_6 (fun r1 w2 => ?_)
  refine e_istore G (pc := 9) (L' := [some (.ref 21), some (.int a1), some (.int a2), some (.int a3), some (.int a4), some (.int r1), none, none, none, none, none, none, none]) dX9_winningStep_9 (Nat.le_of_ble_eq_true rfl) rfl ?_
  refine e_aload_n G (pc := 11) dX9_winningStep_11 rfl rfl ?_
  refine e_getF G (pc := 12) sh_21 rfl lk_X9_18 dX9_winningStep_12 ?_
  refine e_iload_n G (pc := 15) dX9_winningStep_15 rfl rfl ?_
  refine e_iconst G (pc := 16) (v := 4) dX9_winningStep_16 (by decide) ?_
  refine e_cVi G (pc := 17) (As := [.int a2, .int 4]) (st := []) cv_X9_26 (c_X4_get w2 a2 4 ) sh_1 (Nat.le_of_ble_eq_true rfl) rfl (Nat.le_of_ble_eq_true rfl) dX9_winningStep_17 (fun r3 w4 => ?_)
  refine e_istore G (pc := 20) (L' := [some (.ref 21), some (.int a1), some (.int a2), some (.int a3), some (.int a4), some (.int r1), some (.int r3), none, none, none, none, none, none]) dX9_winningStep_20 (Nat.le_of_ble_eq_true rfl) rfl ?_
  refine e_iload G (pc := 22) dX9_winningStep_22 rfl ?_
  refine e_iconst G (pc := 24) (v := 1) dX9_winningStep_24 (by decide) ?_
  refine e_iadd G (pc := 25) dX9_winningStep_25 ?_
  refine e_iconst G (pc := 26) (v := 2) dX9_winningStep_26 (by decide) ?_
  refine e_idiv G (pc := 27) dX9_winningStep_27 (by decide) ?_
  refine e_ti (fun v5 => ?_)
  refine e_istore G (pc := 28) (L' := [some (.ref 21), some (.int a1), some (.int a2), some (.int a3), some (.int a4), some (.int r1), some (.int r3), some (.int v5), none, none, none, none, none]) dX9_winningStep_28 (Nat.le_of_ble_eq_true rfl) rfl ?_
  refine e_aload_n G (pc := 30) dX9_winningStep_30 rfl rfl ?_
  refine e_iload_n G (pc := 31) dX9_winningStep_31 rfl rfl ?_
  refine e_iload_n G (pc := 32) dX9_winningStep_32 rfl rfl ?_
  refine e_iload_n G (pc := 33) dX9_winningStep_33 rfl rfl ?_
  refine e_iload G (pc := 34) dX9_winningStep_34 rfl ?_
  refine e_cVv G (pc := 36) (As := [.int a1, .int a2, .int a3, .int v5]) (st := []) cv_X9_32 (c_X9_lastPlaces w4 a1 a2 a3 v5 ) sh_21 (Nat.le_of_ble_eq_true rfl) rfl (Nat.le_of_ble_eq_true rfl) dX9_winningStep_36 (fun r6 w7 => ?_)
  refine e_iload G (pc := 39) dX9_winningStep_39 rfl ?_
  refine e_iconst G (pc := 41) (v := 1) dX9_winningStep_41 (by decide) ?_
  refine e_isub G (pc := 42) dX9_winningStep_42 ?_
  refine e_ti (fun v8 => ?_)
  refine e_istore G (pc := 43) (L' := [some (.ref 21), some (.int a1), some (.int a2), some (.int a3), some (.int a4), some (.int r1), some (.int r3), some (.int v5), some (.int v8), none, none, none, none]) dX9_winningStep_43 (Nat.le_of_ble_eq_true rfl) rfl ?_
  refine e_wk (L' := [some (.ref 21), none, none, none, none, some (.int r1), some (.int r3), some (.int v5), some (.int v8), none, none, none, none]) (And.intro rfl (And.intro rfl (And.intro rfl (And.intro rfl (And.intro rfl (trivial)))))) ?_
  exact t_X9_winningStep_R45 G  q_fuel w7 r1 r3 v5 v8 
set_option maxRecDepth 100000 in
set_option maxHeartbeats 4000000 in
theorem c_X9_winningStep (w : qW) (a1 : Int32) (a2 : Int32) (a3 : Int32) (a4 : Int32) : q_AC q_vi (some .int) (8) yX9_winningStep cX9_winningStep 13 [.ref 21, .int a1, .int a2, .int a3, .int a4] w (f_X9_winningStep w a1 a2 a3 a4) := q_met_i (k := 8) (by decide +kernel) rfl rfl rfl (fun _ _ G => t_X9_winningStep G w a1 a2 a3 a4 )
set_option maxRecDepth 100000 in
set_option maxHeartbeats 4000000 in
theorem t_X7_shadyCells_B26 {E : qE} {Γ : qC} (G : q_Ok E Γ RX7 cX7_shadyCells 4 (7)) (k4 : qW → Int32 → Int32 → Int32 → Option (Int32 × qW)) (hk4 : ∀ (w : qW) (l1 : Int32) (l2 : Int32) (l3 : Int32), q_Ev E Γ 4 (q_Fi E Γ cX7_shadyCells) 4 [some (.ref 10), some (.int l1), some (.int l2), some (.int l3)] [] w (k4 w l1 l2 l3)) (w : qW) (l1 : Int32) (l2 : Int32) (l3 : Int32) : q_Ev E Γ 4 (q_Fi E Γ cX7_shadyCells) 26 [some (.ref 10), some (.int l1), some (.int l2), some (.int l3)] [] w (f_X7_shadyCells_B26 k4 w l1 l2 l3) := by
  unfold f_X7_shadyCells_B26
  refine e_iinc G (pc := 26) (x := l3) (v := l3 + 1) (L' := fun v1 => [some (.ref 10), some (.int l1), some (.int l2), some (.int v1)]) dX7_shadyCells_26 (Nat.le_of_ble_eq_true rfl) rfl (by rfl) (fun _ => rfl) (fun v1 => ?_)
  refine e_goto G (pc := 29) (tgt := 4) dX7_shadyCells_29 (by decide) ?_
  exact hk4 w l1 l2 v1 
set_option maxRecDepth 100000 in
set_option maxHeartbeats 4000000 in
theorem t_X7_shadyCells_B4 {E : qE} {Γ : qC} (G : q_Ok E Γ RX7 cX7_shadyCells 4 (7)) (k4 : qW → Int32 → Int32 → Int32 → Option (Int32 × qW)) (hk4 : ∀ (w : qW) (l1 : Int32) (l2 : Int32) (l3 : Int32), q_Ev E Γ 4 (q_Fi E Γ cX7_shadyCells) 4 [some (.ref 10), some (.int l1), some (.int l2), some (.int l3)] [] w (k4 w l1 l2 l3)) (w : qW) (l1 : Int32) (l2 : Int32) (l3 : Int32) : q_Ev E Γ 4 (q_Fi E Γ cX7_shadyCells) 4 [some (.ref 10), some (.int l1), some (.int l2), some (.int l3)] [] w (f_X7_shadyCells_B4 k4 w l1 l2 l3) := by
  unfold f_X7_shadyCells_B4
  refine e_iload_n G (pc := 4) dX7_shadyCells_4 rfl rfl ?_
  refine e_sipush G (pc := 5) (v := 144) dX7_shadyCells_5 (by decide) ?_
  refine e_icmp_ge G (pc := 8) (tgt := 32) dX7_shadyCells_8 (by decide) ?_ ?_
  · refine e_iload_n G (pc := 32) dX7_shadyCells_32 rfl rfl ?_
    exact e_iret dX7_shadyCells_33
  · refine e_aload_n G (pc := 11) dX7_shadyCells_11 rfl rfl ?_
    refine e_getF G (pc := 12) sh_10 rfl lk_X7_31 dX7_shadyCells_12 ?_
    refine e_iload_n G (pc := 15) dX7_shadyCells_15 rfl rfl ?_
    refine e_iload_n G (pc := 16) dX7_shadyCells_16 rfl rfl ?_
    refine e_cVi G (pc := 17) (As := [.int l3, .int l1]) (st := []) cv_X7_35 (c_X5_byAll w l3 l1 ) sh_9 (Nat.le_of_ble_eq_true rfl) rfl (Nat.le_of_ble_eq_true rfl) dX7_shadyCells_17 (fun r1 w2 => ?_)
    refine e_if_le G (pc := 20) (tgt := 26) dX7_shadyCells_20 (by decide) ?_ ?_
    · exact t_X7_shadyCells_B26 G k4 hk4 w2 l1 l2 l3 
    · refine e_iinc G (pc := 23) (x := l2) (v := l2 + 1) (L' := fun v3 => [some (.ref 10), some (.int l1), some (.int v3), some (.int l3)]) dX7_shadyCells_23 (Nat.le_of_ble_eq_true rfl) rfl (by rfl) (fun _ => rfl) (fun v3 => ?_)
      exact t_X7_shadyCells_B26 G k4 hk4 w2 l1 v3 l3 
set_option maxRecDepth 100000 in
set_option maxHeartbeats 4000000 in
theorem t_X7_shadyCells_R4 {E : qE} {Γ : qC} (G : q_Ok E Γ RX7 cX7_shadyCells 4 (7)) : ∀ (fuel : Nat) (w : qW) (l1 : Int32) (l2 : Int32) (l3 : Int32) , q_Ev E Γ 4 (q_Fi E Γ cX7_shadyCells) 4 [some (.ref 10), some (.int l1), some (.int l2), some (.int l3)] [] w (f_X7_shadyCells_R4 fuel w l1 l2 l3) := by
  intro fuel
  induction fuel with
  | zero => intros; exact e_none
  | succ fuel ih =>
    intro w l1 l2 l3 
    exact t_X7_shadyCells_B4 G _ ih w l1 l2 l3 
set_option maxRecDepth 100000 in
set_option maxHeartbeats 4000000 in
theorem t_X7_shadyCells {E : qE} {Γ : qC} (G : q_Ok E Γ RX7 cX7_shadyCells 4 (7)) (w : qW) (a1 : Int32) : q_Ev E Γ 4 (q_Fi E Γ cX7_shadyCells) 0 [some (.ref 10), some (.int a1), none, none] [] w (f_X7_shadyCells w a1) := by
  unfold f_X7_shadyCells
  refine e_iconst G (pc := 0) (v := 0) dX7_shadyCells_0 (by decide) ?_
  refine e_istore_n G (pc := 1) (L' := [some (.ref 10), some (.int a1), some (.int 0), none]) dX7_shadyCells_1 rfl (Nat.le_of_ble_eq_true rfl) rfl ?_
  refine e_iconst G (pc := 2) (v := 0) dX7_shadyCells_2 (by decide) ?_
  refine e_istore_n G (pc := 3) (L' := [some (.ref 10), some (.int a1), some (.int 0), some (.int 0)]) dX7_shadyCells_3 rfl (Nat.le_of_ble_eq_true rfl) rfl ?_
  exact t_X7_shadyCells_R4 G  q_fuel w a1 0 0 
set_option maxRecDepth 100000 in
set_option maxHeartbeats 4000000 in
theorem c_X7_shadyCells (w : qW) (a1 : Int32) : q_AC q_vi (some .int) (7) yX7_shadyCells cX7_shadyCells 4 [.ref 10, .int a1] w (f_X7_shadyCells w a1) := q_met_i (k := 2) (by decide +kernel) rfl rfl rfl (fun _ _ G => t_X7_shadyCells G w a1 )
set_option maxRecDepth 100000 in
set_option maxHeartbeats 4000000 in
theorem t_X7_darkest_B44 {E : qE} {Γ : qC} (G : q_Ok E Γ RX7 cX7_darkest 6 (7)) (k7 : qW → Int32 → Int32 → Int32 → Int32 → Option (Int32 × qW)) (hk7 : ∀ (w : qW) (l1 : Int32) (l2 : Int32) (l3 : Int32) (l4 : Int32), q_Ev E Γ 6 (q_Fi E Γ cX7_darkest) 7 [some (.ref 10), some (.int l1), some (.int l2), some (.int l3), some (.int l4), none] [] w (k7 w l1 l2 l3 l4)) (w : qW) (l1 : Int32) (l2 : Int32) (l3 : Int32) (l4 : Int32) : q_Ev E Γ 6 (q_Fi E Γ cX7_darkest) 44 [some (.ref 10), some (.int l1), some (.int l2), some (.int l3), some (.int l4), none] [] w (f_X7_darkest_B44 k7 w l1 l2 l3 l4) := by
  unfold f_X7_darkest_B44
  refine e_iinc G (pc := 44) (x := l4) (v := l4 + 1) (L' := fun v1 => [some (.ref 10), some (.int l1), some (.int l2), some (.int l3), some (.int v1), none]) dX7_darkest_44 (Nat.le_of_ble_eq_true rfl) rfl (by rfl) (fun _ => rfl) (fun v1 => ?_)
  refine e_goto G (pc := 47) (tgt := 7) dX7_darkest_47 (by decide) ?_
  exact hk7 w l1 l2 l3 v1 
set_option maxRecDepth 100000 in
set_option maxHeartbeats 4000000 in
theorem t_X7_darkest_B7 {E : qE} {Γ : qC} (G : q_Ok E Γ RX7 cX7_darkest 6 (7)) (k7 : qW → Int32 → Int32 → Int32 → Int32 → Option (Int32 × qW)) (hk7 : ∀ (w : qW) (l1 : Int32) (l2 : Int32) (l3 : Int32) (l4 : Int32), q_Ev E Γ 6 (q_Fi E Γ cX7_darkest) 7 [some (.ref 10), some (.int l1), some (.int l2), some (.int l3), some (.int l4), none] [] w (k7 w l1 l2 l3 l4)) (w : qW) (l1 : Int32) (l2 : Int32) (l3 : Int32) (l4 : Int32) : q_Ev E Γ 6 (q_Fi E Γ cX7_darkest) 7 [some (.ref 10), some (.int l1), some (.int l2), some (.int l3), some (.int l4), none] [] w (f_X7_darkest_B7 k7 w l1 l2 l3 l4) := by
  unfold f_X7_darkest_B7
  refine e_iload G (pc := 7) dX7_darkest_7 rfl ?_
  refine e_sipush G (pc := 9) (v := 144) dX7_darkest_9 (by decide) ?_
  refine e_icmp_ge G (pc := 12) (tgt := 50) dX7_darkest_12 (by decide) ?_ ?_
  · refine e_iload_n G (pc := 50) dX7_darkest_50 rfl rfl ?_
    exact e_iret dX7_darkest_51
  · refine e_bipush G (pc := 15) (v := 12) dX7_darkest_15 (by decide) ?_
    refine e_aload_n G (pc := 17) dX7_darkest_17 rfl rfl ?_
    refine e_getF G (pc := 18) sh_10 rfl lk_X7_31 dX7_darkest_18 ?_
    refine e_iload G (pc := 21) dX7_darkest_21 rfl ?_
    refine e_iload_n G (pc := 23) dX7_darkest_23 rfl rfl ?_
    refine e_cVi G (pc := 24) (As := [.int l4, .int l1]) (st := [.int 12]) cv_X7_35 (c_X5_byAll w l4 l1 ) sh_9 (Nat.le_of_ble_eq_true rfl) rfl (Nat.le_of_ble_eq_true rfl) dX7_darkest_24 (fun r1 w2 => ?_)
    refine e_mmin G (pc := 27) mt_X7_41 (Nat.le_of_ble_eq_true rfl) (Nat.le_of_ble_eq_true rfl) dX7_darkest_27 ?_
    refine e_ti (fun v3 => ?_)
    refine e_istore G (pc := 30) (L' := [some (.ref 10), some (.int l1), some (.int l2), some (.int l3), some (.int l4), some (.int v3)]) dX7_darkest_30 (Nat.le_of_ble_eq_true rfl) rfl ?_
    refine e_iload G (pc := 32) dX7_darkest_32 rfl ?_
    refine e_iload_n G (pc := 34) dX7_darkest_34 rfl rfl ?_
    refine e_icmp_le G (pc := 35) (tgt := 44) dX7_darkest_35 (by decide) ?_ ?_
    · refine e_wk (L' := [some (.ref 10), some (.int l1), some (.int l2), some (.int l3), some (.int l4), none]) (And.intro rfl (And.intro rfl (And.intro rfl (And.intro rfl (And.intro rfl (trivial)))))) ?_
      exact t_X7_darkest_B44 G k7 hk7 w2 l1 l2 l3 l4 
    · refine e_iload G (pc := 38) dX7_darkest_38 rfl ?_
      refine e_istore_n G (pc := 40) (L' := [some (.ref 10), some (.int l1), some (.int l2), some (.int v3), some (.int l4), some (.int v3)]) dX7_darkest_40 rfl (Nat.le_of_ble_eq_true rfl) rfl ?_
      refine e_iload G (pc := 41) dX7_darkest_41 rfl ?_
      refine e_istore_n G (pc := 43) (L' := [some (.ref 10), some (.int l1), some (.int l4), some (.int v3), some (.int l4), some (.int v3)]) dX7_darkest_43 rfl (Nat.le_of_ble_eq_true rfl) rfl ?_
      refine e_wk (L' := [some (.ref 10), some (.int l1), some (.int l4), some (.int v3), some (.int l4), none]) (And.intro rfl (And.intro rfl (And.intro rfl (And.intro rfl (And.intro rfl (trivial)))))) ?_
      exact t_X7_darkest_B44 G k7 hk7 w2 l1 l4 v3 l4 
set_option maxRecDepth 100000 in
set_option maxHeartbeats 4000000 in
theorem t_X7_darkest_R7 {E : qE} {Γ : qC} (G : q_Ok E Γ RX7 cX7_darkest 6 (7)) : ∀ (fuel : Nat) (w : qW) (l1 : Int32) (l2 : Int32) (l3 : Int32) (l4 : Int32) , q_Ev E Γ 6 (q_Fi E Γ cX7_darkest) 7 [some (.ref 10), some (.int l1), some (.int l2), some (.int l3), some (.int l4), none] [] w (f_X7_darkest_R7 fuel w l1 l2 l3 l4) := by
  intro fuel
  induction fuel with
  | zero => intros; exact e_none
  | succ fuel ih =>
    intro w l1 l2 l3 l4 
    exact t_X7_darkest_B7 G _ ih w l1 l2 l3 l4 
set_option maxRecDepth 100000 in
set_option maxHeartbeats 4000000 in
theorem t_X7_darkest {E : qE} {Γ : qC} (G : q_Ok E Γ RX7 cX7_darkest 6 (7)) (w : qW) (a1 : Int32) : q_Ev E Γ 6 (q_Fi E Γ cX7_darkest) 0 [some (.ref 10), some (.int a1), none, none, none, none] [] w (f_X7_darkest w a1) := by
  unfold f_X7_darkest
  refine e_iconst G (pc := 0) (v := 0) dX7_darkest_0 (by decide) ?_
  refine e_istore_n G (pc := 1) (L' := [some (.ref 10), some (.int a1), some (.int 0), none, none, none]) dX7_darkest_1 rfl (Nat.le_of_ble_eq_true rfl) rfl ?_
  refine e_iconst G (pc := 2) (v := 0) dX7_darkest_2 (by decide) ?_
  refine e_istore_n G (pc := 3) (L' := [some (.ref 10), some (.int a1), some (.int 0), some (.int 0), none, none]) dX7_darkest_3 rfl (Nat.le_of_ble_eq_true rfl) rfl ?_
  refine e_iconst G (pc := 4) (v := 0) dX7_darkest_4 (by decide) ?_
  refine e_istore G (pc := 5) (L' := [some (.ref 10), some (.int a1), some (.int 0), some (.int 0), some (.int 0), none]) dX7_darkest_5 (Nat.le_of_ble_eq_true rfl) rfl ?_
  exact t_X7_darkest_R7 G  q_fuel w a1 0 0 0 
set_option maxRecDepth 100000 in
set_option maxHeartbeats 4000000 in
theorem c_X7_darkest (w : qW) (a1 : Int32) : q_AC q_vi (some .int) (7) yX7_darkest cX7_darkest 6 [.ref 10, .int a1] w (f_X7_darkest w a1) := q_met_i (k := 4) (by decide +kernel) rfl rfl rfl (fun _ _ G => t_X7_darkest G w a1 )
set_option maxRecDepth 100000 in
set_option maxHeartbeats 4000000 in
theorem t_X7_weigh_B53 {E : qE} {Γ : qC} (G : q_Ok E Γ RX7 cX7_weigh 8 (6)) (k2 : qW → Int32 → Int32 → Int32 → Option (Unit × qW)) (k27 : qW → Int32 → Int32 → Int32 → Int32 → Int32 → Option (Unit × qW)) (k53 : qW → Int32 → Int32 → Int32 → Int32 → Int32 → Int32 → Int32 → Option (Unit × qW)) (hk2 : ∀ (w : qW) (l1 : Int32) (l2 : Int32) (l3 : Int32), q_Ev E Γ 8 (q_Fv E Γ cX7_weigh) 2 [some (.ref 10), some (.int l1), some (.int l2), some (.int l3), none, none, none, none] [] w (k2 w l1 l2 l3)) (hk27 : ∀ (w : qW) (l1 : Int32) (l2 : Int32) (l3 : Int32) (l4 : Int32) (l5 : Int32), q_Ev E Γ 8 (q_Fv E Γ cX7_weigh) 27 [some (.ref 10), some (.int l1), some (.int l2), some (.int l3), some (.int l4), some (.int l5), none, none] [] w (k27 w l1 l2 l3 l4 l5)) (hk53 : ∀ (w : qW) (l1 : Int32) (l2 : Int32) (l3 : Int32) (l4 : Int32) (l5 : Int32) (l6 : Int32) (l7 : Int32), q_Ev E Γ 8 (q_Fv E Γ cX7_weigh) 53 [some (.ref 10), some (.int l1), some (.int l2), some (.int l3), some (.int l4), some (.int l5), some (.int l6), some (.int l7)] [] w (k53 w l1 l2 l3 l4 l5 l6 l7)) (w : qW) (l1 : Int32) (l2 : Int32) (l3 : Int32) (l4 : Int32) (l5 : Int32) (l6 : Int32) (l7 : Int32) : q_Ev E Γ 8 (q_Fv E Γ cX7_weigh) 53 [some (.ref 10), some (.int l1), some (.int l2), some (.int l3), some (.int l4), some (.int l5), some (.int l6), some (.int l7)] [] w (f_X7_weigh_B53 k2 k27 k53 w l1 l2 l3 l4 l5 l6 l7) := by
  unfold f_X7_weigh_B53
  refine e_iload G (pc := 53) dX7_weigh_53 rfl ?_
  refine e_bipush G (pc := 55) (v := 7) dX7_weigh_55 (by decide) ?_
  refine e_icmp_ge G (pc := 57) (tgt := 115) dX7_weigh_57 (by decide) ?_ ?_
  · refine e_iinc G (pc := 115) (x := l5) (v := l5 + 1) (L' := fun v1 => [some (.ref 10), some (.int l1), some (.int l2), some (.int l3), some (.int l4), some (.int v1), some (.int l6), some (.int l7)]) dX7_weigh_115 (Nat.le_of_ble_eq_true rfl) rfl (by rfl) (fun _ => rfl) (fun v1 => ?_)
    refine e_goto G (pc := 118) (tgt := 27) dX7_weigh_118 (by decide) ?_
    refine e_wk (L' := [some (.ref 10), some (.int l1), some (.int l2), some (.int l3), some (.int l4), some (.int v1), none, none]) (And.intro rfl (And.intro rfl (And.intro rfl (And.intro rfl (And.intro rfl (And.intro rfl (trivial))))))) ?_
    exact hk27 w l1 l2 l3 l4 v1 
  · refine e_aload_n G (pc := 60) dX7_weigh_60 rfl rfl ?_
    refine e_getF G (pc := 61) sh_10 rfl lk_X7_15 dX7_weigh_61 ?_
    refine e_bipush G (pc := 64) (v := 7) dX7_weigh_64 (by decide) ?_
    refine e_iload G (pc := 66) dX7_weigh_66 rfl ?_
    refine e_imul G (pc := 68) dX7_weigh_68 ?_
    refine e_iload G (pc := 69) dX7_weigh_69 rfl ?_
    refine e_iadd G (pc := 71) dX7_weigh_71 ?_
    refine e_aload_n G (pc := 72) dX7_weigh_72 rfl rfl ?_
    refine e_getF G (pc := 73) sh_10 rfl lk_X7_31 dX7_weigh_73 ?_
    refine e_iload G (pc := 76) dX7_weigh_76 rfl ?_
    refine e_iload G (pc := 78) dX7_weigh_78 rfl ?_
    refine e_iload G (pc := 80) dX7_weigh_80 rfl ?_
    refine e_cVi G (pc := 82) (As := [.int l7, .int l4, .int l5]) (st := [.int (((7 : Int32) * l6) + l7), .ref 12]) cv_X7_133 (c_X5_byMan w l7 l4 l5 ) sh_9 (Nat.le_of_ble_eq_true rfl) rfl (Nat.le_of_ble_eq_true rfl) dX7_weigh_82 (fun r2 w3 => ?_)
    refine e_iast G (pc := 85) sh_12 dX7_weigh_85 (fun w4 => ?_)
    refine e_aload_n G (pc := 86) dX7_weigh_86 rfl rfl ?_
    refine e_getF G (pc := 87) sh_10 rfl lk_X7_11 dX7_weigh_87 ?_
    refine e_iload G (pc := 90) dX7_weigh_90 rfl ?_
    refine e_dup2 G (pc := 92) dX7_weigh_92 rfl rfl ?_
    refine e_iald G (pc := 93) sh_11 dX7_weigh_93 (fun v5 => ?_)
    refine e_aload_n G (pc := 94) dX7_weigh_94 rfl rfl ?_
    refine e_getF G (pc := 95) sh_10 rfl lk_X7_15 dX7_weigh_95 ?_
    refine e_bipush G (pc := 98) (v := 7) dX7_weigh_98 (by decide) ?_
    refine e_iload G (pc := 100) dX7_weigh_100 rfl ?_
    refine e_imul G (pc := 102) dX7_weigh_102 ?_
    refine e_iload G (pc := 103) dX7_weigh_103 rfl ?_
    refine e_iadd G (pc := 105) dX7_weigh_105 ?_
    refine e_iald G (pc := 106) sh_12 dX7_weigh_106 (fun v6 => ?_)
    refine e_iadd G (pc := 107) dX7_weigh_107 ?_
    refine e_iast G (pc := 108) sh_11 dX7_weigh_108 (fun w7 => ?_)
    refine e_iinc G (pc := 109) (x := l7) (v := l7 + 1) (L' := fun v8 => [some (.ref 10), some (.int l1), some (.int l2), some (.int l3), some (.int l4), some (.int l5), some (.int l6), some (.int v8)]) dX7_weigh_109 (Nat.le_of_ble_eq_true rfl) rfl (by rfl) (fun _ => rfl) (fun v8 => ?_)
    refine e_goto G (pc := 112) (tgt := 53) dX7_weigh_112 (by decide) ?_
    exact hk53 w7 l1 l2 l3 l4 l5 l6 v8 
set_option maxRecDepth 100000 in
set_option maxHeartbeats 4000000 in
theorem t_X7_weigh_R53 {E : qE} {Γ : qC} (G : q_Ok E Γ RX7 cX7_weigh 8 (6)) (k2 : qW → Int32 → Int32 → Int32 → Option (Unit × qW)) (k27 : qW → Int32 → Int32 → Int32 → Int32 → Int32 → Option (Unit × qW)) (hk2 : ∀ (w : qW) (l1 : Int32) (l2 : Int32) (l3 : Int32), q_Ev E Γ 8 (q_Fv E Γ cX7_weigh) 2 [some (.ref 10), some (.int l1), some (.int l2), some (.int l3), none, none, none, none] [] w (k2 w l1 l2 l3)) (hk27 : ∀ (w : qW) (l1 : Int32) (l2 : Int32) (l3 : Int32) (l4 : Int32) (l5 : Int32), q_Ev E Γ 8 (q_Fv E Γ cX7_weigh) 27 [some (.ref 10), some (.int l1), some (.int l2), some (.int l3), some (.int l4), some (.int l5), none, none] [] w (k27 w l1 l2 l3 l4 l5)) : ∀ (fuel : Nat) (w : qW) (l1 : Int32) (l2 : Int32) (l3 : Int32) (l4 : Int32) (l5 : Int32) (l6 : Int32) (l7 : Int32) , q_Ev E Γ 8 (q_Fv E Γ cX7_weigh) 53 [some (.ref 10), some (.int l1), some (.int l2), some (.int l3), some (.int l4), some (.int l5), some (.int l6), some (.int l7)] [] w (f_X7_weigh_R53 k2 k27 fuel w l1 l2 l3 l4 l5 l6 l7) := by
  intro fuel
  induction fuel with
  | zero => intros; exact e_none
  | succ fuel ih =>
    intro w l1 l2 l3 l4 l5 l6 l7 
    exact t_X7_weigh_B53 G k2 k27 _ hk2 hk27 ih w l1 l2 l3 l4 l5 l6 l7 
set_option maxRecDepth 100000 in
set_option maxHeartbeats 4000000 in
theorem t_X7_weigh_B27 {E : qE} {Γ : qC} (G : q_Ok E Γ RX7 cX7_weigh 8 (6)) (k2 : qW → Int32 → Int32 → Int32 → Option (Unit × qW)) (k27 : qW → Int32 → Int32 → Int32 → Int32 → Int32 → Option (Unit × qW)) (hk2 : ∀ (w : qW) (l1 : Int32) (l2 : Int32) (l3 : Int32), q_Ev E Γ 8 (q_Fv E Γ cX7_weigh) 2 [some (.ref 10), some (.int l1), some (.int l2), some (.int l3), none, none, none, none] [] w (k2 w l1 l2 l3)) (hk27 : ∀ (w : qW) (l1 : Int32) (l2 : Int32) (l3 : Int32) (l4 : Int32) (l5 : Int32), q_Ev E Γ 8 (q_Fv E Γ cX7_weigh) 27 [some (.ref 10), some (.int l1), some (.int l2), some (.int l3), some (.int l4), some (.int l5), none, none] [] w (k27 w l1 l2 l3 l4 l5)) (w : qW) (l1 : Int32) (l2 : Int32) (l3 : Int32) (l4 : Int32) (l5 : Int32) : q_Ev E Γ 8 (q_Fv E Γ cX7_weigh) 27 [some (.ref 10), some (.int l1), some (.int l2), some (.int l3), some (.int l4), some (.int l5), none, none] [] w (f_X7_weigh_B27 k2 k27 w l1 l2 l3 l4 l5) := by
  unfold f_X7_weigh_B27
  refine e_iload G (pc := 27) dX7_weigh_27 rfl ?_
  refine e_iload_n G (pc := 29) dX7_weigh_29 rfl rfl ?_
  refine e_icmp_gt G (pc := 30) (tgt := 121) dX7_weigh_30 (by decide) ?_ ?_
  · refine e_iinc G (pc := 121) (x := l3) (v := l3 + 1) (L' := fun v1 => [some (.ref 10), some (.int l1), some (.int l2), some (.int v1), some (.int l4), some (.int l5), none, none]) dX7_weigh_121 (Nat.le_of_ble_eq_true rfl) rfl (by rfl) (fun _ => rfl) (fun v1 => ?_)
    refine e_goto G (pc := 124) (tgt := 2) dX7_weigh_124 (by decide) ?_
    refine e_wk (L' := [some (.ref 10), some (.int l1), some (.int l2), some (.int v1), none, none, none, none]) (And.intro rfl (And.intro rfl (And.intro rfl (And.intro rfl (trivial))))) ?_
    exact hk2 w l1 l2 v1 
  · refine e_bipush G (pc := 33) (v := 12) dX7_weigh_33 (by decide) ?_
    refine e_iload_n G (pc := 35) dX7_weigh_35 rfl rfl ?_
    refine e_imul G (pc := 36) dX7_weigh_36 ?_
    refine e_iload G (pc := 37) dX7_weigh_37 rfl ?_
    refine e_iadd G (pc := 39) dX7_weigh_39 ?_
    refine e_ti (fun v2 => ?_)
    refine e_istore G (pc := 40) (L' := [some (.ref 10), some (.int l1), some (.int l2), some (.int l3), some (.int l4), some (.int l5), some (.int v2), none]) dX7_weigh_40 (Nat.le_of_ble_eq_true rfl) rfl ?_
    refine e_aload_n G (pc := 42) dX7_weigh_42 rfl rfl ?_
    refine e_getF G (pc := 43) sh_10 rfl lk_X7_11 dX7_weigh_43 ?_
    refine e_iload G (pc := 46) dX7_weigh_46 rfl ?_
    refine e_iconst G (pc := 48) (v := 0) dX7_weigh_48 (by decide) ?_
    refine e_iast G (pc := 49) sh_11 dX7_weigh_49 (fun w3 => ?_)
    refine e_iconst G (pc := 50) (v := 0) dX7_weigh_50 (by decide) ?_
    refine e_istore G (pc := 51) (L' := [some (.ref 10), some (.int l1), some (.int l2), some (.int l3), some (.int l4), some (.int l5), some (.int v2), some (.int 0)]) dX7_weigh_51 (Nat.le_of_ble_eq_true rfl) rfl ?_
    exact t_X7_weigh_R53 G k2 k27 hk2 hk27  q_fuel w3 l1 l2 l3 l4 l5 v2 0 
set_option maxRecDepth 100000 in
set_option maxHeartbeats 4000000 in
theorem t_X7_weigh_R27 {E : qE} {Γ : qC} (G : q_Ok E Γ RX7 cX7_weigh 8 (6)) (k2 : qW → Int32 → Int32 → Int32 → Option (Unit × qW)) (hk2 : ∀ (w : qW) (l1 : Int32) (l2 : Int32) (l3 : Int32), q_Ev E Γ 8 (q_Fv E Γ cX7_weigh) 2 [some (.ref 10), some (.int l1), some (.int l2), some (.int l3), none, none, none, none] [] w (k2 w l1 l2 l3)) : ∀ (fuel : Nat) (w : qW) (l1 : Int32) (l2 : Int32) (l3 : Int32) (l4 : Int32) (l5 : Int32) , q_Ev E Γ 8 (q_Fv E Γ cX7_weigh) 27 [some (.ref 10), some (.int l1), some (.int l2), some (.int l3), some (.int l4), some (.int l5), none, none] [] w (f_X7_weigh_R27 k2 fuel w l1 l2 l3 l4 l5) := by
  intro fuel
  induction fuel with
  | zero => intros; exact e_none
  | succ fuel ih =>
    intro w l1 l2 l3 l4 l5 
    exact t_X7_weigh_B27 G k2 _ hk2 ih w l1 l2 l3 l4 l5 
set_option maxRecDepth 100000 in
set_option maxHeartbeats 4000000 in
theorem t_X7_weigh_B2 {E : qE} {Γ : qC} (G : q_Ok E Γ RX7 cX7_weigh 8 (6)) (k2 : qW → Int32 → Int32 → Int32 → Option (Unit × qW)) (hk2 : ∀ (w : qW) (l1 : Int32) (l2 : Int32) (l3 : Int32), q_Ev E Γ 8 (q_Fv E Γ cX7_weigh) 2 [some (.ref 10), some (.int l1), some (.int l2), some (.int l3), none, none, none, none] [] w (k2 w l1 l2 l3)) (w : qW) (l1 : Int32) (l2 : Int32) (l3 : Int32) : q_Ev E Γ 8 (q_Fv E Γ cX7_weigh) 2 [some (.ref 10), some (.int l1), some (.int l2), some (.int l3), none, none, none, none] [] w (f_X7_weigh_B2 k2 w l1 l2 l3) := by
  unfold f_X7_weigh_B2
  refine e_iload_n G (pc := 2) dX7_weigh_2 rfl rfl ?_
  refine e_aload_n G (pc := 3) dX7_weigh_3 rfl rfl ?_
  refine e_getF G (pc := 4) sh_10 rfl lk_X7_27 dX7_weigh_4 ?_
  refine e_getI G (pc := 7) sh_1 rfl lk_X7_68 dX7_weigh_7 ?_
  refine e_icmp_ge G (pc := 10) (tgt := 127) dX7_weigh_10 (by decide) ?_ ?_
  · exact e_vret dX7_weigh_127
  · refine e_aload_n G (pc := 13) dX7_weigh_13 rfl rfl ?_
    refine e_getF G (pc := 14) sh_10 rfl lk_X7_27 dX7_weigh_14 ?_
    refine e_iload_n G (pc := 17) dX7_weigh_17 rfl rfl ?_
    refine e_iconst G (pc := 18) (v := 4) dX7_weigh_18 (by decide) ?_
    refine e_cVi G (pc := 19) (As := [.int l3, .int 4]) (st := []) cv_X7_54 (c_X4_get w l3 4 ) sh_1 (Nat.le_of_ble_eq_true rfl) rfl (Nat.le_of_ble_eq_true rfl) dX7_weigh_19 (fun r1 w2 => ?_)
    refine e_istore G (pc := 22) (L' := [some (.ref 10), some (.int l1), some (.int l2), some (.int l3), some (.int r1), none, none, none]) dX7_weigh_22 (Nat.le_of_ble_eq_true rfl) rfl ?_
    refine e_iload_n G (pc := 24) dX7_weigh_24 rfl rfl ?_
    refine e_istore G (pc := 25) (L' := [some (.ref 10), some (.int l1), some (.int l2), some (.int l3), some (.int r1), some (.int l1), none, none]) dX7_weigh_25 (Nat.le_of_ble_eq_true rfl) rfl ?_
    exact t_X7_weigh_R27 G k2 hk2  q_fuel w2 l1 l2 l3 r1 l1 
set_option maxRecDepth 100000 in
set_option maxHeartbeats 4000000 in
theorem t_X7_weigh_R2 {E : qE} {Γ : qC} (G : q_Ok E Γ RX7 cX7_weigh 8 (6)) : ∀ (fuel : Nat) (w : qW) (l1 : Int32) (l2 : Int32) (l3 : Int32) , q_Ev E Γ 8 (q_Fv E Γ cX7_weigh) 2 [some (.ref 10), some (.int l1), some (.int l2), some (.int l3), none, none, none, none] [] w (f_X7_weigh_R2 fuel w l1 l2 l3) := by
  intro fuel
  induction fuel with
  | zero => intros; exact e_none
  | succ fuel ih =>
    intro w l1 l2 l3 
    exact t_X7_weigh_B2 G _ ih w l1 l2 l3 
set_option maxRecDepth 100000 in
set_option maxHeartbeats 4000000 in
theorem t_X7_weigh {E : qE} {Γ : qC} (G : q_Ok E Γ RX7 cX7_weigh 8 (6)) (w : qW) (a1 : Int32) (a2 : Int32) : q_Ev E Γ 8 (q_Fv E Γ cX7_weigh) 0 [some (.ref 10), some (.int a1), some (.int a2), none, none, none, none, none] [] w (f_X7_weigh w a1 a2) := by
  unfold f_X7_weigh
  refine e_iconst G (pc := 0) (v := 0) dX7_weigh_0 (by decide) ?_
  refine e_istore_n G (pc := 1) (L' := [some (.ref 10), some (.int a1), some (.int a2), some (.int 0), none, none, none, none]) dX7_weigh_1 rfl (Nat.le_of_ble_eq_true rfl) rfl ?_
  exact t_X7_weigh_R2 G  q_fuel w a1 a2 0 
set_option maxRecDepth 100000 in
set_option maxHeartbeats 4000000 in
theorem c_X7_weigh (w : qW) (a1 : Int32) (a2 : Int32) : q_AC q_vv none (6) yX7_weigh cX7_weigh 8 [.ref 10, .int a1, .int a2] w (f_X7_weigh w a1 a2) := q_met_v (k := 5) (by decide +kernel) rfl rfl rfl (fun _ _ G => t_X7_weigh G w a1 a2 )
set_option maxRecDepth 100000 in
set_option maxHeartbeats 4000000 in
theorem t_X7_leastOf {E : qE} {Γ : qC} (G : q_Ok E Γ RX7 cX7_leastOf 2 (4)) (w : qW) (a1 : Int32) : q_Ev E Γ 2 (q_Fi E Γ cX7_leastOf) 0 [some (.ref 10), some (.int a1)] [] w (f_X7_leastOf w a1) := by
  unfold f_X7_leastOf
  refine e_aload_n G (pc := 0) dX7_leastOf_0 rfl rfl ?_
  refine e_getF G (pc := 1) sh_10 rfl lk_X7_27 dX7_leastOf_1 ?_
  refine e_iload_n G (pc := 4) dX7_leastOf_4 rfl rfl ?_
  refine e_bipush G (pc := 5) (v := 12) dX7_leastOf_5 (by decide) ?_
  refine e_idiv G (pc := 7) dX7_leastOf_7 (by decide) ?_
  refine e_bipush G (pc := 8) (v := 6) dX7_leastOf_8 (by decide) ?_
  refine e_cVi G (pc := 10) (As := [.int (a1 / 12), .int 6]) (st := []) cv_X7_54 (c_X4_get w (a1 / 12) 6 ) sh_1 (Nat.le_of_ble_eq_true rfl) rfl (Nat.le_of_ble_eq_true rfl) dX7_leastOf_10 (fun r1 w2 => ?_)
  exact e_iret dX7_leastOf_13
set_option maxRecDepth 100000 in
set_option maxHeartbeats 4000000 in
theorem c_X7_leastOf (w : qW) (a1 : Int32) : q_AC q_vi (some .int) (4) yX7_leastOf cX7_leastOf 2 [.ref 10, .int a1] w (f_X7_leastOf w a1) := q_met_i (k := 0) (by decide +kernel) rfl rfl rfl (fun _ _ G => t_X7_leastOf G w a1 )
set_option maxRecDepth 100000 in
set_option maxHeartbeats 4000000 in
theorem t_X7_isServed {E : qE} {Γ : qC} (G : q_Ok E Γ RX7 cX7_isServed 2 (5)) (w : qW) (a1 : Int32) : q_Ev E Γ 2 (q_Fz E Γ cX7_isServed) 0 [some (.ref 10), some (.int a1)] [] w (f_X7_isServed w a1) := by
  unfold f_X7_isServed
  refine e_aload_n G (pc := 0) dX7_isServed_0 rfl rfl ?_
  refine e_getF G (pc := 1) sh_10 rfl lk_X7_11 dX7_isServed_1 ?_
  refine e_iload_n G (pc := 4) dX7_isServed_4 rfl rfl ?_
  refine e_iald G (pc := 5) sh_11 dX7_isServed_5 (fun v1 => ?_)
  refine e_aload_n G (pc := 6) dX7_isServed_6 rfl rfl ?_
  refine e_iload_n G (pc := 7) dX7_isServed_7 rfl rfl ?_
  refine e_cVi G (pc := 8) (As := [.int a1]) (st := [.int v1]) cv_X7_106 (c_X7_leastOf w a1 ) sh_10 (Nat.le_of_ble_eq_true rfl) rfl (Nat.le_of_ble_eq_true rfl) dX7_isServed_8 (fun r2 w3 => ?_)
  refine e_icmp_lt G (pc := 11) (tgt := 18) dX7_isServed_11 (by decide) ?_ ?_
  · refine e_iconst G (pc := 18) (v := 0) dX7_isServed_18 (by decide) ?_
    exact e_zret dX7_isServed_19
  · refine e_iconst G (pc := 14) (v := 1) dX7_isServed_14 (by decide) ?_
    refine e_goto G (pc := 15) (tgt := 19) dX7_isServed_15 (by decide) ?_
    exact e_zret dX7_isServed_19
set_option maxRecDepth 100000 in
set_option maxHeartbeats 4000000 in
theorem c_X7_isServed (w : qW) (a1 : Int32) : q_AC q_vi (some .boolean) (5) yX7_isServed cX7_isServed 2 [.ref 10, .int a1] w (f_X7_isServed w a1) := q_met_z (k := 0) (by decide +kernel) rfl rfl rfl (fun _ _ G => t_X7_isServed G w a1 )
set_option maxRecDepth 100000 in
set_option maxHeartbeats 4000000 in
theorem t_X7_hoursOf_B36 {E : qE} {Γ : qC} (G : q_Ok E Γ RX7 cX7_hoursOf 4 (7)) (k11 : qW → Int32 → Int32 → Int32 → Option (Int32 × qW)) (hk11 : ∀ (w : qW) (l1 : Int32) (l2 : Int32) (l3 : Int32), q_Ev E Γ 4 (q_Fi E Γ cX7_hoursOf) 11 [some (.ref 10), some (.int l1), some (.int l2), some (.int l3)] [] w (k11 w l1 l2 l3)) (w : qW) (l1 : Int32) (l2 : Int32) (l3 : Int32) : q_Ev E Γ 4 (q_Fi E Γ cX7_hoursOf) 36 [some (.ref 10), some (.int l1), some (.int l2), some (.int l3)] [] w (f_X7_hoursOf_B36 k11 w l1 l2 l3) := by
  unfold f_X7_hoursOf_B36
  refine e_iinc G (pc := 36) (x := l3) (v := l3 + 1) (L' := fun v1 => [some (.ref 10), some (.int l1), some (.int l2), some (.int v1)]) dX7_hoursOf_36 (Nat.le_of_ble_eq_true rfl) rfl (by rfl) (fun _ => rfl) (fun v1 => ?_)
  refine e_goto G (pc := 39) (tgt := 11) dX7_hoursOf_39 (by decide) ?_
  exact hk11 w l1 l2 v1 
set_option maxRecDepth 100000 in
set_option maxHeartbeats 4000000 in
theorem t_X7_hoursOf_B11 {E : qE} {Γ : qC} (G : q_Ok E Γ RX7 cX7_hoursOf 4 (7)) (k11 : qW → Int32 → Int32 → Int32 → Option (Int32 × qW)) (hk11 : ∀ (w : qW) (l1 : Int32) (l2 : Int32) (l3 : Int32), q_Ev E Γ 4 (q_Fi E Γ cX7_hoursOf) 11 [some (.ref 10), some (.int l1), some (.int l2), some (.int l3)] [] w (k11 w l1 l2 l3)) (w : qW) (l1 : Int32) (l2 : Int32) (l3 : Int32) : q_Ev E Γ 4 (q_Fi E Γ cX7_hoursOf) 11 [some (.ref 10), some (.int l1), some (.int l2), some (.int l3)] [] w (f_X7_hoursOf_B11 k11 w l1 l2 l3) := by
  unfold f_X7_hoursOf_B11
  refine e_iload_n G (pc := 11) dX7_hoursOf_11 rfl rfl ?_
  refine e_bipush G (pc := 12) (v := 12) dX7_hoursOf_12 (by decide) ?_
  refine e_icmp_ge G (pc := 14) (tgt := 42) dX7_hoursOf_14 (by decide) ?_ ?_
  · refine e_iload_n G (pc := 42) dX7_hoursOf_42 rfl rfl ?_
    exact e_iret dX7_hoursOf_43
  · refine e_aload_n G (pc := 17) dX7_hoursOf_17 rfl rfl ?_
    refine e_bipush G (pc := 18) (v := 12) dX7_hoursOf_18 (by decide) ?_
    refine e_iload_n G (pc := 20) dX7_hoursOf_20 rfl rfl ?_
    refine e_imul G (pc := 21) dX7_hoursOf_21 ?_
    refine e_iload_n G (pc := 22) dX7_hoursOf_22 rfl rfl ?_
    refine e_iadd G (pc := 23) dX7_hoursOf_23 ?_
    refine e_cVi G (pc := 24) (As := [.int (((12 : Int32) * l1) + l3)]) (st := []) cv_X7_50 (c_X7_isServed w (((12 : Int32) * l1) + l3) ) sh_10 (Nat.le_of_ble_eq_true rfl) rfl (Nat.le_of_ble_eq_true rfl) dX7_hoursOf_24 (fun r1 w2 => ?_)
    refine e_if_eq G (pc := 27) (tgt := 36) dX7_hoursOf_27 (by decide) ?_ ?_
    · exact t_X7_hoursOf_B36 G k11 hk11 w2 l1 l2 l3 
    · refine e_iload_n G (pc := 30) dX7_hoursOf_30 rfl rfl ?_
      refine e_iconst G (pc := 31) (v := 1) dX7_hoursOf_31 (by decide) ?_
      refine e_iload_n G (pc := 32) dX7_hoursOf_32 rfl rfl ?_
      refine e_ishl G (pc := 33) dX7_hoursOf_33 ?_
      refine e_ior G (pc := 34) dX7_hoursOf_34 ?_
      refine e_ti (fun v3 => ?_)
      refine e_istore_n G (pc := 35) (L' := [some (.ref 10), some (.int l1), some (.int v3), some (.int l3)]) dX7_hoursOf_35 rfl (Nat.le_of_ble_eq_true rfl) rfl ?_
      exact t_X7_hoursOf_B36 G k11 hk11 w2 l1 v3 l3 
set_option maxRecDepth 100000 in
set_option maxHeartbeats 4000000 in
theorem t_X7_hoursOf_R11 {E : qE} {Γ : qC} (G : q_Ok E Γ RX7 cX7_hoursOf 4 (7)) : ∀ (fuel : Nat) (w : qW) (l1 : Int32) (l2 : Int32) (l3 : Int32) , q_Ev E Γ 4 (q_Fi E Γ cX7_hoursOf) 11 [some (.ref 10), some (.int l1), some (.int l2), some (.int l3)] [] w (f_X7_hoursOf_R11 fuel w l1 l2 l3) := by
  intro fuel
  induction fuel with
  | zero => intros; exact e_none
  | succ fuel ih =>
    intro w l1 l2 l3 
    exact t_X7_hoursOf_B11 G _ ih w l1 l2 l3 
set_option maxRecDepth 100000 in
set_option maxHeartbeats 4000000 in
theorem t_X7_hoursOf {E : qE} {Γ : qC} (G : q_Ok E Γ RX7 cX7_hoursOf 4 (7)) (w : qW) (a1 : Int32) : q_Ev E Γ 4 (q_Fi E Γ cX7_hoursOf) 0 [some (.ref 10), some (.int a1), none, none] [] w (f_X7_hoursOf w a1) := by
  unfold f_X7_hoursOf
  refine e_aload_n G (pc := 0) dX7_hoursOf_0 rfl rfl ?_
  refine e_iconst G (pc := 1) (v := 0) dX7_hoursOf_1 (by decide) ?_
  refine e_bipush G (pc := 2) (v := 11) dX7_hoursOf_2 (by decide) ?_
  refine e_cVv G (pc := 4) (As := [.int 0, .int 11]) (st := []) cv_X7_46 (c_X7_weigh w 0 11 ) sh_10 (Nat.le_of_ble_eq_true rfl) rfl (Nat.le_of_ble_eq_true rfl) dX7_hoursOf_4 (fun r1 w2 => ?_)
  refine e_iconst G (pc := 7) (v := 0) dX7_hoursOf_7 (by decide) ?_
  refine e_istore_n G (pc := 8) (L' := [some (.ref 10), some (.int a1), some (.int 0), none]) dX7_hoursOf_8 rfl (Nat.le_of_ble_eq_true rfl) rfl ?_
  refine e_iconst G (pc := 9) (v := 0) dX7_hoursOf_9 (by decide) ?_
  refine e_istore_n G (pc := 10) (L' := [some (.ref 10), some (.int a1), some (.int 0), some (.int 0)]) dX7_hoursOf_10 rfl (Nat.le_of_ble_eq_true rfl) rfl ?_
  exact t_X7_hoursOf_R11 G  q_fuel w2 a1 0 0 
set_option maxRecDepth 100000 in
set_option maxHeartbeats 4000000 in
theorem c_X7_hoursOf (w : qW) (a1 : Int32) : q_AC q_vi (some .int) (7) yX7_hoursOf cX7_hoursOf 4 [.ref 10, .int a1] w (f_X7_hoursOf w a1) := q_met_i (k := 2) (by decide +kernel) rfl rfl rfl (fun _ _ G => t_X7_hoursOf G w a1 )
set_option maxRecDepth 100000 in
set_option maxHeartbeats 4000000 in
theorem t_X7_missesOf {E : qE} {Γ : qC} (G : q_Ok E Γ RX7 cX7_missesOf 2 (8)) (w : qW) (a1 : Int32) : q_Ev E Γ 2 (q_Fi E Γ cX7_missesOf) 0 [some (.ref 10), some (.int a1)] [] w (f_X7_missesOf w a1) := by
  unfold f_X7_missesOf
  refine e_aload_n G (pc := 0) dX7_missesOf_0 rfl rfl ?_
  refine e_getF G (pc := 1) sh_10 rfl lk_X7_27 dX7_missesOf_1 ?_
  refine e_iload_n G (pc := 4) dX7_missesOf_4 rfl rfl ?_
  refine e_iconst G (pc := 5) (v := 5) dX7_missesOf_5 (by decide) ?_
  refine e_cVi G (pc := 6) (As := [.int a1, .int 5]) (st := []) cv_X7_54 (c_X4_get w a1 5 ) sh_1 (Nat.le_of_ble_eq_true rfl) rfl (Nat.le_of_ble_eq_true rfl) dX7_missesOf_6 (fun r1 w2 => ?_)
  refine e_aload_n G (pc := 9) dX7_missesOf_9 rfl rfl ?_
  refine e_iload_n G (pc := 10) dX7_missesOf_10 rfl rfl ?_
  refine e_cVi G (pc := 11) (As := [.int a1]) (st := [.int r1]) cv_X7_59 (c_X7_hoursOf w2 a1 ) sh_10 (Nat.le_of_ble_eq_true rfl) rfl (Nat.le_of_ble_eq_true rfl) dX7_missesOf_11 (fun r3 w4 => ?_)
  refine e_iconst G (pc := 14) (v := (-1)) dX7_missesOf_14 (by decide) ?_
  refine e_ixor G (pc := 15) dX7_missesOf_15 ?_
  refine e_iand G (pc := 16) dX7_missesOf_16 ?_
  refine e_cSi G (pc := 17) (ci := 0) (id := 0) (sl := []) (As := [.int (r1 &&& (r3 ^^^ (-1)))]) (st := []) cs_X7_63 (c_J6_bitCount_0f7a4 w4 (r1 &&& (r3 ^^^ (-1))) ) (Nat.le_of_ble_eq_true rfl) rfl (Nat.le_of_ble_eq_true rfl) dX7_missesOf_17 (fun r5 w6 => ?_)
  exact e_iret dX7_missesOf_20
set_option maxRecDepth 100000 in
set_option maxHeartbeats 4000000 in
theorem c_X7_missesOf (w : qW) (a1 : Int32) : q_AC q_vi (some .int) (8) yX7_missesOf cX7_missesOf 2 [.ref 10, .int a1] w (f_X7_missesOf w a1) := q_met_i (k := 0) (by decide +kernel) rfl rfl rfl (fun _ _ G => t_X7_missesOf G w a1 )
set_option maxRecDepth 100000 in
set_option maxHeartbeats 4000000 in
theorem t_X7_isWanted {E : qE} {Γ : qC} (G : q_Ok E Γ RX7 cX7_isWanted 2 (4)) (w : qW) (a1 : Int32) : q_Ev E Γ 2 (q_Fz E Γ cX7_isWanted) 0 [some (.ref 10), some (.int a1)] [] w (f_X7_isWanted w a1) := by
  unfold f_X7_isWanted
  refine e_aload_n G (pc := 0) dX7_isWanted_0 rfl rfl ?_
  refine e_getF G (pc := 1) sh_10 rfl lk_X7_27 dX7_isWanted_1 ?_
  refine e_iload_n G (pc := 4) dX7_isWanted_4 rfl rfl ?_
  refine e_bipush G (pc := 5) (v := 12) dX7_isWanted_5 (by decide) ?_
  refine e_idiv G (pc := 7) dX7_isWanted_7 (by decide) ?_
  refine e_iconst G (pc := 8) (v := 5) dX7_isWanted_8 (by decide) ?_
  refine e_cVi G (pc := 9) (As := [.int (a1 / 12), .int 5]) (st := []) cv_X7_54 (c_X4_get w (a1 / 12) 5 ) sh_1 (Nat.le_of_ble_eq_true rfl) rfl (Nat.le_of_ble_eq_true rfl) dX7_isWanted_9 (fun r1 w2 => ?_)
  refine e_iload_n G (pc := 12) dX7_isWanted_12 rfl rfl ?_
  refine e_bipush G (pc := 13) (v := 12) dX7_isWanted_13 (by decide) ?_
  refine e_irem G (pc := 15) dX7_isWanted_15 (by decide) ?_
  refine e_ishr G (pc := 16) dX7_isWanted_16 ?_
  refine e_iconst G (pc := 17) (v := 1) dX7_isWanted_17 (by decide) ?_
  refine e_iand G (pc := 18) dX7_isWanted_18 ?_
  refine e_if_eq G (pc := 19) (tgt := 26) dX7_isWanted_19 (by decide) ?_ ?_
  · refine e_iconst G (pc := 26) (v := 0) dX7_isWanted_26 (by decide) ?_
    exact e_zret dX7_isWanted_27
  · refine e_iconst G (pc := 22) (v := 1) dX7_isWanted_22 (by decide) ?_
    refine e_goto G (pc := 23) (tgt := 27) dX7_isWanted_23 (by decide) ?_
    exact e_zret dX7_isWanted_27
set_option maxRecDepth 100000 in
set_option maxHeartbeats 4000000 in
theorem c_X7_isWanted (w : qW) (a1 : Int32) : q_AC q_vi (some .boolean) (4) yX7_isWanted cX7_isWanted 2 [.ref 10, .int a1] w (f_X7_isWanted w a1) := q_met_z (k := 0) (by decide +kernel) rfl rfl rfl (fun _ _ G => t_X7_isWanted G w a1 )
set_option maxRecDepth 100000 in
set_option maxHeartbeats 4000000 in
theorem t_X7_missesOfAll_B44 {E : qE} {Γ : qC} (G : q_Ok E Γ RX7 cX7_missesOfAll 3 (7)) (k11 : qW → Int32 → Int32 → Option (Int32 × qW)) (hk11 : ∀ (w : qW) (l1 : Int32) (l2 : Int32), q_Ev E Γ 3 (q_Fi E Γ cX7_missesOfAll) 11 [some (.ref 10), some (.int l1), some (.int l2)] [] w (k11 w l1 l2)) (w : qW) (l1 : Int32) (l2 : Int32) : q_Ev E Γ 3 (q_Fi E Γ cX7_missesOfAll) 44 [some (.ref 10), some (.int l1), some (.int l2)] [] w (f_X7_missesOfAll_B44 k11 w l1 l2) := by
  unfold f_X7_missesOfAll_B44
  refine e_iinc G (pc := 44) (x := l2) (v := l2 + 1) (L' := fun v1 => [some (.ref 10), some (.int l1), some (.int v1)]) dX7_missesOfAll_44 (Nat.le_of_ble_eq_true rfl) rfl (by rfl) (fun _ => rfl) (fun v1 => ?_)
  refine e_goto G (pc := 47) (tgt := 11) dX7_missesOfAll_47 (by decide) ?_
  exact hk11 w l1 v1 
set_option maxRecDepth 100000 in
set_option maxHeartbeats 4000000 in
theorem t_X7_missesOfAll_B11 {E : qE} {Γ : qC} (G : q_Ok E Γ RX7 cX7_missesOfAll 3 (7)) (k11 : qW → Int32 → Int32 → Option (Int32 × qW)) (hk11 : ∀ (w : qW) (l1 : Int32) (l2 : Int32), q_Ev E Γ 3 (q_Fi E Γ cX7_missesOfAll) 11 [some (.ref 10), some (.int l1), some (.int l2)] [] w (k11 w l1 l2)) (w : qW) (l1 : Int32) (l2 : Int32) : q_Ev E Γ 3 (q_Fi E Γ cX7_missesOfAll) 11 [some (.ref 10), some (.int l1), some (.int l2)] [] w (f_X7_missesOfAll_B11 k11 w l1 l2) := by
  unfold f_X7_missesOfAll_B11
  refine e_iload_n G (pc := 11) dX7_missesOfAll_11 rfl rfl ?_
  refine e_bipush G (pc := 12) (v := 12) dX7_missesOfAll_12 (by decide) ?_
  refine e_aload_n G (pc := 14) dX7_missesOfAll_14 rfl rfl ?_
  refine e_getF G (pc := 15) sh_10 rfl lk_X7_27 dX7_missesOfAll_15 ?_
  refine e_getI G (pc := 18) sh_1 rfl lk_X7_68 dX7_missesOfAll_18 ?_
  refine e_imul G (pc := 21) dX7_missesOfAll_21 ?_
  refine e_icmp_ge G (pc := 22) (tgt := 50) dX7_missesOfAll_22 (by decide) ?_ ?_
  · refine e_iload_n G (pc := 50) dX7_missesOfAll_50 rfl rfl ?_
    exact e_iret dX7_missesOfAll_51
  · refine e_aload_n G (pc := 25) dX7_missesOfAll_25 rfl rfl ?_
    refine e_iload_n G (pc := 26) dX7_missesOfAll_26 rfl rfl ?_
    refine e_cVi G (pc := 27) (As := [.int l2]) (st := []) cv_X7_72 (c_X7_isWanted w l2 ) sh_10 (Nat.le_of_ble_eq_true rfl) rfl (Nat.le_of_ble_eq_true rfl) dX7_missesOfAll_27 (fun r1 w2 => ?_)
    refine e_if_eq G (pc := 30) (tgt := 44) dX7_missesOfAll_30 (by decide) ?_ ?_
    · exact t_X7_missesOfAll_B44 G k11 hk11 w2 l1 l2 
    · refine e_aload_n G (pc := 33) dX7_missesOfAll_33 rfl rfl ?_
      refine e_iload_n G (pc := 34) dX7_missesOfAll_34 rfl rfl ?_
      refine e_cVi G (pc := 35) (As := [.int l2]) (st := []) cv_X7_50 (c_X7_isServed w2 l2 ) sh_10 (Nat.le_of_ble_eq_true rfl) rfl (Nat.le_of_ble_eq_true rfl) dX7_missesOfAll_35 (fun r3 w4 => ?_)
      refine e_if_ne G (pc := 38) (tgt := 44) dX7_missesOfAll_38 (by decide) ?_ ?_
      · exact t_X7_missesOfAll_B44 G k11 hk11 w4 l1 l2 
      · refine e_iinc G (pc := 41) (x := l1) (v := l1 + 1) (L' := fun v5 => [some (.ref 10), some (.int v5), some (.int l2)]) dX7_missesOfAll_41 (Nat.le_of_ble_eq_true rfl) rfl (by rfl) (fun _ => rfl) (fun v5 => ?_)
        exact t_X7_missesOfAll_B44 G k11 hk11 w4 v5 l2 
set_option maxRecDepth 100000 in
set_option maxHeartbeats 4000000 in
theorem t_X7_missesOfAll_R11 {E : qE} {Γ : qC} (G : q_Ok E Γ RX7 cX7_missesOfAll 3 (7)) : ∀ (fuel : Nat) (w : qW) (l1 : Int32) (l2 : Int32) , q_Ev E Γ 3 (q_Fi E Γ cX7_missesOfAll) 11 [some (.ref 10), some (.int l1), some (.int l2)] [] w (f_X7_missesOfAll_R11 fuel w l1 l2) := by
  intro fuel
  induction fuel with
  | zero => intros; exact e_none
  | succ fuel ih =>
    intro w l1 l2 
    exact t_X7_missesOfAll_B11 G _ ih w l1 l2 
set_option maxRecDepth 100000 in
set_option maxHeartbeats 4000000 in
theorem t_X7_missesOfAll {E : qE} {Γ : qC} (G : q_Ok E Γ RX7 cX7_missesOfAll 3 (7)) (w : qW) : q_Ev E Γ 3 (q_Fi E Γ cX7_missesOfAll) 0 [some (.ref 10), none, none] [] w (f_X7_missesOfAll w ) := by
  unfold f_X7_missesOfAll
  refine e_aload_n G (pc := 0) dX7_missesOfAll_0 rfl rfl ?_
  refine e_iconst G (pc := 1) (v := 0) dX7_missesOfAll_1 (by decide) ?_
  refine e_bipush G (pc := 2) (v := 11) dX7_missesOfAll_2 (by decide) ?_
  refine e_cVv G (pc := 4) (As := [.int 0, .int 11]) (st := []) cv_X7_46 (c_X7_weigh w 0 11 ) sh_10 (Nat.le_of_ble_eq_true rfl) rfl (Nat.le_of_ble_eq_true rfl) dX7_missesOfAll_4 (fun r1 w2 => ?_)
  refine e_iconst G (pc := 7) (v := 0) dX7_missesOfAll_7 (by decide) ?_
  refine e_istore_n G (pc := 8) (L' := [some (.ref 10), some (.int 0), none]) dX7_missesOfAll_8 rfl (Nat.le_of_ble_eq_true rfl) rfl ?_
  refine e_iconst G (pc := 9) (v := 0) dX7_missesOfAll_9 (by decide) ?_
  refine e_istore_n G (pc := 10) (L' := [some (.ref 10), some (.int 0), some (.int 0)]) dX7_missesOfAll_10 rfl (Nat.le_of_ble_eq_true rfl) rfl ?_
  exact t_X7_missesOfAll_R11 G  q_fuel w2 0 0 
set_option maxRecDepth 100000 in
set_option maxHeartbeats 4000000 in
theorem c_X7_missesOfAll (w : qW) : q_AC q_vi (some .int) (7) yX7_missesOfAll cX7_missesOfAll 3 [.ref 10] w (f_X7_missesOfAll w ) := q_met_i (k := 2) (by decide +kernel) rfl rfl rfl (fun _ _ G => t_X7_missesOfAll G w  )
set_option maxRecDepth 100000 in
set_option maxHeartbeats 4000000 in
theorem t_X7_servedAt_B40 {E : qE} {Γ : qC} (G : q_Ok E Γ RX7 cX7_servedAt 4 (7)) (k10 : qW → Int32 → Int32 → Int32 → Option (Int32 × qW)) (hk10 : ∀ (w : qW) (l1 : Int32) (l2 : Int32) (l3 : Int32), q_Ev E Γ 4 (q_Fi E Γ cX7_servedAt) 10 [some (.ref 10), some (.int l1), some (.int l2), some (.int l3)] [] w (k10 w l1 l2 l3)) (w : qW) (l1 : Int32) (l2 : Int32) (l3 : Int32) : q_Ev E Γ 4 (q_Fi E Γ cX7_servedAt) 40 [some (.ref 10), some (.int l1), some (.int l2), some (.int l3)] [] w (f_X7_servedAt_B40 k10 w l1 l2 l3) := by
  unfold f_X7_servedAt_B40
  refine e_iinc G (pc := 40) (x := l3) (v := l3 + 1) (L' := fun v1 => [some (.ref 10), some (.int l1), some (.int l2), some (.int v1)]) dX7_servedAt_40 (Nat.le_of_ble_eq_true rfl) rfl (by rfl) (fun _ => rfl) (fun v1 => ?_)
  refine e_goto G (pc := 43) (tgt := 10) dX7_servedAt_43 (by decide) ?_
  exact hk10 w l1 l2 v1 
set_option maxRecDepth 100000 in
set_option maxHeartbeats 4000000 in
theorem t_X7_servedAt_B10 {E : qE} {Γ : qC} (G : q_Ok E Γ RX7 cX7_servedAt 4 (7)) (k10 : qW → Int32 → Int32 → Int32 → Option (Int32 × qW)) (hk10 : ∀ (w : qW) (l1 : Int32) (l2 : Int32) (l3 : Int32), q_Ev E Γ 4 (q_Fi E Γ cX7_servedAt) 10 [some (.ref 10), some (.int l1), some (.int l2), some (.int l3)] [] w (k10 w l1 l2 l3)) (w : qW) (l1 : Int32) (l2 : Int32) (l3 : Int32) : q_Ev E Γ 4 (q_Fi E Γ cX7_servedAt) 10 [some (.ref 10), some (.int l1), some (.int l2), some (.int l3)] [] w (f_X7_servedAt_B10 k10 w l1 l2 l3) := by
  unfold f_X7_servedAt_B10
  refine e_iload_n G (pc := 10) dX7_servedAt_10 rfl rfl ?_
  refine e_aload_n G (pc := 11) dX7_servedAt_11 rfl rfl ?_
  refine e_getF G (pc := 12) sh_10 rfl lk_X7_27 dX7_servedAt_12 ?_
  refine e_getI G (pc := 15) sh_1 rfl lk_X7_68 dX7_servedAt_15 ?_
  refine e_icmp_ge G (pc := 18) (tgt := 46) dX7_servedAt_18 (by decide) ?_ ?_
  · refine e_iload_n G (pc := 46) dX7_servedAt_46 rfl rfl ?_
    exact e_iret dX7_servedAt_47
  · refine e_aload_n G (pc := 21) dX7_servedAt_21 rfl rfl ?_
    refine e_bipush G (pc := 22) (v := 12) dX7_servedAt_22 (by decide) ?_
    refine e_iload_n G (pc := 24) dX7_servedAt_24 rfl rfl ?_
    refine e_imul G (pc := 25) dX7_servedAt_25 ?_
    refine e_iload_n G (pc := 26) dX7_servedAt_26 rfl rfl ?_
    refine e_iadd G (pc := 27) dX7_servedAt_27 ?_
    refine e_cVi G (pc := 28) (As := [.int (((12 : Int32) * l3) + l1)]) (st := []) cv_X7_50 (c_X7_isServed w (((12 : Int32) * l3) + l1) ) sh_10 (Nat.le_of_ble_eq_true rfl) rfl (Nat.le_of_ble_eq_true rfl) dX7_servedAt_28 (fun r1 w2 => ?_)
    refine e_if_eq G (pc := 31) (tgt := 40) dX7_servedAt_31 (by decide) ?_ ?_
    · exact t_X7_servedAt_B40 G k10 hk10 w2 l1 l2 l3 
    · refine e_iload_n G (pc := 34) dX7_servedAt_34 rfl rfl ?_
      refine e_iconst G (pc := 35) (v := 1) dX7_servedAt_35 (by decide) ?_
      refine e_iload_n G (pc := 36) dX7_servedAt_36 rfl rfl ?_
      refine e_ishl G (pc := 37) dX7_servedAt_37 ?_
      refine e_ior G (pc := 38) dX7_servedAt_38 ?_
      refine e_ti (fun v3 => ?_)
      refine e_istore_n G (pc := 39) (L' := [some (.ref 10), some (.int l1), some (.int v3), some (.int l3)]) dX7_servedAt_39 rfl (Nat.le_of_ble_eq_true rfl) rfl ?_
      exact t_X7_servedAt_B40 G k10 hk10 w2 l1 v3 l3 
set_option maxRecDepth 100000 in
set_option maxHeartbeats 4000000 in
theorem t_X7_servedAt_R10 {E : qE} {Γ : qC} (G : q_Ok E Γ RX7 cX7_servedAt 4 (7)) : ∀ (fuel : Nat) (w : qW) (l1 : Int32) (l2 : Int32) (l3 : Int32) , q_Ev E Γ 4 (q_Fi E Γ cX7_servedAt) 10 [some (.ref 10), some (.int l1), some (.int l2), some (.int l3)] [] w (f_X7_servedAt_R10 fuel w l1 l2 l3) := by
  intro fuel
  induction fuel with
  | zero => intros; exact e_none
  | succ fuel ih =>
    intro w l1 l2 l3 
    exact t_X7_servedAt_B10 G _ ih w l1 l2 l3 
set_option maxRecDepth 100000 in
set_option maxHeartbeats 4000000 in
theorem t_X7_servedAt {E : qE} {Γ : qC} (G : q_Ok E Γ RX7 cX7_servedAt 4 (7)) (w : qW) (a1 : Int32) : q_Ev E Γ 4 (q_Fi E Γ cX7_servedAt) 0 [some (.ref 10), some (.int a1), none, none] [] w (f_X7_servedAt w a1) := by
  unfold f_X7_servedAt
  refine e_aload_n G (pc := 0) dX7_servedAt_0 rfl rfl ?_
  refine e_iload_n G (pc := 1) dX7_servedAt_1 rfl rfl ?_
  refine e_iload_n G (pc := 2) dX7_servedAt_2 rfl rfl ?_
  refine e_cVv G (pc := 3) (As := [.int a1, .int a1]) (st := []) cv_X7_46 (c_X7_weigh w a1 a1 ) sh_10 (Nat.le_of_ble_eq_true rfl) rfl (Nat.le_of_ble_eq_true rfl) dX7_servedAt_3 (fun r1 w2 => ?_)
  refine e_iconst G (pc := 6) (v := 0) dX7_servedAt_6 (by decide) ?_
  refine e_istore_n G (pc := 7) (L' := [some (.ref 10), some (.int a1), some (.int 0), none]) dX7_servedAt_7 rfl (Nat.le_of_ble_eq_true rfl) rfl ?_
  refine e_iconst G (pc := 8) (v := 0) dX7_servedAt_8 (by decide) ?_
  refine e_istore_n G (pc := 9) (L' := [some (.ref 10), some (.int a1), some (.int 0), some (.int 0)]) dX7_servedAt_9 rfl (Nat.le_of_ble_eq_true rfl) rfl ?_
  exact t_X7_servedAt_R10 G  q_fuel w2 a1 0 0 
set_option maxRecDepth 100000 in
set_option maxHeartbeats 4000000 in
theorem c_X7_servedAt (w : qW) (a1 : Int32) : q_AC q_vi (some .int) (7) yX7_servedAt cX7_servedAt 4 [.ref 10, .int a1] w (f_X7_servedAt w a1) := q_met_i (k := 2) (by decide +kernel) rfl rfl rfl (fun _ _ G => t_X7_servedAt G w a1 )
set_option maxRecDepth 100000 in
set_option maxHeartbeats 4000000 in
theorem t_X7_missingAt_B44 {E : qE} {Γ : qC} (G : q_Ok E Γ RX7 cX7_missingAt 5 (8)) (k11 : qW → Int32 → Int32 → Int32 → Int32 → Option (Int32 × qW)) (hk11 : ∀ (w : qW) (l1 : Int32) (l2 : Int32) (l3 : Int32) (l4 : Int32), q_Ev E Γ 5 (q_Fi E Γ cX7_missingAt) 11 [some (.ref 10), some (.int l1), some (.int l2), some (.int l3), some (.int l4)] [] w (k11 w l1 l2 l3 l4)) (w : qW) (l1 : Int32) (l2 : Int32) (l3 : Int32) (l4 : Int32) : q_Ev E Γ 5 (q_Fi E Γ cX7_missingAt) 44 [some (.ref 10), some (.int l1), some (.int l2), some (.int l3), some (.int l4)] [] w (f_X7_missingAt_B44 k11 w l1 l2 l3 l4) := by
  unfold f_X7_missingAt_B44
  refine e_iinc G (pc := 44) (x := l4) (v := l4 + 1) (L' := fun v1 => [some (.ref 10), some (.int l1), some (.int l2), some (.int l3), some (.int v1)]) dX7_missingAt_44 (Nat.le_of_ble_eq_true rfl) rfl (by rfl) (fun _ => rfl) (fun v1 => ?_)
  refine e_goto G (pc := 47) (tgt := 11) dX7_missingAt_47 (by decide) ?_
  exact hk11 w l1 l2 l3 v1 
set_option maxRecDepth 100000 in
set_option maxHeartbeats 4000000 in
theorem t_X7_missingAt_B11 {E : qE} {Γ : qC} (G : q_Ok E Γ RX7 cX7_missingAt 5 (8)) (k11 : qW → Int32 → Int32 → Int32 → Int32 → Option (Int32 × qW)) (hk11 : ∀ (w : qW) (l1 : Int32) (l2 : Int32) (l3 : Int32) (l4 : Int32), q_Ev E Γ 5 (q_Fi E Γ cX7_missingAt) 11 [some (.ref 10), some (.int l1), some (.int l2), some (.int l3), some (.int l4)] [] w (k11 w l1 l2 l3 l4)) (w : qW) (l1 : Int32) (l2 : Int32) (l3 : Int32) (l4 : Int32) : q_Ev E Γ 5 (q_Fi E Γ cX7_missingAt) 11 [some (.ref 10), some (.int l1), some (.int l2), some (.int l3), some (.int l4)] [] w (f_X7_missingAt_B11 k11 w l1 l2 l3 l4) := by
  unfold f_X7_missingAt_B11
  refine e_iload G (pc := 11) dX7_missingAt_11 rfl ?_
  refine e_aload_n G (pc := 13) dX7_missingAt_13 rfl rfl ?_
  refine e_getF G (pc := 14) sh_10 rfl lk_X7_27 dX7_missingAt_14 ?_
  refine e_getI G (pc := 17) sh_1 rfl lk_X7_68 dX7_missingAt_17 ?_
  refine e_icmp_ge G (pc := 20) (tgt := 50) dX7_missingAt_20 (by decide) ?_ ?_
  · refine e_iload_n G (pc := 50) dX7_missingAt_50 rfl rfl ?_
    refine e_iload_n G (pc := 51) dX7_missingAt_51 rfl rfl ?_
    refine e_iconst G (pc := 52) (v := (-1)) dX7_missingAt_52 (by decide) ?_
    refine e_ixor G (pc := 53) dX7_missingAt_53 ?_
    refine e_iand G (pc := 54) dX7_missingAt_54 ?_
    exact e_iret dX7_missingAt_55
  · refine e_aload_n G (pc := 23) dX7_missingAt_23 rfl rfl ?_
    refine e_bipush G (pc := 24) (v := 12) dX7_missingAt_24 (by decide) ?_
    refine e_iload G (pc := 26) dX7_missingAt_26 rfl ?_
    refine e_imul G (pc := 28) dX7_missingAt_28 ?_
    refine e_iload_n G (pc := 29) dX7_missingAt_29 rfl rfl ?_
    refine e_iadd G (pc := 30) dX7_missingAt_30 ?_
    refine e_cVi G (pc := 31) (As := [.int (((12 : Int32) * l4) + l1)]) (st := []) cv_X7_72 (c_X7_isWanted w (((12 : Int32) * l4) + l1) ) sh_10 (Nat.le_of_ble_eq_true rfl) rfl (Nat.le_of_ble_eq_true rfl) dX7_missingAt_31 (fun r1 w2 => ?_)
    refine e_if_eq G (pc := 34) (tgt := 44) dX7_missingAt_34 (by decide) ?_ ?_
    · exact t_X7_missingAt_B44 G k11 hk11 w2 l1 l2 l3 l4 
    · refine e_iload_n G (pc := 37) dX7_missingAt_37 rfl rfl ?_
      refine e_iconst G (pc := 38) (v := 1) dX7_missingAt_38 (by decide) ?_
      refine e_iload G (pc := 39) dX7_missingAt_39 rfl ?_
      refine e_ishl G (pc := 41) dX7_missingAt_41 ?_
      refine e_ior G (pc := 42) dX7_missingAt_42 ?_
      refine e_ti (fun v3 => ?_)
      refine e_istore_n G (pc := 43) (L' := [some (.ref 10), some (.int l1), some (.int l2), some (.int v3), some (.int l4)]) dX7_missingAt_43 rfl (Nat.le_of_ble_eq_true rfl) rfl ?_
      exact t_X7_missingAt_B44 G k11 hk11 w2 l1 l2 v3 l4 
set_option maxRecDepth 100000 in
set_option maxHeartbeats 4000000 in
theorem t_X7_missingAt_R11 {E : qE} {Γ : qC} (G : q_Ok E Γ RX7 cX7_missingAt 5 (8)) : ∀ (fuel : Nat) (w : qW) (l1 : Int32) (l2 : Int32) (l3 : Int32) (l4 : Int32) , q_Ev E Γ 5 (q_Fi E Γ cX7_missingAt) 11 [some (.ref 10), some (.int l1), some (.int l2), some (.int l3), some (.int l4)] [] w (f_X7_missingAt_R11 fuel w l1 l2 l3 l4) := by
  intro fuel
  induction fuel with
  | zero => intros; exact e_none
  | succ fuel ih =>
    intro w l1 l2 l3 l4 
    exact t_X7_missingAt_B11 G _ ih w l1 l2 l3 l4 
set_option maxRecDepth 100000 in
set_option maxHeartbeats 4000000 in
theorem t_X7_missingAt {E : qE} {Γ : qC} (G : q_Ok E Γ RX7 cX7_missingAt 5 (8)) (w : qW) (a1 : Int32) : q_Ev E Γ 5 (q_Fi E Γ cX7_missingAt) 0 [some (.ref 10), some (.int a1), none, none, none] [] w (f_X7_missingAt w a1) := by
  unfold f_X7_missingAt
  refine e_aload_n G (pc := 0) dX7_missingAt_0 rfl rfl ?_
  refine e_iload_n G (pc := 1) dX7_missingAt_1 rfl rfl ?_
  refine e_cVi G (pc := 2) (As := [.int a1]) (st := []) cv_X7_75 (c_X7_servedAt w a1 ) sh_10 (Nat.le_of_ble_eq_true rfl) rfl (Nat.le_of_ble_eq_true rfl) dX7_missingAt_2 (fun r1 w2 => ?_)
  refine e_istore_n G (pc := 5) (L' := [some (.ref 10), some (.int a1), some (.int r1), none, none]) dX7_missingAt_5 rfl (Nat.le_of_ble_eq_true rfl) rfl ?_
  refine e_iconst G (pc := 6) (v := 0) dX7_missingAt_6 (by decide) ?_
  refine e_istore_n G (pc := 7) (L' := [some (.ref 10), some (.int a1), some (.int r1), some (.int 0), none]) dX7_missingAt_7 rfl (Nat.le_of_ble_eq_true rfl) rfl ?_
  refine e_iconst G (pc := 8) (v := 0) dX7_missingAt_8 (by decide) ?_
  refine e_istore G (pc := 9) (L' := [some (.ref 10), some (.int a1), some (.int r1), some (.int 0), some (.int 0)]) dX7_missingAt_9 (Nat.le_of_ble_eq_true rfl) rfl ?_
  exact t_X7_missingAt_R11 G  q_fuel w2 a1 r1 0 0 
set_option maxRecDepth 100000 in
set_option maxHeartbeats 4000000 in
theorem c_X7_missingAt (w : qW) (a1 : Int32) : q_AC q_vi (some .int) (8) yX7_missingAt cX7_missingAt 5 [.ref 10, .int a1] w (f_X7_missingAt w a1) := q_met_i (k := 3) (by decide +kernel) rfl rfl rfl (fun _ _ G => t_X7_missingAt G w a1 )
set_option maxRecDepth 100000 in
set_option maxHeartbeats 4000000 in
theorem t_X7_lastServed_B8 {E : qE} {Γ : qC} (G : q_Ok E Γ RX7 cX7_lastServed 4 (7)) (k8 : qW → Int32 → Int32 → Option (Int32 × qW)) (hk8 : ∀ (w : qW) (l1 : Int32) (l3 : Int32), q_Ev E Γ 4 (q_Fi E Γ cX7_lastServed) 8 [some (.ref 10), some (.int l1), none, some (.int l3)] [] w (k8 w l1 l3)) (w : qW) (l1 : Int32) (l3 : Int32) : q_Ev E Γ 4 (q_Fi E Γ cX7_lastServed) 8 [some (.ref 10), some (.int l1), none, some (.int l3)] [] w (f_X7_lastServed_B8 k8 w l1 l3) := by
  unfold f_X7_lastServed_B8
  refine e_iload_n G (pc := 8) dX7_lastServed_8 rfl rfl ?_
  refine e_if_lt G (pc := 9) (tgt := 33) dX7_lastServed_9 (by decide) ?_ ?_
  · refine e_bipush G (pc := 33) (v := (-2)) dX7_lastServed_33 (by decide) ?_
    exact e_iret dX7_lastServed_35
  · refine e_aload_n G (pc := 12) dX7_lastServed_12 rfl rfl ?_
    refine e_bipush G (pc := 13) (v := 12) dX7_lastServed_13 (by decide) ?_
    refine e_iload_n G (pc := 15) dX7_lastServed_15 rfl rfl ?_
    refine e_imul G (pc := 16) dX7_lastServed_16 ?_
    refine e_iload_n G (pc := 17) dX7_lastServed_17 rfl rfl ?_
    refine e_iadd G (pc := 18) dX7_lastServed_18 ?_
    refine e_cVi G (pc := 19) (As := [.int (((12 : Int32) * l1) + l3)]) (st := []) cv_X7_50 (c_X7_isServed w (((12 : Int32) * l1) + l3) ) sh_10 (Nat.le_of_ble_eq_true rfl) rfl (Nat.le_of_ble_eq_true rfl) dX7_lastServed_19 (fun r1 w2 => ?_)
    refine e_if_eq G (pc := 22) (tgt := 27) dX7_lastServed_22 (by decide) ?_ ?_
    · refine e_iinc G (pc := 27) (x := l3) (v := l3 + (-1)) (L' := fun v3 => [some (.ref 10), some (.int l1), none, some (.int v3)]) dX7_lastServed_27 (Nat.le_of_ble_eq_true rfl) rfl (by rfl) (fun _ => rfl) (fun v3 => ?_)
      refine e_goto G (pc := 30) (tgt := 8) dX7_lastServed_30 (by decide) ?_
      exact hk8 w2 l1 v3 
    · refine e_iload_n G (pc := 25) dX7_lastServed_25 rfl rfl ?_
      exact e_iret dX7_lastServed_26
set_option maxRecDepth 100000 in
set_option maxHeartbeats 4000000 in
theorem t_X7_lastServed_R8 {E : qE} {Γ : qC} (G : q_Ok E Γ RX7 cX7_lastServed 4 (7)) : ∀ (fuel : Nat) (w : qW) (l1 : Int32) (l3 : Int32) , q_Ev E Γ 4 (q_Fi E Γ cX7_lastServed) 8 [some (.ref 10), some (.int l1), none, some (.int l3)] [] w (f_X7_lastServed_R8 fuel w l1 l3) := by
  intro fuel
  induction fuel with
  | zero => intros; exact e_none
  | succ fuel ih =>
    intro w l1 l3 
    exact t_X7_lastServed_B8 G _ ih w l1 l3 
set_option maxRecDepth 100000 in
set_option maxHeartbeats 4000000 in
theorem t_X7_lastServed {E : qE} {Γ : qC} (G : q_Ok E Γ RX7 cX7_lastServed 4 (7)) (w : qW) (a1 : Int32) (a2 : Int32) : q_Ev E Γ 4 (q_Fi E Γ cX7_lastServed) 0 [some (.ref 10), some (.int a1), some (.int a2), none] [] w (f_X7_lastServed w a1 a2) := by
  unfold f_X7_lastServed
  refine e_aload_n G (pc := 0) dX7_lastServed_0 rfl rfl ?_
  refine e_iconst G (pc := 1) (v := 0) dX7_lastServed_1 (by decide) ?_
  refine e_iload_n G (pc := 2) dX7_lastServed_2 rfl rfl ?_
  refine e_cVv G (pc := 3) (As := [.int 0, .int a2]) (st := []) cv_X7_46 (c_X7_weigh w 0 a2 ) sh_10 (Nat.le_of_ble_eq_true rfl) rfl (Nat.le_of_ble_eq_true rfl) dX7_lastServed_3 (fun r1 w2 => ?_)
  refine e_iload_n G (pc := 6) dX7_lastServed_6 rfl rfl ?_
  refine e_istore_n G (pc := 7) (L' := [some (.ref 10), some (.int a1), some (.int a2), some (.int a2)]) dX7_lastServed_7 rfl (Nat.le_of_ble_eq_true rfl) rfl ?_
  refine e_wk (L' := [some (.ref 10), some (.int a1), none, some (.int a2)]) (And.intro rfl (And.intro rfl (And.intro rfl (trivial)))) ?_
  exact t_X7_lastServed_R8 G  q_fuel w2 a1 a2 
set_option maxRecDepth 100000 in
set_option maxHeartbeats 4000000 in
theorem c_X7_lastServed (w : qW) (a1 : Int32) (a2 : Int32) : q_AC q_vi (some .int) (7) yX7_lastServed cX7_lastServed 4 [.ref 10, .int a1, .int a2] w (f_X7_lastServed w a1 a2) := q_met_i (k := 1) (by decide +kernel) rfl rfl rfl (fun _ _ G => t_X7_lastServed G w a1 a2 )
set_option maxRecDepth 100000 in
set_option maxHeartbeats 4000000 in
theorem t_X7_shareOf_B15 {E : qE} {Γ : qC} (G : q_Ok E Γ RX7 cX7_shareOf 8 (7)) (k15 : qW → Int32 → Int32 → Int32 → Int32 → Int32 → Int32 → Option (Int32 × qW)) (hk15 : ∀ (w : qW) (l1 : Int32) (l2 : Int32) (l3 : Int32) (l4 : Int32) (l5 : Int32) (l6 : Int32), q_Ev E Γ 8 (q_Fi E Γ cX7_shareOf) 15 [some (.ref 10), some (.int l1), some (.int l2), some (.int l3), some (.int l4), some (.int l5), some (.int l6), none] [] w (k15 w l1 l2 l3 l4 l5 l6)) (w : qW) (l1 : Int32) (l2 : Int32) (l3 : Int32) (l4 : Int32) (l5 : Int32) (l6 : Int32) : q_Ev E Γ 8 (q_Fi E Γ cX7_shareOf) 15 [some (.ref 10), some (.int l1), some (.int l2), some (.int l3), some (.int l4), some (.int l5), some (.int l6), none] [] w (f_X7_shareOf_B15 k15 w l1 l2 l3 l4 l5 l6) := by
  unfold f_X7_shareOf_B15
  refine e_iload G (pc := 15) dX7_shareOf_15 rfl ?_
  refine e_aload_n G (pc := 17) dX7_shareOf_17 rfl rfl ?_
  refine e_getF G (pc := 18) sh_10 rfl lk_X7_27 dX7_shareOf_18 ?_
  refine e_getI G (pc := 21) sh_1 rfl lk_X7_68 dX7_shareOf_21 ?_
  refine e_icmp_ge G (pc := 24) (tgt := 71) dX7_shareOf_24 (by decide) ?_ ?_
  · refine e_iload G (pc := 71) dX7_shareOf_71 rfl ?_
    refine e_if_ne G (pc := 73) (tgt := 80) dX7_shareOf_73 (by decide) ?_ ?_
    · refine e_iload_n G (pc := 80) dX7_shareOf_80 rfl rfl ?_
      refine e_iload G (pc := 81) dX7_shareOf_81 rfl ?_
      refine e_imul G (pc := 83) dX7_shareOf_83 ?_
      refine e_iload G (pc := 84) dX7_shareOf_84 rfl ?_
      refine e_idiv_z G (pc := 86) dX7_shareOf_86 ?_
      exact e_iret dX7_shareOf_87
    · refine e_iconst G (pc := 76) (v := 0) dX7_shareOf_76 (by decide) ?_
      refine e_goto G (pc := 77) (tgt := 87) dX7_shareOf_77 (by decide) ?_
      exact e_iret dX7_shareOf_87
  · refine e_bipush G (pc := 27) (v := 12) dX7_shareOf_27 (by decide) ?_
    refine e_iload G (pc := 29) dX7_shareOf_29 rfl ?_
    refine e_imul G (pc := 31) dX7_shareOf_31 ?_
    refine e_iload_n G (pc := 32) dX7_shareOf_32 rfl rfl ?_
    refine e_iadd G (pc := 33) dX7_shareOf_33 ?_
    refine e_ti (fun v1 => ?_)
    refine e_istore G (pc := 34) (L' := [some (.ref 10), some (.int l1), some (.int l2), some (.int l3), some (.int l4), some (.int l5), some (.int l6), some (.int v1)]) dX7_shareOf_34 (Nat.le_of_ble_eq_true rfl) rfl ?_
    refine e_iload G (pc := 36) dX7_shareOf_36 rfl ?_
    refine e_aload_n G (pc := 38) dX7_shareOf_38 rfl rfl ?_
    refine e_getF G (pc := 39) sh_10 rfl lk_X7_15 dX7_shareOf_39 ?_
    refine e_bipush G (pc := 42) (v := 7) dX7_shareOf_42 (by decide) ?_
    refine e_iload G (pc := 44) dX7_shareOf_44 rfl ?_
    refine e_imul G (pc := 46) dX7_shareOf_46 ?_
    refine e_iload_n G (pc := 47) dX7_shareOf_47 rfl rfl ?_
    refine e_iadd G (pc := 48) dX7_shareOf_48 ?_
    refine e_iald G (pc := 49) sh_12 dX7_shareOf_49 (fun v2 => ?_)
    refine e_iadd G (pc := 50) dX7_shareOf_50 ?_
    refine e_ti (fun v3 => ?_)
    refine e_istore G (pc := 51) (L' := [some (.ref 10), some (.int l1), some (.int l2), some (.int l3), some (.int v3), some (.int l5), some (.int l6), some (.int v1)]) dX7_shareOf_51 (Nat.le_of_ble_eq_true rfl) rfl ?_
    refine e_iload G (pc := 53) dX7_shareOf_53 rfl ?_
    refine e_aload_n G (pc := 55) dX7_shareOf_55 rfl rfl ?_
    refine e_getF G (pc := 56) sh_10 rfl lk_X7_11 dX7_shareOf_56 ?_
    refine e_iload G (pc := 59) dX7_shareOf_59 rfl ?_
    refine e_iald G (pc := 61) sh_11 dX7_shareOf_61 (fun v4 => ?_)
    refine e_iadd G (pc := 62) dX7_shareOf_62 ?_
    refine e_ti (fun v5 => ?_)
    refine e_istore G (pc := 63) (L' := [some (.ref 10), some (.int l1), some (.int l2), some (.int l3), some (.int v3), some (.int v5), some (.int l6), some (.int v1)]) dX7_shareOf_63 (Nat.le_of_ble_eq_true rfl) rfl ?_
    refine e_iinc G (pc := 65) (x := l6) (v := l6 + 1) (L' := fun v6 => [some (.ref 10), some (.int l1), some (.int l2), some (.int l3), some (.int v3), some (.int v5), some (.int v6), some (.int v1)]) dX7_shareOf_65 (Nat.le_of_ble_eq_true rfl) rfl (by rfl) (fun _ => rfl) (fun v6 => ?_)
    refine e_goto G (pc := 68) (tgt := 15) dX7_shareOf_68 (by decide) ?_
    refine e_wk (L' := [some (.ref 10), some (.int l1), some (.int l2), some (.int l3), some (.int v3), some (.int v5), some (.int v6), none]) (And.intro rfl (And.intro rfl (And.intro rfl (And.intro rfl (And.intro rfl (And.intro rfl (And.intro rfl (trivial)))))))) ?_
    exact hk15 w l1 l2 l3 v3 v5 v6 
set_option maxRecDepth 100000 in
set_option maxHeartbeats 4000000 in
theorem t_X7_shareOf_R15 {E : qE} {Γ : qC} (G : q_Ok E Γ RX7 cX7_shareOf 8 (7)) : ∀ (fuel : Nat) (w : qW) (l1 : Int32) (l2 : Int32) (l3 : Int32) (l4 : Int32) (l5 : Int32) (l6 : Int32) , q_Ev E Γ 8 (q_Fi E Γ cX7_shareOf) 15 [some (.ref 10), some (.int l1), some (.int l2), some (.int l3), some (.int l4), some (.int l5), some (.int l6), none] [] w (f_X7_shareOf_R15 fuel w l1 l2 l3 l4 l5 l6) := by
  intro fuel
  induction fuel with
  | zero => intros; exact e_none
  | succ fuel ih =>
    intro w l1 l2 l3 l4 l5 l6 
    exact t_X7_shareOf_B15 G _ ih w l1 l2 l3 l4 l5 l6 
set_option maxRecDepth 100000 in
set_option maxHeartbeats 4000000 in
theorem t_X7_shareOf {E : qE} {Γ : qC} (G : q_Ok E Γ RX7 cX7_shareOf 8 (7)) (w : qW) (a1 : Int32) (a2 : Int32) (a3 : Int32) : q_Ev E Γ 8 (q_Fi E Γ cX7_shareOf) 0 [some (.ref 10), some (.int a1), some (.int a2), some (.int a3), none, none, none, none] [] w (f_X7_shareOf w a1 a2 a3) := by
  unfold f_X7_shareOf
  refine e_aload_n G (pc := 0) dX7_shareOf_0 rfl rfl ?_
  refine e_iload_n G (pc := 1) dX7_shareOf_1 rfl rfl ?_
  refine e_iload_n G (pc := 2) dX7_shareOf_2 rfl rfl ?_
  refine e_cVv G (pc := 3) (As := [.int a2, .int a2]) (st := []) cv_X7_46 (c_X7_weigh w a2 a2 ) sh_10 (Nat.le_of_ble_eq_true rfl) rfl (Nat.le_of_ble_eq_true rfl) dX7_shareOf_3 (fun r1 w2 => ?_)
  refine e_iconst G (pc := 6) (v := 0) dX7_shareOf_6 (by decide) ?_
  refine e_istore G (pc := 7) (L' := [some (.ref 10), some (.int a1), some (.int a2), some (.int a3), some (.int 0), none, none, none]) dX7_shareOf_7 (Nat.le_of_ble_eq_true rfl) rfl ?_
  refine e_iconst G (pc := 9) (v := 0) dX7_shareOf_9 (by decide) ?_
  refine e_istore G (pc := 10) (L' := [some (.ref 10), some (.int a1), some (.int a2), some (.int a3), some (.int 0), some (.int 0), none, none]) dX7_shareOf_10 (Nat.le_of_ble_eq_true rfl) rfl ?_
  refine e_iconst G (pc := 12) (v := 0) dX7_shareOf_12 (by decide) ?_
  refine e_istore G (pc := 13) (L' := [some (.ref 10), some (.int a1), some (.int a2), some (.int a3), some (.int 0), some (.int 0), some (.int 0), none]) dX7_shareOf_13 (Nat.le_of_ble_eq_true rfl) rfl ?_
  exact t_X7_shareOf_R15 G  q_fuel w2 a1 a2 a3 0 0 0 
set_option maxRecDepth 100000 in
set_option maxHeartbeats 4000000 in
theorem c_X7_shareOf (w : qW) (a1 : Int32) (a2 : Int32) (a3 : Int32) : q_AC q_vi (some .int) (7) yX7_shareOf cX7_shareOf 8 [.ref 10, .int a1, .int a2, .int a3] w (f_X7_shareOf w a1 a2 a3) := q_met_i (k := 4) (by decide +kernel) rfl rfl rfl (fun _ _ G => t_X7_shareOf G w a1 a2 a3 )
