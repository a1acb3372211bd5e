set_option maxRecDepth 100000 in
set_option maxHeartbeats 4000000 in
theorem t_X11_within {E : qE} {Γ : qC} (G : q_Ok E Γ RX11 cX11_within 6 (2)) (w : qW) (a1 : Int64) (a2 : Int64) (a3 : Int64) : q_Ev E Γ 6 (q_Fz E Γ cX11_within) 0 [some (.long a1), none, some (.long a2), none, some (.long a3), none] [] w (f_X11_within w a1 a2 a3) := by
  unfold f_X11_within
  refine e_lload_n G (pc := 0) dX11_within_0 rfl rfl ?_
  refine e_lload_n G (pc := 1) dX11_within_1 rfl rfl ?_
  refine e_lcmp G (pc := 2) dX11_within_2 ?_
  refine e_if_lt G (pc := 3) (tgt := 17) dX11_within_3 (by decide) ?_ ?_
  · refine e_iconst G (pc := 17) (v := 0) dX11_within_17 (by decide) ?_
    exact e_zret dX11_within_18
  · refine e_lload_n G (pc := 6) dX11_within_6 rfl rfl ?_
    refine e_lload G (pc := 7) dX11_within_7 rfl ?_
    refine e_lcmp G (pc := 9) dX11_within_9 ?_
    refine e_if_gt G (pc := 10) (tgt := 17) dX11_within_10 (by decide) ?_ ?_
    · refine e_iconst G (pc := 17) (v := 0) dX11_within_17 (by decide) ?_
      exact e_zret dX11_within_18
    · refine e_iconst G (pc := 13) (v := 1) dX11_within_13 (by decide) ?_
      refine e_goto G (pc := 14) (tgt := 18) dX11_within_14 (by decide) ?_
      exact e_zret dX11_within_18
set_option maxRecDepth 100000 in
set_option maxHeartbeats 4000000 in
theorem c_X11_within (w : qW) (a1 : Int64) (a2 : Int64) (a3 : Int64) : q_AC q_vi (some .boolean) (2) yX11_within cX11_within 6 [.long a1, .long a2, .long a3] w (f_X11_within w a1 a2 a3) := q_met_z (k := 0) (by decide +kernel) rfl rfl rfl (fun _ _ G => t_X11_within G w a1 a2 a3 )
set_option maxRecDepth 100000 in
set_option maxHeartbeats 4000000 in
theorem t_X11_isIn {E : qE} {Γ : qC} (G : q_Ok E Γ RX11 cX11_isIn 2 (2)) (w : qW) (a1 : Int32) (a2 : Int32) : q_Ev E Γ 2 (q_Fz E Γ cX11_isIn) 0 [some (.int a1), some (.int a2)] [] w (f_X11_isIn w a1 a2) := by
  unfold f_X11_isIn
  refine e_iload_n G (pc := 0) dX11_isIn_0 rfl rfl ?_
  refine e_iload_n G (pc := 1) dX11_isIn_1 rfl rfl ?_
  refine e_ishr G (pc := 2) dX11_isIn_2 ?_
  refine e_iconst G (pc := 3) (v := 1) dX11_isIn_3 (by decide) ?_
  refine e_iand G (pc := 4) dX11_isIn_4 ?_
  refine e_iconst G (pc := 5) (v := 1) dX11_isIn_5 (by decide) ?_
  refine e_icmp_ne G (pc := 6) (tgt := 13) dX11_isIn_6 (by decide) ?_ ?_
  · refine e_iconst G (pc := 13) (v := 0) dX11_isIn_13 (by decide) ?_
    exact e_zret dX11_isIn_14
  · refine e_iconst G (pc := 9) (v := 1) dX11_isIn_9 (by decide) ?_
    refine e_goto G (pc := 10) (tgt := 14) dX11_isIn_10 (by decide) ?_
    exact e_zret dX11_isIn_14
set_option maxRecDepth 100000 in
set_option maxHeartbeats 4000000 in
theorem c_X11_isIn (w : qW) (a1 : Int32) (a2 : Int32) : q_AC q_vi (some .boolean) (2) yX11_isIn cX11_isIn 2 [.int a1, .int a2] w (f_X11_isIn w a1 a2) := q_met_z (k := 0) (by decide +kernel) rfl rfl rfl (fun _ _ G => t_X11_isIn G w a1 a2 )
set_option maxRecDepth 100000 in
set_option maxHeartbeats 4000000 in
theorem t_X11_bitsOf_B4 {E : qE} {Γ : qC} (G : q_Ok E Γ RX11 cX11_bitsOf 3 (2)) (k4 : qW → Int32 → Int32 → Int32 → Option (Int32 × qW)) (hk4 : ∀ (w : qW) (l0 : Int32) (l1 : Int32) (l2 : Int32), q_Ev E Γ 3 (q_Fi E Γ cX11_bitsOf) 4 [some (.int l0), some (.int l1), some (.int l2)] [] w (k4 w l0 l1 l2)) (w : qW) (l0 : Int32) (l1 : Int32) (l2 : Int32) : q_Ev E Γ 3 (q_Fi E Γ cX11_bitsOf) 4 [some (.int l0), some (.int l1), some (.int l2)] [] w (f_X11_bitsOf_B4 k4 w l0 l1 l2) := by
  unfold f_X11_bitsOf_B4
  refine e_iload_n G (pc := 4) dX11_bitsOf_4 rfl rfl ?_
  refine e_bipush G (pc := 5) (v := 12) dX11_bitsOf_5 (by decide) ?_
  refine e_icmp_ge G (pc := 7) (tgt := 24) dX11_bitsOf_7 (by decide) ?_ ?_
  · refine e_iload_n G (pc := 24) dX11_bitsOf_24 rfl rfl ?_
    exact e_iret dX11_bitsOf_25
  · refine e_iload_n G (pc := 10) dX11_bitsOf_10 rfl rfl ?_
    refine e_iload_n G (pc := 11) dX11_bitsOf_11 rfl rfl ?_
    refine e_iload_n G (pc := 12) dX11_bitsOf_12 rfl rfl ?_
    refine e_ishr G (pc := 13) dX11_bitsOf_13 ?_
    refine e_iconst G (pc := 14) (v := 1) dX11_bitsOf_14 (by decide) ?_
    refine e_iand G (pc := 15) dX11_bitsOf_15 ?_
    refine e_iadd G (pc := 16) dX11_bitsOf_16 ?_
    refine e_ti (fun v1 => ?_)
    refine e_istore_n G (pc := 17) (L' := [some (.int l0), some (.int v1), some (.int l2)]) dX11_bitsOf_17 rfl (Nat.le_of_ble_eq_true rfl) rfl ?_
    refine e_iinc G (pc := 18) (x := l2) (v := l2 + 1) (L' := fun v2 => [some (.int l0), some (.int v1), some (.int v2)]) dX11_bitsOf_18 (Nat.le_of_ble_eq_true rfl) rfl (by rfl) (fun _ => rfl) (fun v2 => ?_)
    refine e_goto G (pc := 21) (tgt := 4) dX11_bitsOf_21 (by decide) ?_
    exact hk4 w l0 v1 v2 
set_option maxRecDepth 100000 in
set_option maxHeartbeats 4000000 in
theorem t_X11_bitsOf_R4 {E : qE} {Γ : qC} (G : q_Ok E Γ RX11 cX11_bitsOf 3 (2)) : ∀ (fuel : Nat) (w : qW) (l0 : Int32) (l1 : Int32) (l2 : Int32) , q_Ev E Γ 3 (q_Fi E Γ cX11_bitsOf) 4 [some (.int l0), some (.int l1), some (.int l2)] [] w (f_X11_bitsOf_R4 fuel w l0 l1 l2) := by
  intro fuel
  induction fuel with
  | zero => intros; exact e_none
  | succ fuel ih =>
    intro w l0 l1 l2 
    exact t_X11_bitsOf_B4 G _ ih w l0 l1 l2 
set_option maxRecDepth 100000 in
set_option maxHeartbeats 4000000 in
theorem t_X11_bitsOf {E : qE} {Γ : qC} (G : q_Ok E Γ RX11 cX11_bitsOf 3 (2)) (w : qW) (a1 : Int32) : q_Ev E Γ 3 (q_Fi E Γ cX11_bitsOf) 0 [some (.int a1), none, none] [] w (f_X11_bitsOf w a1) := by
  unfold f_X11_bitsOf
  refine e_iconst G (pc := 0) (v := 0) dX11_bitsOf_0 (by decide) ?_
  refine e_istore_n G (pc := 1) (L' := [some (.int a1), some (.int 0), none]) dX11_bitsOf_1 rfl (Nat.le_of_ble_eq_true rfl) rfl ?_
  refine e_iconst G (pc := 2) (v := 0) dX11_bitsOf_2 (by decide) ?_
  refine e_istore_n G (pc := 3) (L' := [some (.int a1), some (.int 0), some (.int 0)]) dX11_bitsOf_3 rfl (Nat.le_of_ble_eq_true rfl) rfl ?_
  exact t_X11_bitsOf_R4 G  q_fuel w a1 0 0 
set_option maxRecDepth 100000 in
set_option maxHeartbeats 4000000 in
theorem c_X11_bitsOf (w : qW) (a1 : Int32) : q_AC q_vi (some .int) (2) yX11_bitsOf cX11_bitsOf 3 [.int a1] w (f_X11_bitsOf w a1) := q_met_i (k := 2) (by decide +kernel) rfl rfl rfl (fun _ _ G => t_X11_bitsOf G w a1 )
set_option maxRecDepth 100000 in
set_option maxHeartbeats 4000000 in
theorem t_X11_becomes_B97 {E : qE} {Γ : qC} (G : q_Ok E Γ RX11 cX11_becomes 5 (2)) (w : qW) (l1 : Int32) (l2 : Int32) (l3 : Int32) : q_Ev E Γ 5 (q_Fi E Γ cX11_becomes) 97 [some (.ref 48), some (.int l1), some (.int l2), some (.int l3), none] [] w (f_X11_becomes_B97 w l1 l2 l3) := by
  unfold f_X11_becomes_B97
  refine e_aload_n G (pc := 97) dX11_becomes_97 rfl rfl ?_
  refine e_getF G (pc := 98) sh_48 rfl lk_X11_13 dX11_becomes_98 ?_
  refine e_aload_n G (pc := 101) dX11_becomes_101 rfl rfl ?_
  refine e_getI G (pc := 102) sh_48 rfl lk_X11_69 dX11_becomes_102 ?_
  refine e_iload_n G (pc := 105) dX11_becomes_105 rfl rfl ?_
  refine e_iast G (pc := 106) sh_50 dX11_becomes_106 (fun w1 => ?_)
  refine e_aload_n G (pc := 107) dX11_becomes_107 rfl rfl ?_
  refine e_getF G (pc := 108) sh_48 rfl lk_X11_16 dX11_becomes_108 ?_
  refine e_aload_n G (pc := 111) dX11_becomes_111 rfl rfl ?_
  refine e_getI G (pc := 112) sh_48 rfl lk_X11_69 dX11_becomes_112 ?_
  refine e_iload_n G (pc := 115) dX11_becomes_115 rfl rfl ?_
  refine e_iast G (pc := 116) sh_51 dX11_becomes_116 (fun w2 => ?_)
  refine e_aload_n G (pc := 117) dX11_becomes_117 rfl rfl ?_
  refine e_getF G (pc := 118) sh_48 rfl lk_X11_19 dX11_becomes_118 ?_
  refine e_aload_n G (pc := 121) dX11_becomes_121 rfl rfl ?_
  refine e_getI G (pc := 122) sh_48 rfl lk_X11_69 dX11_becomes_122 ?_
  refine e_iload_n G (pc := 125) dX11_becomes_125 rfl rfl ?_
  refine e_iast G (pc := 126) sh_52 dX11_becomes_126 (fun w3 => ?_)
  refine e_aload_n G (pc := 127) dX11_becomes_127 rfl rfl ?_
  refine e_dup G (pc := 128) dX11_becomes_128 rfl ?_
  refine e_getI G (pc := 129) sh_48 rfl lk_X11_69 dX11_becomes_129 ?_
  refine e_iconst G (pc := 132) (v := 1) dX11_becomes_132 (by decide) ?_
  refine e_iadd G (pc := 133) dX11_becomes_133 ?_
  refine e_putI G (pc := 134) sh_48 rfl lp_X11_69 rfl rfl dX11_becomes_134 (fun w4 => ?_)
  refine e_aload_n G (pc := 137) dX11_becomes_137 rfl rfl ?_
  refine e_aload_n G (pc := 138) dX11_becomes_138 rfl rfl ?_
  refine e_getI G (pc := 139) sh_48 rfl lk_X11_69 dX11_becomes_139 ?_
  refine e_putI G (pc := 142) sh_48 rfl lp_X11_72 rfl rfl dX11_becomes_142 (fun w5 => ?_)
  refine e_aload_n G (pc := 145) dX11_becomes_145 rfl rfl ?_
  refine e_getF G (pc := 146) sh_48 rfl lk_X11_9 dX11_becomes_146 ?_
  refine e_iload_n G (pc := 149) dX11_becomes_149 rfl rfl ?_
  refine e_iload_n G (pc := 150) dX11_becomes_150 rfl rfl ?_
  refine e_iast G (pc := 151) sh_49 dX11_becomes_151 (fun w6 => ?_)
  refine e_iload_n G (pc := 152) dX11_becomes_152 rfl rfl ?_
  exact e_iret dX11_becomes_153
set_option maxRecDepth 100000 in
set_option maxHeartbeats 4000000 in
theorem t_X11_becomes_B26 {E : qE} {Γ : qC} (G : q_Ok E Γ RX11 cX11_becomes 5 (2)) (k26 : qW → Int32 → Int32 → Int32 → Int32 → Option (Int32 × qW)) (hk26 : ∀ (w : qW) (l1 : Int32) (l2 : Int32) (l3 : Int32) (l4 : Int32), q_Ev E Γ 5 (q_Fi E Γ cX11_becomes) 26 [some (.ref 48), some (.int l1), some (.int l2), some (.int l3), some (.int l4)] [] w (k26 w l1 l2 l3 l4)) (w : qW) (l1 : Int32) (l2 : Int32) (l3 : Int32) (l4 : Int32) : q_Ev E Γ 5 (q_Fi E Γ cX11_becomes) 26 [some (.ref 48), some (.int l1), some (.int l2), some (.int l3), some (.int l4)] [] w (f_X11_becomes_B26 k26 w l1 l2 l3 l4) := by
  unfold f_X11_becomes_B26
  refine e_iload G (pc := 26) dX11_becomes_26 rfl ?_
  refine e_bipush G (pc := 28) (v := 40) dX11_becomes_28 (by decide) ?_
  refine e_icmp_ge G (pc := 30) (tgt := 87) dX11_becomes_30 (by decide) ?_ ?_
  · refine e_aload_n G (pc := 87) dX11_becomes_87 rfl rfl ?_
    refine e_dup G (pc := 88) dX11_becomes_88 rfl ?_
    refine e_getI G (pc := 89) sh_48 rfl lk_X11_69 dX11_becomes_89 ?_
    refine e_iconst G (pc := 92) (v := 1) dX11_becomes_92 (by decide) ?_
    refine e_isub G (pc := 93) dX11_becomes_93 ?_
    refine e_putI G (pc := 94) sh_48 rfl lp_X11_69 rfl rfl dX11_becomes_94 (fun w1 => ?_)
    refine e_wk (L' := [some (.ref 48), some (.int l1), some (.int l2), some (.int l3), none]) (And.intro rfl (And.intro rfl (And.intro rfl (And.intro rfl (trivial))))) ?_
    exact t_X11_becomes_B97 G w1 l1 l2 l3 
  · refine e_aload_n G (pc := 33) dX11_becomes_33 rfl rfl ?_
    refine e_getF G (pc := 34) sh_48 rfl lk_X11_13 dX11_becomes_34 ?_
    refine e_iload G (pc := 37) dX11_becomes_37 rfl ?_
    refine e_iconst G (pc := 39) (v := 1) dX11_becomes_39 (by decide) ?_
    refine e_isub G (pc := 40) dX11_becomes_40 ?_
    refine e_aload_n G (pc := 41) dX11_becomes_41 rfl rfl ?_
    refine e_getF G (pc := 42) sh_48 rfl lk_X11_13 dX11_becomes_42 ?_
    refine e_iload G (pc := 45) dX11_becomes_45 rfl ?_
    refine e_iald G (pc := 47) sh_50 dX11_becomes_47 (fun v2 => ?_)
    refine e_iast G (pc := 48) sh_50 dX11_becomes_48 (fun w3 => ?_)
    refine e_aload_n G (pc := 49) dX11_becomes_49 rfl rfl ?_
    refine e_getF G (pc := 50) sh_48 rfl lk_X11_16 dX11_becomes_50 ?_
    refine e_iload G (pc := 53) dX11_becomes_53 rfl ?_
    refine e_iconst G (pc := 55) (v := 1) dX11_becomes_55 (by decide) ?_
    refine e_isub G (pc := 56) dX11_becomes_56 ?_
    refine e_aload_n G (pc := 57) dX11_becomes_57 rfl rfl ?_
    refine e_getF G (pc := 58) sh_48 rfl lk_X11_16 dX11_becomes_58 ?_
    refine e_iload G (pc := 61) dX11_becomes_61 rfl ?_
    refine e_iald G (pc := 63) sh_51 dX11_becomes_63 (fun v4 => ?_)
    refine e_iast G (pc := 64) sh_51 dX11_becomes_64 (fun w5 => ?_)
    refine e_aload_n G (pc := 65) dX11_becomes_65 rfl rfl ?_
    refine e_getF G (pc := 66) sh_48 rfl lk_X11_19 dX11_becomes_66 ?_
    refine e_iload G (pc := 69) dX11_becomes_69 rfl ?_
    refine e_iconst G (pc := 71) (v := 1) dX11_becomes_71 (by decide) ?_
    refine e_isub G (pc := 72) dX11_becomes_72 ?_
    refine e_aload_n G (pc := 73) dX11_becomes_73 rfl rfl ?_
    refine e_getF G (pc := 74) sh_48 rfl lk_X11_19 dX11_becomes_74 ?_
    refine e_iload G (pc := 77) dX11_becomes_77 rfl ?_
    refine e_iald G (pc := 79) sh_52 dX11_becomes_79 (fun v6 => ?_)
    refine e_iast G (pc := 80) sh_52 dX11_becomes_80 (fun w7 => ?_)
    refine e_iinc G (pc := 81) (x := l4) (v := l4 + 1) (L' := fun v8 => [some (.ref 48), some (.int l1), some (.int l2), some (.int l3), some (.int v8)]) dX11_becomes_81 (Nat.le_of_ble_eq_true rfl) rfl (by rfl) (fun _ => rfl) (fun v8 => ?_)
    refine e_goto G (pc := 84) (tgt := 26) dX11_becomes_84 (by decide) ?_
    exact hk26 w7 l1 l2 l3 v8 
set_option maxRecDepth 100000 in
set_option maxHeartbeats 4000000 in
theorem t_X11_becomes_R26 {E : qE} {Γ : qC} (G : q_Ok E Γ RX11 cX11_becomes 5 (2)) : ∀ (fuel : Nat) (w : qW) (l1 : Int32) (l2 : Int32) (l3 : Int32) (l4 : Int32) , q_Ev E Γ 5 (q_Fi E Γ cX11_becomes) 26 [some (.ref 48), some (.int l1), some (.int l2), some (.int l3), some (.int l4)] [] w (f_X11_becomes_R26 fuel w l1 l2 l3 l4) := by
  intro fuel
  induction fuel with
  | zero => intros; exact e_none
  | succ fuel ih =>
    intro w l1 l2 l3 l4 
    exact t_X11_becomes_B26 G _ ih w l1 l2 l3 l4 
set_option maxRecDepth 100000 in
set_option maxHeartbeats 4000000 in
theorem t_X11_becomes {E : qE} {Γ : qC} (G : q_Ok E Γ RX11 cX11_becomes 5 (2)) (w : qW) (a1 : Int32) (a2 : Int32) : q_Ev E Γ 5 (q_Fi E Γ cX11_becomes) 0 [some (.ref 48), some (.int a1), some (.int a2), none, none] [] w (f_X11_becomes w a1 a2) := by
  unfold f_X11_becomes
  refine e_aload_n G (pc := 0) dX11_becomes_0 rfl rfl ?_
  refine e_getF G (pc := 1) sh_48 rfl lk_X11_9 dX11_becomes_1 ?_
  refine e_iload_n G (pc := 4) dX11_becomes_4 rfl rfl ?_
  refine e_iald G (pc := 5) sh_49 dX11_becomes_5 (fun v1 => ?_)
  refine e_istore_n G (pc := 6) (L' := [some (.ref 48), some (.int a1), some (.int a2), some (.int v1), none]) dX11_becomes_6 rfl (Nat.le_of_ble_eq_true rfl) rfl ?_
  refine e_iload_n G (pc := 7) dX11_becomes_7 rfl rfl ?_
  refine e_iload_n G (pc := 8) dX11_becomes_8 rfl rfl ?_
  refine e_icmp_ne G (pc := 9) (tgt := 14) dX11_becomes_9 (by decide) ?_ ?_
  · refine e_aload_n G (pc := 14) dX11_becomes_14 rfl rfl ?_
    refine e_getI G (pc := 15) sh_48 rfl lk_X11_69 dX11_becomes_15 ?_
    refine e_bipush G (pc := 18) (v := 40) dX11_becomes_18 (by decide) ?_
    refine e_icmp_ne G (pc := 20) (tgt := 97) dX11_becomes_20 (by decide) ?_ ?_
    · exact t_X11_becomes_B97 G w a1 a2 v1 
    · refine e_iconst G (pc := 23) (v := 1) dX11_becomes_23 (by decide) ?_
      refine e_istore G (pc := 24) (L' := [some (.ref 48), some (.int a1), some (.int a2), some (.int v1), some (.int 1)]) dX11_becomes_24 (Nat.le_of_ble_eq_true rfl) rfl ?_
      exact t_X11_becomes_R26 G  q_fuel w a1 a2 v1 1 
  · refine e_iload_n G (pc := 12) dX11_becomes_12 rfl rfl ?_
    exact e_iret dX11_becomes_13
set_option maxRecDepth 100000 in
set_option maxHeartbeats 4000000 in
theorem c_X11_becomes (w : qW) (a1 : Int32) (a2 : Int32) : q_AC q_vi (some .int) (2) yX11_becomes cX11_becomes 5 [.ref 48, .int a1, .int a2] w (f_X11_becomes w a1 a2) := q_met_i (k := 2) (by decide +kernel) rfl rfl rfl (fun _ _ G => t_X11_becomes G w a1 a2 )
set_option maxRecDepth 100000 in
set_option maxHeartbeats 4000000 in
theorem t_X11_undo {E : qE} {Γ : qC} (G : q_Ok E Γ RX11 cX11_undo 1 (2)) (w : qW) : q_Ev E Γ 1 (q_Fi E Γ cX11_undo) 0 [some (.ref 48)] [] w (f_X11_undo w ) := by
  unfold f_X11_undo
  refine e_aload_n G (pc := 0) dX11_undo_0 rfl rfl ?_
  refine e_getI G (pc := 1) sh_48 rfl lk_X11_69 dX11_undo_1 ?_
  refine e_if_ne G (pc := 4) (tgt := 10) dX11_undo_4 (by decide) ?_ ?_
  · refine e_aload_n G (pc := 10) dX11_undo_10 rfl rfl ?_
    refine e_dup G (pc := 11) dX11_undo_11 rfl ?_
    refine e_getI G (pc := 12) sh_48 rfl lk_X11_69 dX11_undo_12 ?_
    refine e_iconst G (pc := 15) (v := 1) dX11_undo_15 (by decide) ?_
    refine e_isub G (pc := 16) dX11_undo_16 ?_
    refine e_putI G (pc := 17) sh_48 rfl lp_X11_69 rfl rfl dX11_undo_17 (fun w1 => ?_)
    refine e_aload_n G (pc := 20) dX11_undo_20 rfl rfl ?_
    refine e_getF G (pc := 21) sh_48 rfl lk_X11_9 dX11_undo_21 ?_
    refine e_aload_n G (pc := 24) dX11_undo_24 rfl rfl ?_
    refine e_getF G (pc := 25) sh_48 rfl lk_X11_13 dX11_undo_25 ?_
    refine e_aload_n G (pc := 28) dX11_undo_28 rfl rfl ?_
    refine e_getI G (pc := 29) sh_48 rfl lk_X11_69 dX11_undo_29 ?_
    refine e_iald G (pc := 32) sh_50 dX11_undo_32 (fun v2 => ?_)
    refine e_aload_n G (pc := 33) dX11_undo_33 rfl rfl ?_
    refine e_getF G (pc := 34) sh_48 rfl lk_X11_16 dX11_undo_34 ?_
    refine e_aload_n G (pc := 37) dX11_undo_37 rfl rfl ?_
    refine e_getI G (pc := 38) sh_48 rfl lk_X11_69 dX11_undo_38 ?_
    refine e_iald G (pc := 41) sh_51 dX11_undo_41 (fun v3 => ?_)
    refine e_iast G (pc := 42) sh_49 dX11_undo_42 (fun w4 => ?_)
    refine e_aload_n G (pc := 43) dX11_undo_43 rfl rfl ?_
    refine e_getI G (pc := 44) sh_48 rfl lk_X11_69 dX11_undo_44 ?_
    exact e_iret dX11_undo_47
  · refine e_bipush G (pc := 7) (v := (-5)) dX11_undo_7 (by decide) ?_
    exact e_iret dX11_undo_9
set_option maxRecDepth 100000 in
set_option maxHeartbeats 4000000 in
theorem c_X11_undo (w : qW) : q_AC q_vi (some .int) (2) yX11_undo cX11_undo 1 [.ref 48] w (f_X11_undo w ) := q_met_i (k := 0) (by decide +kernel) rfl rfl rfl (fun _ _ G => t_X11_undo G w  )
set_option maxRecDepth 100000 in
set_option maxHeartbeats 4000000 in
theorem t_X11_redo {E : qE} {Γ : qC} (G : q_Ok E Γ RX11 cX11_redo 1 (2)) (w : qW) : q_Ev E Γ 1 (q_Fi E Γ cX11_redo) 0 [some (.ref 48)] [] w (f_X11_redo w ) := by
  unfold f_X11_redo
  refine e_aload_n G (pc := 0) dX11_redo_0 rfl rfl ?_
  refine e_getI G (pc := 1) sh_48 rfl lk_X11_69 dX11_redo_1 ?_
  refine e_aload_n G (pc := 4) dX11_redo_4 rfl rfl ?_
  refine e_getI G (pc := 5) sh_48 rfl lk_X11_72 dX11_redo_5 ?_
  refine e_icmp_ne G (pc := 8) (tgt := 14) dX11_redo_8 (by decide) ?_ ?_
  · refine e_aload_n G (pc := 14) dX11_redo_14 rfl rfl ?_
    refine e_getF G (pc := 15) sh_48 rfl lk_X11_9 dX11_redo_15 ?_
    refine e_aload_n G (pc := 18) dX11_redo_18 rfl rfl ?_
    refine e_getF G (pc := 19) sh_48 rfl lk_X11_13 dX11_redo_19 ?_
    refine e_aload_n G (pc := 22) dX11_redo_22 rfl rfl ?_
    refine e_getI G (pc := 23) sh_48 rfl lk_X11_69 dX11_redo_23 ?_
    refine e_iald G (pc := 26) sh_50 dX11_redo_26 (fun v1 => ?_)
    refine e_aload_n G (pc := 27) dX11_redo_27 rfl rfl ?_
    refine e_getF G (pc := 28) sh_48 rfl lk_X11_19 dX11_redo_28 ?_
    refine e_aload_n G (pc := 31) dX11_redo_31 rfl rfl ?_
    refine e_getI G (pc := 32) sh_48 rfl lk_X11_69 dX11_redo_32 ?_
    refine e_iald G (pc := 35) sh_52 dX11_redo_35 (fun v2 => ?_)
    refine e_iast G (pc := 36) sh_49 dX11_redo_36 (fun w3 => ?_)
    refine e_aload_n G (pc := 37) dX11_redo_37 rfl rfl ?_
    refine e_dup G (pc := 38) dX11_redo_38 rfl ?_
    refine e_getI G (pc := 39) sh_48 rfl lk_X11_69 dX11_redo_39 ?_
    refine e_iconst G (pc := 42) (v := 1) dX11_redo_42 (by decide) ?_
    refine e_iadd G (pc := 43) dX11_redo_43 ?_
    refine e_putI G (pc := 44) sh_48 rfl lp_X11_69 rfl rfl dX11_redo_44 (fun w4 => ?_)
    refine e_aload_n G (pc := 47) dX11_redo_47 rfl rfl ?_
    refine e_getI G (pc := 48) sh_48 rfl lk_X11_72 dX11_redo_48 ?_
    refine e_aload_n G (pc := 51) dX11_redo_51 rfl rfl ?_
    refine e_getI G (pc := 52) sh_48 rfl lk_X11_69 dX11_redo_52 ?_
    refine e_isub G (pc := 55) dX11_redo_55 ?_
    exact e_iret dX11_redo_56
  · refine e_bipush G (pc := 11) (v := (-5)) dX11_redo_11 (by decide) ?_
    exact e_iret dX11_redo_13
set_option maxRecDepth 100000 in
set_option maxHeartbeats 4000000 in
theorem c_X11_redo (w : qW) : q_AC q_vi (some .int) (2) yX11_redo cX11_redo 1 [.ref 48] w (f_X11_redo w ) := q_met_i (k := 0) (by decide +kernel) rfl rfl rfl (fun _ _ G => t_X11_redo G w  )
set_option maxRecDepth 100000 in
set_option maxHeartbeats 4000000 in
theorem t_X11_isMan {E : qE} {Γ : qC} (G : q_Ok E Γ RX11 cX11_isMan 3 (3)) (w : qW) (a1 : Int64) : q_Ev E Γ 3 (q_Fz E Γ cX11_isMan) 0 [some (.ref 48), some (.long a1), none] [] w (f_X11_isMan w a1) := by
  unfold f_X11_isMan
  refine e_lload_n G (pc := 0) dX11_isMan_0 rfl rfl ?_
  refine e_lconst G (pc := 1) (v := 0) dX11_isMan_1 (by decide) ?_
  refine e_aload_n G (pc := 2) dX11_isMan_2 rfl rfl ?_
  refine e_getI G (pc := 3) sh_48 rfl lk_X11_75 dX11_isMan_3 ?_
  refine e_iconst G (pc := 6) (v := 1) dX11_isMan_6 (by decide) ?_
  refine e_isub G (pc := 7) dX11_isMan_7 ?_
  refine e_i2l G (pc := 8) dX11_isMan_8 ?_
  refine e_cSi G (pc := 9) (ci := 0) (id := 0) (sl := []) (As := [.long a1, .long 0, .long (Int32.toInt64 ((q_I w 48 6) - 1))]) (st := []) cs_X11_78 (c_X11_within w a1 0 (Int32.toInt64 ((q_I w 48 6) - 1)) ) (Nat.le_of_ble_eq_true rfl) rfl (Nat.le_of_ble_eq_true rfl) dX11_isMan_9 (fun r1 w2 => ?_)
  exact e_zret dX11_isMan_12
set_option maxRecDepth 100000 in
set_option maxHeartbeats 4000000 in
theorem c_X11_isMan (w : qW) (a1 : Int64) : q_AC q_vi (some .boolean) (3) yX11_isMan cX11_isMan 3 [.ref 48, .long a1] w (f_X11_isMan w a1) := q_met_z (k := 0) (by decide +kernel) rfl rfl rfl (fun _ _ G => t_X11_isMan G w a1 )
set_option maxRecDepth 100000 in
set_option maxHeartbeats 4000000 in
theorem t_X11_isSitter {E : qE} {Γ : qC} (G : q_Ok E Γ RX11 cX11_isSitter 3 (3)) (w : qW) (a1 : Int64) : q_Ev E Γ 3 (q_Fz E Γ cX11_isSitter) 0 [some (.ref 48), some (.long a1), none] [] w (f_X11_isSitter w a1) := by
  unfold f_X11_isSitter
  refine e_lload_n G (pc := 0) dX11_isSitter_0 rfl rfl ?_
  refine e_lconst G (pc := 1) (v := 0) dX11_isSitter_1 (by decide) ?_
  refine e_aload_n G (pc := 2) dX11_isSitter_2 rfl rfl ?_
  refine e_getI G (pc := 3) sh_48 rfl lk_X11_82 dX11_isSitter_3 ?_
  refine e_iconst G (pc := 6) (v := 1) dX11_isSitter_6 (by decide) ?_
  refine e_isub G (pc := 7) dX11_isSitter_7 ?_
  refine e_i2l G (pc := 8) dX11_isSitter_8 ?_
  refine e_cSi G (pc := 9) (ci := 0) (id := 0) (sl := []) (As := [.long a1, .long 0, .long (Int32.toInt64 ((q_I w 48 7) - 1))]) (st := []) cs_X11_78 (c_X11_within w a1 0 (Int32.toInt64 ((q_I w 48 7) - 1)) ) (Nat.le_of_ble_eq_true rfl) rfl (Nat.le_of_ble_eq_true rfl) dX11_isSitter_9 (fun r1 w2 => ?_)
  exact e_zret dX11_isSitter_12
set_option maxRecDepth 100000 in
set_option maxHeartbeats 4000000 in
theorem c_X11_isSitter (w : qW) (a1 : Int64) : q_AC q_vi (some .boolean) (3) yX11_isSitter cX11_isSitter 3 [.ref 48, .long a1] w (f_X11_isSitter w a1) := q_met_z (k := 0) (by decide +kernel) rfl rfl rfl (fun _ _ G => t_X11_isSitter G w a1 )
set_option maxRecDepth 100000 in
set_option maxHeartbeats 4000000 in
theorem t_X11_isCell {E : qE} {Γ : qC} (G : q_Ok E Γ RX11 cX11_isCell 2 (3)) (w : qW) (a1 : Int64) : q_Ev E Γ 2 (q_Fz E Γ cX11_isCell) 0 [some (.long a1), none] [] w (f_X11_isCell w a1) := by
  unfold f_X11_isCell
  refine e_lload_n G (pc := 0) dX11_isCell_0 rfl rfl ?_
  refine e_lconst G (pc := 1) (v := 0) dX11_isCell_1 (by decide) ?_
  refine e_ldc2 G (pc := 2) kl_X11_85 dX11_isCell_2 ?_
  refine e_cSi G (pc := 5) (ci := 0) (id := 0) (sl := []) (As := [.long a1, .long 0, .long 143]) (st := []) cs_X11_78 (c_X11_within w a1 0 143 ) (Nat.le_of_ble_eq_true rfl) rfl (Nat.le_of_ble_eq_true rfl) dX11_isCell_5 (fun r1 w2 => ?_)
  exact e_zret dX11_isCell_8
set_option maxRecDepth 100000 in
set_option maxHeartbeats 4000000 in
theorem c_X11_isCell (w : qW) (a1 : Int64) : q_AC q_vi (some .boolean) (3) yX11_isCell cX11_isCell 2 [.long a1] w (f_X11_isCell w a1) := q_met_z (k := 0) (by decide +kernel) rfl rfl rfl (fun _ _ G => t_X11_isCell G w a1 )
set_option maxRecDepth 100000 in
set_option maxHeartbeats 4000000 in
theorem t_X11_isHour {E : qE} {Γ : qC} (G : q_Ok E Γ RX11 cX11_isHour 2 (3)) (w : qW) (a1 : Int64) : q_Ev E Γ 2 (q_Fz E Γ cX11_isHour) 0 [some (.long a1), none] [] w (f_X11_isHour w a1) := by
  unfold f_X11_isHour
  refine e_lload_n G (pc := 0) dX11_isHour_0 rfl rfl ?_
  refine e_lconst G (pc := 1) (v := 0) dX11_isHour_1 (by decide) ?_
  refine e_ldc2 G (pc := 2) kl_X11_87 dX11_isHour_2 ?_
  refine e_cSi G (pc := 5) (ci := 0) (id := 0) (sl := []) (As := [.long a1, .long 0, .long 11]) (st := []) cs_X11_78 (c_X11_within w a1 0 11 ) (Nat.le_of_ble_eq_true rfl) rfl (Nat.le_of_ble_eq_true rfl) dX11_isHour_5 (fun r1 w2 => ?_)
  exact e_zret dX11_isHour_8
set_option maxRecDepth 100000 in
set_option maxHeartbeats 4000000 in
theorem c_X11_isHour (w : qW) (a1 : Int64) : q_AC q_vi (some .boolean) (3) yX11_isHour cX11_isHour 2 [.long a1] w (f_X11_isHour w a1) := q_met_z (k := 0) (by decide +kernel) rfl rfl rfl (fun _ _ G => t_X11_isHour G w a1 )
set_option maxRecDepth 100000 in
set_option maxHeartbeats 4000000 in
theorem t_X11_man {E : qE} {Γ : qC} (G : q_Ok E Γ RX11 cX11_man 3 (4)) (w : qW) (a1 : Int32) (a2 : Int32) : q_Ev E Γ 3 (q_Fi E Γ cX11_man) 0 [some (.ref 48), some (.int a1), some (.int a2)] [] w (f_X11_man w a1 a2) := by
  unfold f_X11_man
  refine e_iload_n G (pc := 0) dX11_man_0 rfl rfl ?_
  refine e_i2l G (pc := 1) dX11_man_1 ?_
  refine e_cSi G (pc := 2) (ci := 0) (id := 0) (sl := []) (As := [.long (Int32.toInt64 a1)]) (st := []) cs_X11_89 (c_X11_isCell w (Int32.toInt64 a1) ) (Nat.le_of_ble_eq_true rfl) rfl (Nat.le_of_ble_eq_true rfl) dX11_man_2 (fun r1 w2 => ?_)
  refine e_if_eq G (pc := 5) (tgt := 20) dX11_man_5 (by decide) ?_ ?_
  · refine e_iconst G (pc := 20) (v := (-1)) dX11_man_20 (by decide) ?_
    exact e_iret dX11_man_21
  · refine e_iload_n G (pc := 8) dX11_man_8 rfl rfl ?_
    refine e_i2l G (pc := 9) dX11_man_9 ?_
    refine e_lconst G (pc := 10) (v := 0) dX11_man_10 (by decide) ?_
    refine e_ldc2 G (pc := 11) kl_X11_93 dX11_man_11 ?_
    refine e_cSi G (pc := 14) (ci := 0) (id := 0) (sl := []) (As := [.long (Int32.toInt64 a2), .long 0, .long 2]) (st := []) cs_X11_78 (c_X11_within w2 (Int32.toInt64 a2) 0 2 ) (Nat.le_of_ble_eq_true rfl) rfl (Nat.le_of_ble_eq_true rfl) dX11_man_14 (fun r3 w4 => ?_)
    refine e_if_ne G (pc := 17) (tgt := 22) dX11_man_17 (by decide) ?_ ?_
    · refine e_aload_n G (pc := 22) dX11_man_22 rfl rfl ?_
      refine e_getI G (pc := 23) sh_48 rfl lk_X11_75 dX11_man_23 ?_
      refine e_bipush G (pc := 26) (v := 7) dX11_man_26 (by decide) ?_
      refine e_icmp_ne G (pc := 28) (tgt := 34) dX11_man_28 (by decide) ?_ ?_
      · refine e_aload_n G (pc := 34) dX11_man_34 rfl rfl ?_
        refine e_getF G (pc := 35) sh_48 rfl lk_X11_9 dX11_man_35 ?_
        refine e_aload_n G (pc := 38) dX11_man_38 rfl rfl ?_
        refine e_getI G (pc := 39) sh_48 rfl lk_X11_75 dX11_man_39 ?_
        refine e_iload_n G (pc := 42) dX11_man_42 rfl rfl ?_
        refine e_iast G (pc := 43) sh_49 dX11_man_43 (fun w5 => ?_)
        refine e_aload_n G (pc := 44) dX11_man_44 rfl rfl ?_
        refine e_getF G (pc := 45) sh_48 rfl lk_X11_9 dX11_man_45 ?_
        refine e_bipush G (pc := 48) (v := 8) dX11_man_48 (by decide) ?_
        refine e_aload_n G (pc := 50) dX11_man_50 rfl rfl ?_
        refine e_getI G (pc := 51) sh_48 rfl lk_X11_75 dX11_man_51 ?_
        refine e_iadd G (pc := 54) dX11_man_54 ?_
        refine e_iload_n G (pc := 55) dX11_man_55 rfl rfl ?_
        refine e_iast G (pc := 56) sh_49 dX11_man_56 (fun w6 => ?_)
        refine e_aload_n G (pc := 57) dX11_man_57 rfl rfl ?_
        refine e_getF G (pc := 58) sh_48 rfl lk_X11_9 dX11_man_58 ?_
        refine e_bipush G (pc := 61) (v := 16) dX11_man_61 (by decide) ?_
        refine e_aload_n G (pc := 63) dX11_man_63 rfl rfl ?_
        refine e_getI G (pc := 64) sh_48 rfl lk_X11_75 dX11_man_64 ?_
        refine e_iadd G (pc := 67) dX11_man_67 ?_
        refine e_iconst G (pc := 68) (v := 1) dX11_man_68 (by decide) ?_
        refine e_iast G (pc := 69) sh_49 dX11_man_69 (fun w7 => ?_)
        refine e_aload_n G (pc := 70) dX11_man_70 rfl rfl ?_
        refine e_getF G (pc := 71) sh_48 rfl lk_X11_9 dX11_man_71 ?_
        refine e_bipush G (pc := 74) (v := 24) dX11_man_74 (by decide) ?_
        refine e_aload_n G (pc := 76) dX11_man_76 rfl rfl ?_
        refine e_getI G (pc := 77) sh_48 rfl lk_X11_75 dX11_man_77 ?_
        refine e_iadd G (pc := 80) dX11_man_80 ?_
        refine e_bipush G (pc := 81) (v := 10) dX11_man_81 (by decide) ?_
        refine e_iast G (pc := 83) sh_49 dX11_man_83 (fun w8 => ?_)
        refine e_aload_n G (pc := 84) dX11_man_84 rfl rfl ?_
        refine e_dup G (pc := 85) dX11_man_85 rfl ?_
        refine e_getI G (pc := 86) sh_48 rfl lk_X11_75 dX11_man_86 ?_
        refine e_iconst G (pc := 89) (v := 1) dX11_man_89 (by decide) ?_
        refine e_iadd G (pc := 90) dX11_man_90 ?_
        refine e_putI G (pc := 91) sh_48 rfl lp_X11_75 rfl rfl dX11_man_91 (fun w9 => ?_)
        refine e_aload_n G (pc := 94) dX11_man_94 rfl rfl ?_
        refine e_getI G (pc := 95) sh_48 rfl lk_X11_75 dX11_man_95 ?_
        refine e_iconst G (pc := 98) (v := 1) dX11_man_98 (by decide) ?_
        refine e_isub G (pc := 99) dX11_man_99 ?_
        exact e_iret dX11_man_100
      · refine e_bipush G (pc := 31) (v := (-3)) dX11_man_31 (by decide) ?_
        exact e_iret dX11_man_33
    · refine e_iconst G (pc := 20) (v := (-1)) dX11_man_20 (by decide) ?_
      exact e_iret dX11_man_21
set_option maxRecDepth 100000 in
set_option maxHeartbeats 4000000 in
theorem c_X11_man (w : qW) (a1 : Int32) (a2 : Int32) : q_AC q_vi (some .int) (4) yX11_man cX11_man 3 [.ref 48, .int a1, .int a2] w (f_X11_man w a1 a2) := q_met_i (k := 0) (by decide +kernel) rfl rfl rfl (fun _ _ G => t_X11_man G w a1 a2 )
set_option maxRecDepth 100000 in
set_option maxHeartbeats 4000000 in
theorem t_X11_mayCome {E : qE} {Γ : qC} (G : q_Ok E Γ RX11 cX11_mayCome 6 (4)) (w : qW) (a1 : Int64) (a2 : Int64) (a3 : Int64) : q_Ev E Γ 6 (q_Fz E Γ cX11_mayCome) 0 [some (.long a1), none, some (.long a2), none, some (.long a3), none] [] w (f_X11_mayCome w a1 a2 a3) := by
  unfold f_X11_mayCome
  refine e_lload_n G (pc := 0) dX11_mayCome_0 rfl rfl ?_
  refine e_cSi G (pc := 1) (ci := 0) (id := 0) (sl := []) (As := [.long a1]) (st := []) cs_X11_89 (c_X11_isCell w a1 ) (Nat.le_of_ble_eq_true rfl) rfl (Nat.le_of_ble_eq_true rfl) dX11_mayCome_1 (fun r1 w2 => ?_)
  refine e_if_eq G (pc := 4) (tgt := 34) dX11_mayCome_4 (by decide) ?_ ?_
  · refine e_iconst G (pc := 34) (v := 0) dX11_mayCome_34 (by decide) ?_
    exact e_zret dX11_mayCome_35
  · refine e_lload_n G (pc := 7) dX11_mayCome_7 rfl rfl ?_
    refine e_lconst G (pc := 8) (v := 0) dX11_mayCome_8 (by decide) ?_
    refine e_ldc2 G (pc := 9) kl_X11_95 dX11_mayCome_9 ?_
    refine e_cSi G (pc := 12) (ci := 0) (id := 0) (sl := []) (As := [.long a2, .long 0, .long 4095]) (st := []) cs_X11_78 (c_X11_within w2 a2 0 4095 ) (Nat.le_of_ble_eq_true rfl) rfl (Nat.le_of_ble_eq_true rfl) dX11_mayCome_12 (fun r3 w4 => ?_)
    refine e_if_eq G (pc := 15) (tgt := 34) dX11_mayCome_15 (by decide) ?_ ?_
    · refine e_iconst G (pc := 34) (v := 0) dX11_mayCome_34 (by decide) ?_
      exact e_zret dX11_mayCome_35
    · refine e_lload G (pc := 18) dX11_mayCome_18 rfl ?_
      refine e_lconst G (pc := 20) (v := 1) dX11_mayCome_20 (by decide) ?_
      refine e_ldc2 G (pc := 21) kl_X11_97 dX11_mayCome_21 ?_
      refine e_cSi G (pc := 24) (ci := 0) (id := 0) (sl := []) (As := [.long a3, .long 1, .long 12]) (st := []) cs_X11_78 (c_X11_within w4 a3 1 12 ) (Nat.le_of_ble_eq_true rfl) rfl (Nat.le_of_ble_eq_true rfl) dX11_mayCome_24 (fun r5 w6 => ?_)
      refine e_if_eq G (pc := 27) (tgt := 34) dX11_mayCome_27 (by decide) ?_ ?_
      · refine e_iconst G (pc := 34) (v := 0) dX11_mayCome_34 (by decide) ?_
        exact e_zret dX11_mayCome_35
      · refine e_iconst G (pc := 30) (v := 1) dX11_mayCome_30 (by decide) ?_
        refine e_goto G (pc := 31) (tgt := 35) dX11_mayCome_31 (by decide) ?_
        exact e_zret dX11_mayCome_35
set_option maxRecDepth 100000 in
set_option maxHeartbeats 4000000 in
theorem c_X11_mayCome (w : qW) (a1 : Int64) (a2 : Int64) (a3 : Int64) : q_AC q_vi (some .boolean) (4) yX11_mayCome cX11_mayCome 6 [.long a1, .long a2, .long a3] w (f_X11_mayCome w a1 a2 a3) := q_met_z (k := 0) (by decide +kernel) rfl rfl rfl (fun _ _ G => t_X11_mayCome G w a1 a2 a3 )
set_option maxRecDepth 100000 in
set_option maxHeartbeats 4000000 in
theorem t_X11_adds {E : qE} {Γ : qC} (G : q_Ok E Γ RX11 cX11_adds 4 (2)) (w : qW) (a1 : Int32) (a2 : Int32) (a3 : Int32) : q_Ev E Γ 4 (q_Fv E Γ cX11_adds) 0 [some (.ref 48), some (.int a1), some (.int a2), some (.int a3)] [] w (f_X11_adds w a1 a2 a3) := by
  unfold f_X11_adds
  refine e_aload_n G (pc := 0) dX11_adds_0 rfl rfl ?_
  refine e_getF G (pc := 1) sh_48 rfl lk_X11_9 dX11_adds_1 ?_
  refine e_bipush G (pc := 4) (v := 32) dX11_adds_4 (by decide) ?_
  refine e_aload_n G (pc := 6) dX11_adds_6 rfl rfl ?_
  refine e_getI G (pc := 7) sh_48 rfl lk_X11_82 dX11_adds_7 ?_
  refine e_iadd G (pc := 10) dX11_adds_10 ?_
  refine e_iload_n G (pc := 11) dX11_adds_11 rfl rfl ?_
  refine e_iast G (pc := 12) sh_49 dX11_adds_12 (fun w1 => ?_)
  refine e_aload_n G (pc := 13) dX11_adds_13 rfl rfl ?_
  refine e_getF G (pc := 14) sh_48 rfl lk_X11_9 dX11_adds_14 ?_
  refine e_bipush G (pc := 17) (v := 40) dX11_adds_17 (by decide) ?_
  refine e_aload_n G (pc := 19) dX11_adds_19 rfl rfl ?_
  refine e_getI G (pc := 20) sh_48 rfl lk_X11_82 dX11_adds_20 ?_
  refine e_iadd G (pc := 23) dX11_adds_23 ?_
  refine e_iload_n G (pc := 24) dX11_adds_24 rfl rfl ?_
  refine e_iast G (pc := 25) sh_49 dX11_adds_25 (fun w2 => ?_)
  refine e_aload_n G (pc := 26) dX11_adds_26 rfl rfl ?_
  refine e_getF G (pc := 27) sh_48 rfl lk_X11_9 dX11_adds_27 ?_
  refine e_bipush G (pc := 30) (v := 48) dX11_adds_30 (by decide) ?_
  refine e_aload_n G (pc := 32) dX11_adds_32 rfl rfl ?_
  refine e_getI G (pc := 33) sh_48 rfl lk_X11_82 dX11_adds_33 ?_
  refine e_iadd G (pc := 36) dX11_adds_36 ?_
  refine e_iload_n G (pc := 37) dX11_adds_37 rfl rfl ?_
  refine e_iast G (pc := 38) sh_49 dX11_adds_38 (fun w3 => ?_)
  refine e_aload_n G (pc := 39) dX11_adds_39 rfl rfl ?_
  refine e_dup G (pc := 40) dX11_adds_40 rfl ?_
  refine e_getI G (pc := 41) sh_48 rfl lk_X11_82 dX11_adds_41 ?_
  refine e_iconst G (pc := 44) (v := 1) dX11_adds_44 (by decide) ?_
  refine e_iadd G (pc := 45) dX11_adds_45 ?_
  refine e_putI G (pc := 46) sh_48 rfl lp_X11_82 rfl rfl dX11_adds_46 (fun w4 => ?_)
  exact e_vret dX11_adds_49
set_option maxRecDepth 100000 in
set_option maxHeartbeats 4000000 in
theorem c_X11_adds (w : qW) (a1 : Int32) (a2 : Int32) (a3 : Int32) : q_AC q_vv none (2) yX11_adds cX11_adds 4 [.ref 48, .int a1, .int a2, .int a3] w (f_X11_adds w a1 a2 a3) := q_met_v (k := 0) (by decide +kernel) rfl rfl rfl (fun _ _ G => t_X11_adds G w a1 a2 a3 )
set_option maxRecDepth 100000 in
set_option maxHeartbeats 4000000 in
theorem t_X11_sitter {E : qE} {Γ : qC} (G : q_Ok E Γ RX11 cX11_sitter 3 (5)) (w : qW) (a1 : Int32) (a2 : Int32) : q_Ev E Γ 3 (q_Fi E Γ cX11_sitter) 0 [some (.ref 48), some (.int a1), some (.int a2)] [] w (f_X11_sitter w a1 a2) := by
  unfold f_X11_sitter
  refine e_iload_n G (pc := 0) dX11_sitter_0 rfl rfl ?_
  refine e_i2l G (pc := 1) dX11_sitter_1 ?_
  refine e_iload_n G (pc := 2) dX11_sitter_2 rfl rfl ?_
  refine e_i2l G (pc := 3) dX11_sitter_3 ?_
  refine e_ldc2 G (pc := 4) kl_X11_99 dX11_sitter_4 ?_
  refine e_cSi G (pc := 7) (ci := 0) (id := 0) (sl := []) (As := [.long (Int32.toInt64 a1), .long (Int32.toInt64 a2), .long 6]) (st := []) cs_X11_101 (c_X11_mayCome w (Int32.toInt64 a1) (Int32.toInt64 a2) 6 ) (Nat.le_of_ble_eq_true rfl) rfl (Nat.le_of_ble_eq_true rfl) dX11_sitter_7 (fun r1 w2 => ?_)
  refine e_if_ne G (pc := 10) (tgt := 15) dX11_sitter_10 (by decide) ?_ ?_
  · refine e_aload_n G (pc := 15) dX11_sitter_15 rfl rfl ?_
    refine e_getI G (pc := 16) sh_48 rfl lk_X11_82 dX11_sitter_16 ?_
    refine e_bipush G (pc := 19) (v := 8) dX11_sitter_19 (by decide) ?_
    refine e_icmp_ne G (pc := 21) (tgt := 27) dX11_sitter_21 (by decide) ?_ ?_
    · refine e_aload_n G (pc := 27) dX11_sitter_27 rfl rfl ?_
      refine e_iload_n G (pc := 28) dX11_sitter_28 rfl rfl ?_
      refine e_iload_n G (pc := 29) dX11_sitter_29 rfl rfl ?_
      refine e_bipush G (pc := 30) (v := 6) dX11_sitter_30 (by decide) ?_
      refine e_cVv G (pc := 32) (As := [.int a1, .int a2, .int 6]) (st := []) cv_X11_104 (c_X11_adds w2 a1 a2 6 ) sh_48 (Nat.le_of_ble_eq_true rfl) rfl (Nat.le_of_ble_eq_true rfl) dX11_sitter_32 (fun r3 w4 => ?_)
      refine e_aload_n G (pc := 35) dX11_sitter_35 rfl rfl ?_
      refine e_getI G (pc := 36) sh_48 rfl lk_X11_82 dX11_sitter_36 ?_
      refine e_iconst G (pc := 39) (v := 1) dX11_sitter_39 (by decide) ?_
      refine e_isub G (pc := 40) dX11_sitter_40 ?_
      exact e_iret dX11_sitter_41
    · refine e_bipush G (pc := 24) (v := (-3)) dX11_sitter_24 (by decide) ?_
      exact e_iret dX11_sitter_26
  · refine e_iconst G (pc := 13) (v := (-1)) dX11_sitter_13 (by decide) ?_
    exact e_iret dX11_sitter_14
set_option maxRecDepth 100000 in
set_option maxHeartbeats 4000000 in
theorem c_X11_sitter (w : qW) (a1 : Int32) (a2 : Int32) : q_AC q_vi (some .int) (5) yX11_sitter cX11_sitter 3 [.ref 48, .int a1, .int a2] w (f_X11_sitter w a1 a2) := q_met_i (k := 0) (by decide +kernel) rfl rfl rfl (fun _ _ G => t_X11_sitter G w a1 a2 )
set_option maxRecDepth 100000 in
set_option maxHeartbeats 4000000 in
theorem t_X11_isShelf {E : qE} {Γ : qC} (G : q_Ok E Γ RX11 cX11_isShelf 1 (3)) (w : qW) (a1 : Int32) : q_Ev E Γ 1 (q_Fz E Γ cX11_isShelf) 0 [some (.int a1)] [] w (f_X11_isShelf w a1) := by
  unfold f_X11_isShelf
  refine e_iload_n G (pc := 0) dX11_isShelf_0 rfl rfl ?_
  refine e_i2l G (pc := 1) dX11_isShelf_1 ?_
  refine e_lconst G (pc := 2) (v := 0) dX11_isShelf_2 (by decide) ?_
  refine e_ldc2 G (pc := 3) kl_X11_314 dX11_isShelf_3 ?_
  refine e_cSi G (pc := 6) (ci := 0) (id := 0) (sl := []) (As := [.long (Int32.toInt64 a1), .long 0, .long 5]) (st := []) cs_X11_78 (c_X11_within w (Int32.toInt64 a1) 0 5 ) (Nat.le_of_ble_eq_true rfl) rfl (Nat.le_of_ble_eq_true rfl) dX11_isShelf_6 (fun r1 w2 => ?_)
  exact e_zret dX11_isShelf_9
set_option maxRecDepth 100000 in
set_option maxHeartbeats 4000000 in
theorem c_X11_isShelf (w : qW) (a1 : Int32) : q_AC q_vi (some .boolean) (3) yX11_isShelf cX11_isShelf 1 [.int a1] w (f_X11_isShelf w a1) := q_met_z (k := 0) (by decide +kernel) rfl rfl rfl (fun _ _ G => t_X11_isShelf G w a1 )
set_option maxRecDepth 100000 in
set_option maxHeartbeats 4000000 in
theorem t_X11_sitters_B209 {E : qE} {Γ : qC} (G : q_Ok E Γ RX11 cX11_sitters 7 (5)) (k69 : qW → Int32 → Int32 → Int32 → Int32 → Int32 → Option (Int32 × qW)) (hk69 : ∀ (w : qW) (l1 : Int32) (l2 : Int32) (l3 : Int32) (l4 : Int32) (l5 : Int32), q_Ev E Γ 7 (q_Fi E Γ cX11_sitters) 69 [some (.ref 48), some (.int l1), some (.int l2), some (.int l3), some (.int l4), some (.int l5), none] [] w (k69 w l1 l2 l3 l4 l5)) (w : qW) (l1 : Int32) (l2 : Int32) (l3 : Int32) (l4 : Int32) (l5 : Int32) : q_Ev E Γ 7 (q_Fi E Γ cX11_sitters) 209 [some (.ref 48), some (.int l1), some (.int l2), some (.int l3), some (.int l4), some (.int l5), none] [] w (f_X11_sitters_B209 k69 w l1 l2 l3 l4 l5) := by
  unfold f_X11_sitters_B209
  refine e_goto G (pc := 209) (tgt := 69) dX11_sitters_209 (by decide) ?_
  exact hk69 w l1 l2 l3 l4 l5 
set_option maxRecDepth 100000 in
set_option maxHeartbeats 4000000 in
theorem t_X11_sitters_B167 {E : qE} {Γ : qC} (G : q_Ok E Γ RX11 cX11_sitters 7 (5)) (k69 : qW → Int32 → Int32 → Int32 → Int32 → Int32 → Option (Int32 × qW)) (hk69 : ∀ (w : qW) (l1 : Int32) (l2 : Int32) (l3 : Int32) (l4 : Int32) (l5 : Int32), q_Ev E Γ 7 (q_Fi E Γ cX11_sitters) 69 [some (.ref 48), some (.int l1), some (.int l2), some (.int l3), some (.int l4), some (.int l5), none] [] w (k69 w l1 l2 l3 l4 l5)) (w : qW) (l1 : Int32) (l2 : Int32) (l3 : Int32) (l4 : Int32) (l6 : Int32) (s0 : Int32) : q_Ev E Γ 7 (q_Fi E Γ cX11_sitters) 167 [some (.ref 48), some (.int l1), some (.int l2), some (.int l3), some (.int l4), none, some (.int l6)] [.int s0] w (f_X11_sitters_B167 k69 w l1 l2 l3 l4 l6 s0) := by
  unfold f_X11_sitters_B167
  refine e_istore G (pc := 167) (L' := [some (.ref 48), some (.int l1), some (.int l2), some (.int l3), some (.int l4), some (.int s0), some (.int l6)]) dX11_sitters_167 (Nat.le_of_ble_eq_true rfl) rfl ?_
  refine e_iload G (pc := 169) dX11_sitters_169 rfl ?_
  refine e_if_eq G (pc := 171) (tgt := 209) dX11_sitters_171 (by decide) ?_ ?_
  · refine e_wk (L' := [some (.ref 48), some (.int l1), some (.int l2), some (.int l3), some (.int l4), some (.int s0), none]) (And.intro rfl (And.intro rfl (And.intro rfl (And.intro rfl (And.intro rfl (And.intro rfl (trivial))))))) ?_
    exact t_X11_sitters_B209 G k69 hk69 w l1 l2 l3 l4 s0 
  · refine e_aload_n G (pc := 174) dX11_sitters_174 rfl rfl ?_
    refine e_aload_n G (pc := 175) dX11_sitters_175 rfl rfl ?_
    refine e_getF G (pc := 176) sh_48 rfl lk_X11_58 dX11_sitters_176 ?_
    refine e_iload G (pc := 179) dX11_sitters_179 rfl ?_
    refine e_lald G (pc := 181) sh_65 dX11_sitters_181 (fun v1 => ?_)
    refine e_l2i G (pc := 182) dX11_sitters_182 ?_
    refine e_aload_n G (pc := 183) dX11_sitters_183 rfl rfl ?_
    refine e_getF G (pc := 184) sh_48 rfl lk_X11_58 dX11_sitters_184 ?_
    refine e_iload G (pc := 187) dX11_sitters_187 rfl ?_
    refine e_iconst G (pc := 189) (v := 1) dX11_sitters_189 (by decide) ?_
    refine e_iadd G (pc := 190) dX11_sitters_190 ?_
    refine e_lald G (pc := 191) sh_65 dX11_sitters_191 (fun v2 => ?_)
    refine e_l2i G (pc := 192) dX11_sitters_192 ?_
    refine e_aload_n G (pc := 193) dX11_sitters_193 rfl rfl ?_
    refine e_getF G (pc := 194) sh_48 rfl lk_X11_58 dX11_sitters_194 ?_
    refine e_iload G (pc := 197) dX11_sitters_197 rfl ?_
    refine e_iconst G (pc := 199) (v := 2) dX11_sitters_199 (by decide) ?_
    refine e_iadd G (pc := 200) dX11_sitters_200 ?_
    refine e_lald G (pc := 201) sh_65 dX11_sitters_201 (fun v3 => ?_)
    refine e_l2i G (pc := 202) dX11_sitters_202 ?_
    refine e_cVv G (pc := 203) (As := [.int (Int64.toInt32 v1), .int (Int64.toInt32 v2), .int (Int64.toInt32 v3)]) (st := []) cv_X11_104 (c_X11_adds w (Int64.toInt32 v1) (Int64.toInt32 v2) (Int64.toInt32 v3) ) sh_48 (Nat.le_of_ble_eq_true rfl) rfl (Nat.le_of_ble_eq_true rfl) dX11_sitters_203 (fun r4 w5 => ?_)
    refine e_iinc G (pc := 206) (x := l4) (v := l4 + 1) (L' := fun v6 => [some (.ref 48), some (.int l1), some (.int l2), some (.int l3), some (.int v6), some (.int s0), some (.int l6)]) dX11_sitters_206 (Nat.le_of_ble_eq_true rfl) rfl (by rfl) (fun _ => rfl) (fun v6 => ?_)
    refine e_wk (L' := [some (.ref 48), some (.int l1), some (.int l2), some (.int l3), some (.int v6), some (.int s0), none]) (And.intro rfl (And.intro rfl (And.intro rfl (And.intro rfl (And.intro rfl (And.intro rfl (trivial))))))) ?_
    exact t_X11_sitters_B209 G k69 hk69 w5 l1 l2 l3 v6 s0 
set_option maxRecDepth 100000 in
set_option maxHeartbeats 4000000 in
theorem t_X11_sitters_B166 {E : qE} {Γ : qC} (G : q_Ok E Γ RX11 cX11_sitters 7 (5)) (k69 : qW → Int32 → Int32 → Int32 → Int32 → Int32 → Option (Int32 × qW)) (hk69 : ∀ (w : qW) (l1 : Int32) (l2 : Int32) (l3 : Int32) (l4 : Int32) (l5 : Int32), q_Ev E Γ 7 (q_Fi E Γ cX11_sitters) 69 [some (.ref 48), some (.int l1), some (.int l2), some (.int l3), some (.int l4), some (.int l5), none] [] w (k69 w l1 l2 l3 l4 l5)) (w : qW) (l1 : Int32) (l2 : Int32) (l3 : Int32) (l4 : Int32) (l6 : Int32) : q_Ev E Γ 7 (q_Fi E Γ cX11_sitters) 166 [some (.ref 48), some (.int l1), some (.int l2), some (.int l3), some (.int l4), none, some (.int l6)] [] w (f_X11_sitters_B166 k69 w l1 l2 l3 l4 l6) := by
  unfold f_X11_sitters_B166
  refine e_iconst G (pc := 166) (v := 0) dX11_sitters_166 (by decide) ?_
  exact t_X11_sitters_B167 G k69 hk69 w l1 l2 l3 l4 l6 0 
set_option maxRecDepth 100000 in
set_option maxHeartbeats 4000000 in
theorem t_X11_sitters_B111 {E : qE} {Γ : qC} (G : q_Ok E Γ RX11 cX11_sitters 7 (5)) (k69 : qW → Int32 → Int32 → Int32 → Int32 → Int32 → Option (Int32 × qW)) (hk69 : ∀ (w : qW) (l1 : Int32) (l2 : Int32) (l3 : Int32) (l4 : Int32) (l5 : Int32), q_Ev E Γ 7 (q_Fi E Γ cX11_sitters) 69 [some (.ref 48), some (.int l1), some (.int l2), some (.int l3), some (.int l4), some (.int l5), none] [] w (k69 w l1 l2 l3 l4 l5)) (w : qW) (l1 : Int32) (l2 : Int32) (l3 : Int32) (l4 : Int32) (s0 : Int32) : q_Ev E Γ 7 (q_Fi E Γ cX11_sitters) 111 [some (.ref 48), some (.int l1), some (.int l2), some (.int l3), some (.int l4), none, none] [.int s0] w (f_X11_sitters_B111 k69 w l1 l2 l3 l4 s0) := by
  unfold f_X11_sitters_B111
  refine e_istore G (pc := 111) (L' := [some (.ref 48), some (.int l1), some (.int l2), some (.int l3), some (.int l4), some (.int s0), none]) dX11_sitters_111 (Nat.le_of_ble_eq_true rfl) rfl ?_
  refine e_bipush G (pc := 113) (v := 60) dX11_sitters_113 (by decide) ?_
  refine e_iload_n G (pc := 115) dX11_sitters_115 rfl rfl ?_
  refine e_imul G (pc := 116) dX11_sitters_116 ?_
  refine e_iload_n G (pc := 117) dX11_sitters_117 rfl rfl ?_
  refine e_iadd G (pc := 118) dX11_sitters_118 ?_
  refine e_iconst G (pc := 119) (v := 3) dX11_sitters_119 (by decide) ?_
  refine e_iload G (pc := 120) dX11_sitters_120 rfl ?_
  refine e_imul G (pc := 122) dX11_sitters_122 ?_
  refine e_iadd G (pc := 123) dX11_sitters_123 ?_
  refine e_ti (fun v1 => ?_)
  refine e_istore G (pc := 124) (L' := [some (.ref 48), some (.int l1), some (.int l2), some (.int l3), some (.int l4), some (.int s0), some (.int v1)]) dX11_sitters_124 (Nat.le_of_ble_eq_true rfl) rfl ?_
  refine e_iload G (pc := 126) dX11_sitters_126 rfl ?_
  refine e_if_eq G (pc := 128) (tgt := 166) dX11_sitters_128 (by decide) ?_ ?_
  · refine e_wk (L' := [some (.ref 48), some (.int l1), some (.int l2), some (.int l3), some (.int l4), none, some (.int v1)]) (And.intro rfl (And.intro rfl (And.intro rfl (And.intro rfl (And.intro rfl (And.intro rfl (trivial))))))) ?_
    exact t_X11_sitters_B166 G k69 hk69 w l1 l2 l3 l4 v1 
  · refine e_aload_n G (pc := 131) dX11_sitters_131 rfl rfl ?_
    refine e_getF G (pc := 132) sh_48 rfl lk_X11_58 dX11_sitters_132 ?_
    refine e_iload G (pc := 135) dX11_sitters_135 rfl ?_
    refine e_lald G (pc := 137) sh_65 dX11_sitters_137 (fun v2 => ?_)
    refine e_aload_n G (pc := 138) dX11_sitters_138 rfl rfl ?_
    refine e_getF G (pc := 139) sh_48 rfl lk_X11_58 dX11_sitters_139 ?_
    refine e_iload G (pc := 142) dX11_sitters_142 rfl ?_
    refine e_iconst G (pc := 144) (v := 1) dX11_sitters_144 (by decide) ?_
    refine e_iadd G (pc := 145) dX11_sitters_145 ?_
    refine e_lald G (pc := 146) sh_65 dX11_sitters_146 (fun v3 => ?_)
    refine e_aload_n G (pc := 147) dX11_sitters_147 rfl rfl ?_
    refine e_getF G (pc := 148) sh_48 rfl lk_X11_58 dX11_sitters_148 ?_
    refine e_iload G (pc := 151) dX11_sitters_151 rfl ?_
    refine e_iconst G (pc := 153) (v := 2) dX11_sitters_153 (by decide) ?_
    refine e_iadd G (pc := 154) dX11_sitters_154 ?_
    refine e_lald G (pc := 155) sh_65 dX11_sitters_155 (fun v4 => ?_)
    refine e_cSi G (pc := 156) (ci := 0) (id := 0) (sl := []) (As := [.long v2, .long v3, .long v4]) (st := []) cs_X11_101 (c_X11_mayCome w v2 v3 v4 ) (Nat.le_of_ble_eq_true rfl) rfl (Nat.le_of_ble_eq_true rfl) dX11_sitters_156 (fun r5 w6 => ?_)
    refine e_if_eq G (pc := 159) (tgt := 166) dX11_sitters_159 (by decide) ?_ ?_
    · refine e_wk (L' := [some (.ref 48), some (.int l1), some (.int l2), some (.int l3), some (.int l4), none, some (.int v1)]) (And.intro rfl (And.intro rfl (And.intro rfl (And.intro rfl (And.intro rfl (And.intro rfl (trivial))))))) ?_
      exact t_X11_sitters_B166 G k69 hk69 w6 l1 l2 l3 l4 v1 
    · refine e_iconst G (pc := 162) (v := 1) dX11_sitters_162 (by decide) ?_
      refine e_goto G (pc := 163) (tgt := 167) dX11_sitters_163 (by decide) ?_
      refine e_wk (L' := [some (.ref 48), some (.int l1), some (.int l2), some (.int l3), some (.int l4), none, some (.int v1)]) (And.intro rfl (And.intro rfl (And.intro rfl (And.intro rfl (And.intro rfl (And.intro rfl (trivial))))))) ?_
      exact t_X11_sitters_B167 G k69 hk69 w6 l1 l2 l3 l4 v1 1 
set_option maxRecDepth 100000 in
set_option maxHeartbeats 4000000 in
theorem t_X11_sitters_B110 {E : qE} {Γ : qC} (G : q_Ok E Γ RX11 cX11_sitters 7 (5)) (k69 : qW → Int32 → Int32 → Int32 → Int32 → Int32 → Option (Int32 × qW)) (hk69 : ∀ (w : qW) (l1 : Int32) (l2 : Int32) (l3 : Int32) (l4 : Int32) (l5 : Int32), q_Ev E Γ 7 (q_Fi E Γ cX11_sitters) 69 [some (.ref 48), some (.int l1), some (.int l2), some (.int l3), some (.int l4), some (.int l5), none] [] w (k69 w l1 l2 l3 l4 l5)) (w : qW) (l1 : Int32) (l2 : Int32) (l3 : Int32) (l4 : Int32) : q_Ev E Γ 7 (q_Fi E Γ cX11_sitters) 110 [some (.ref 48), some (.int l1), some (.int l2), some (.int l3), some (.int l4), none, none] [] w (f_X11_sitters_B110 k69 w l1 l2 l3 l4) := by
  unfold f_X11_sitters_B110
  refine e_iconst G (pc := 110) (v := 0) dX11_sitters_110 (by decide) ?_
  exact t_X11_sitters_B111 G k69 hk69 w l1 l2 l3 l4 0 
set_option maxRecDepth 100000 in
set_option maxHeartbeats 4000000 in
theorem t_X11_sitters_B69 {E : qE} {Γ : qC} (G : q_Ok E Γ RX11 cX11_sitters 7 (5)) (k69 : qW → Int32 → Int32 → Int32 → Int32 → Int32 → Option (Int32 × qW)) (hk69 : ∀ (w : qW) (l1 : Int32) (l2 : Int32) (l3 : Int32) (l4 : Int32) (l5 : Int32), q_Ev E Γ 7 (q_Fi E Γ cX11_sitters) 69 [some (.ref 48), some (.int l1), some (.int l2), some (.int l3), some (.int l4), some (.int l5), none] [] w (k69 w l1 l2 l3 l4 l5)) (w : qW) (l1 : Int32) (l2 : Int32) (l3 : Int32) (l4 : Int32) (l5 : Int32) : q_Ev E Γ 7 (q_Fi E Γ cX11_sitters) 69 [some (.ref 48), some (.int l1), some (.int l2), some (.int l3), some (.int l4), some (.int l5), none] [] w (f_X11_sitters_B69 k69 w l1 l2 l3 l4 l5) := by
  unfold f_X11_sitters_B69
  refine e_iload G (pc := 69) dX11_sitters_69 rfl ?_
  refine e_if_eq G (pc := 71) (tgt := 212) dX11_sitters_71 (by decide) ?_ ?_
  · refine e_iload G (pc := 212) dX11_sitters_212 rfl ?_
    exact e_iret dX11_sitters_214
  · refine e_iload G (pc := 74) dX11_sitters_74 rfl ?_
    refine e_iload_n G (pc := 76) dX11_sitters_76 rfl rfl ?_
    refine e_icmp_ge G (pc := 77) (tgt := 212) dX11_sitters_77 (by decide) ?_ ?_
    · refine e_iload G (pc := 212) dX11_sitters_212 rfl ?_
      exact e_iret dX11_sitters_214
    · refine e_iload_n G (pc := 80) dX11_sitters_80 rfl rfl ?_
      refine e_aload_n G (pc := 81) dX11_sitters_81 rfl rfl ?_
      refine e_getF G (pc := 82) sh_48 rfl lk_X11_55 dX11_sitters_82 ?_
      refine e_iload_n G (pc := 85) dX11_sitters_85 rfl rfl ?_
      refine e_iald G (pc := 86) sh_64 dX11_sitters_86 (fun v1 => ?_)
      refine e_iconst G (pc := 87) (v := 3) dX11_sitters_87 (by decide) ?_
      refine e_isub G (pc := 88) dX11_sitters_88 ?_
      refine e_iconst G (pc := 89) (v := 3) dX11_sitters_89 (by decide) ?_
      refine e_iload G (pc := 90) dX11_sitters_90 rfl ?_
      refine e_imul G (pc := 92) dX11_sitters_92 ?_
      refine e_isub G (pc := 93) dX11_sitters_93 ?_
      refine e_icmp_gt G (pc := 94) (tgt := 110) dX11_sitters_94 (by decide) ?_ ?_
      · refine e_wk (L' := [some (.ref 48), some (.int l1), some (.int l2), some (.int l3), some (.int l4), none, none]) (And.intro rfl (And.intro rfl (And.intro rfl (And.intro rfl (And.intro rfl (trivial)))))) ?_
        exact t_X11_sitters_B110 G k69 hk69 w l1 l2 l3 l4 
      · refine e_aload_n G (pc := 97) dX11_sitters_97 rfl rfl ?_
        refine e_getI G (pc := 98) sh_48 rfl lk_X11_82 dX11_sitters_98 ?_
        refine e_bipush G (pc := 101) (v := 8) dX11_sitters_101 (by decide) ?_
        refine e_icmp_ge G (pc := 103) (tgt := 110) dX11_sitters_103 (by decide) ?_ ?_
        · refine e_wk (L' := [some (.ref 48), some (.int l1), some (.int l2), some (.int l3), some (.int l4), none, none]) (And.intro rfl (And.intro rfl (And.intro rfl (And.intro rfl (And.intro rfl (trivial)))))) ?_
          exact t_X11_sitters_B110 G k69 hk69 w l1 l2 l3 l4 
        · refine e_iconst G (pc := 106) (v := 1) dX11_sitters_106 (by decide) ?_
          refine e_goto G (pc := 107) (tgt := 111) dX11_sitters_107 (by decide) ?_
          refine e_wk (L' := [some (.ref 48), some (.int l1), some (.int l2), some (.int l3), some (.int l4), none, none]) (And.intro rfl (And.intro rfl (And.intro rfl (And.intro rfl (And.intro rfl (trivial)))))) ?_
          exact t_X11_sitters_B111 G k69 hk69 w l1 l2 l3 l4 1 
set_option maxRecDepth 100000 in
set_option maxHeartbeats 4000000 in
theorem t_X11_sitters_R69 {E : qE} {Γ : qC} (G : q_Ok E Γ RX11 cX11_sitters 7 (5)) : ∀ (fuel : Nat) (w : qW) (l1 : Int32) (l2 : Int32) (l3 : Int32) (l4 : Int32) (l5 : Int32) , q_Ev E Γ 7 (q_Fi E Γ cX11_sitters) 69 [some (.ref 48), some (.int l1), some (.int l2), some (.int l3), some (.int l4), some (.int l5), none] [] w (f_X11_sitters_R69 fuel w l1 l2 l3 l4 l5) := by
  intro fuel
  induction fuel with
  | zero => intros; exact e_none
  | succ fuel ih =>
    intro w l1 l2 l3 l4 l5 
    exact t_X11_sitters_B69 G _ ih w l1 l2 l3 l4 l5 
set_option maxRecDepth 100000 in
set_option maxHeartbeats 4000000 in
theorem t_X11_sitters_B67 {E : qE} {Γ : qC} (G : q_Ok E Γ RX11 cX11_sitters 7 (5)) (w : qW) (l1 : Int32) (l2 : Int32) (l3 : Int32) (l4 : Int32) (s0 : Int32) : q_Ev E Γ 7 (q_Fi E Γ cX11_sitters) 67 [some (.ref 48), some (.int l1), some (.int l2), some (.int l3), some (.int l4), none, none] [.int s0] w (f_X11_sitters_B67 w l1 l2 l3 l4 s0) := by
  unfold f_X11_sitters_B67
  refine e_istore G (pc := 67) (L' := [some (.ref 48), some (.int l1), some (.int l2), some (.int l3), some (.int l4), some (.int s0), none]) dX11_sitters_67 (Nat.le_of_ble_eq_true rfl) rfl ?_
  exact t_X11_sitters_R69 G  q_fuel w l1 l2 l3 l4 s0 
set_option maxRecDepth 100000 in
set_option maxHeartbeats 4000000 in
theorem t_X11_sitters_B66 {E : qE} {Γ : qC} (G : q_Ok E Γ RX11 cX11_sitters 7 (5)) (w : qW) (l1 : Int32) (l2 : Int32) (l3 : Int32) (l4 : Int32) : q_Ev E Γ 7 (q_Fi E Γ cX11_sitters) 66 [some (.ref 48), some (.int l1), some (.int l2), some (.int l3), some (.int l4), none, none] [] w (f_X11_sitters_B66 w l1 l2 l3 l4) := by
  unfold f_X11_sitters_B66
  refine e_iconst G (pc := 66) (v := 0) dX11_sitters_66 (by decide) ?_
  exact t_X11_sitters_B67 G w l1 l2 l3 l4 0 
set_option maxRecDepth 100000 in
set_option maxHeartbeats 4000000 in
theorem t_X11_sitters_B44 {E : qE} {Γ : qC} (G : q_Ok E Γ RX11 cX11_sitters 7 (5)) (w : qW) (l1 : Int32) (l2 : Int32) (l3 : Int32) : q_Ev E Γ 7 (q_Fi E Γ cX11_sitters) 44 [some (.ref 48), some (.int l1), some (.int l2), some (.int l3), none, none, none] [] w (f_X11_sitters_B44 w l1 l2 l3) := by
  unfold f_X11_sitters_B44
  refine e_iconst G (pc := 44) (v := 0) dX11_sitters_44 (by decide) ?_
  refine e_istore G (pc := 45) (L' := [some (.ref 48), some (.int l1), some (.int l2), some (.int l3), some (.int 0), none, none]) dX11_sitters_45 (Nat.le_of_ble_eq_true rfl) rfl ?_
  refine e_aload_n G (pc := 47) dX11_sitters_47 rfl rfl ?_
  refine e_getF G (pc := 48) sh_48 rfl lk_X11_52 dX11_sitters_48 ?_
  refine e_iload_n G (pc := 51) dX11_sitters_51 rfl rfl ?_
  refine e_iald G (pc := 52) sh_63 dX11_sitters_52 (fun v1 => ?_)
  refine e_bipush G (pc := 53) (v := 51) dX11_sitters_53 (by decide) ?_
  refine e_icmp_ne G (pc := 55) (tgt := 66) dX11_sitters_55 (by decide) ?_ ?_
  · exact t_X11_sitters_B66 G w l1 l2 l3 0 
  · refine e_iload_n G (pc := 58) dX11_sitters_58 rfl rfl ?_
    refine e_if_lt G (pc := 59) (tgt := 66) dX11_sitters_59 (by decide) ?_ ?_
    · exact t_X11_sitters_B66 G w l1 l2 l3 0 
    · refine e_iconst G (pc := 62) (v := 1) dX11_sitters_62 (by decide) ?_
      refine e_goto G (pc := 63) (tgt := 67) dX11_sitters_63 (by decide) ?_
      exact t_X11_sitters_B67 G w l1 l2 l3 0 1 
set_option maxRecDepth 100000 in
set_option maxHeartbeats 4000000 in
theorem t_X11_sitters {E : qE} {Γ : qC} (G : q_Ok E Γ RX11 cX11_sitters 7 (5)) (w : qW) (a1 : Int32) (a2 : Int32) (a3 : Int32) : q_Ev E Γ 7 (q_Fi E Γ cX11_sitters) 0 [some (.ref 48), some (.int a1), some (.int a2), some (.int a3), none, none, none] [] w (f_X11_sitters w a1 a2 a3) := by
  unfold f_X11_sitters
  refine e_iload_n G (pc := 0) dX11_sitters_0 rfl rfl ?_
  refine e_cSi G (pc := 1) (ci := 0) (id := 0) (sl := []) (As := [.int a1]) (st := []) cs_X11_108 (c_X11_isShelf w a1 ) (Nat.le_of_ble_eq_true rfl) rfl (Nat.le_of_ble_eq_true rfl) dX11_sitters_1 (fun r1 w2 => ?_)
  refine e_if_eq G (pc := 4) (tgt := 19) dX11_sitters_4 (by decide) ?_ ?_
  · refine e_iconst G (pc := 19) (v := (-1)) dX11_sitters_19 (by decide) ?_
    exact e_iret dX11_sitters_20
  · refine e_iload_n G (pc := 7) dX11_sitters_7 rfl rfl ?_
    refine e_i2l G (pc := 8) dX11_sitters_8 ?_
    refine e_lconst G (pc := 9) (v := 1) dX11_sitters_9 (by decide) ?_
    refine e_ldc2 G (pc := 10) kl_X11_112 dX11_sitters_10 ?_
    refine e_cSi G (pc := 13) (ci := 0) (id := 0) (sl := []) (As := [.long (Int32.toInt64 a3), .long 1, .long 8]) (st := []) cs_X11_78 (c_X11_within w2 (Int32.toInt64 a3) 1 8 ) (Nat.le_of_ble_eq_true rfl) rfl (Nat.le_of_ble_eq_true rfl) dX11_sitters_13 (fun r3 w4 => ?_)
    refine e_if_ne G (pc := 16) (tgt := 21) dX11_sitters_16 (by decide) ?_ ?_
    · refine e_aload_n G (pc := 21) dX11_sitters_21 rfl rfl ?_
      refine e_getF G (pc := 22) sh_48 rfl lk_X11_52 dX11_sitters_22 ?_
      refine e_iload_n G (pc := 25) dX11_sitters_25 rfl rfl ?_
      refine e_iald G (pc := 26) sh_63 dX11_sitters_26 (fun v5 => ?_)
      refine e_if_lt G (pc := 27) (tgt := 44) dX11_sitters_27 (by decide) ?_ ?_
      · exact t_X11_sitters_B44 G w4 a1 a2 a3 
      · refine e_aload_n G (pc := 30) dX11_sitters_30 rfl rfl ?_
        refine e_getF G (pc := 31) sh_48 rfl lk_X11_52 dX11_sitters_31 ?_
        refine e_iload_n G (pc := 34) dX11_sitters_34 rfl rfl ?_
        refine e_iald G (pc := 35) sh_63 dX11_sitters_35 (fun v6 => ?_)
        refine e_bipush G (pc := 36) (v := 51) dX11_sitters_36 (by decide) ?_
        refine e_icmp_eq G (pc := 38) (tgt := 44) dX11_sitters_38 (by decide) ?_ ?_
        · exact t_X11_sitters_B44 G w4 a1 a2 a3 
        · refine e_bipush G (pc := 41) (v := (-12)) dX11_sitters_41 (by decide) ?_
          exact e_iret dX11_sitters_43
    · refine e_iconst G (pc := 19) (v := (-1)) dX11_sitters_19 (by decide) ?_
      exact e_iret dX11_sitters_20
set_option maxRecDepth 100000 in
set_option maxHeartbeats 4000000 in
theorem c_X11_sitters (w : qW) (a1 : Int32) (a2 : Int32) (a3 : Int32) : q_AC q_vi (some .int) (5) yX11_sitters cX11_sitters 7 [.ref 48, .int a1, .int a2, .int a3] w (f_X11_sitters w a1 a2 a3) := q_met_i (k := 3) (by decide +kernel) rfl rfl rfl (fun _ _ G => t_X11_sitters G w a1 a2 a3 )
set_option maxRecDepth 100000 in
set_option maxHeartbeats 4000000 in
theorem t_X11_placeOf {E : qE} {Γ : qC} (G : q_Ok E Γ RX11 cX11_placeOf 3 (4)) (w : qW) (a1 : Int32) (a2 : Int32) : q_Ev E Γ 3 (q_Fi E Γ cX11_placeOf) 0 [some (.ref 48), some (.int a1), some (.int a2)] [] w (f_X11_placeOf w a1 a2) := by
  unfold f_X11_placeOf
  refine e_iload_n G (pc := 0) dX11_placeOf_0 rfl rfl ?_
  refine e_i2l G (pc := 1) dX11_placeOf_1 ?_
  refine e_lconst G (pc := 2) (v := 0) dX11_placeOf_2 (by decide) ?_
  refine e_ldc2 G (pc := 3) kl_X11_114 dX11_placeOf_3 ?_
  refine e_cSi G (pc := 6) (ci := 0) (id := 0) (sl := []) (As := [.long (Int32.toInt64 a2), .long 0, .long 3]) (st := []) cs_X11_78 (c_X11_within w (Int32.toInt64 a2) 0 3 ) (Nat.le_of_ble_eq_true rfl) rfl (Nat.le_of_ble_eq_true rfl) dX11_placeOf_6 (fun r1 w2 => ?_)
  refine e_if_eq G (pc := 9) (tgt := 32) dX11_placeOf_9 (by decide) ?_ ?_
  · refine e_iload_n G (pc := 32) dX11_placeOf_32 rfl rfl ?_
    refine e_i2l G (pc := 33) dX11_placeOf_33 ?_
    refine e_ldc2 G (pc := 34) kl_X11_119 dX11_placeOf_34 ?_
    refine e_ldc2 G (pc := 37) kl_X11_99 dX11_placeOf_37 ?_
    refine e_cSi G (pc := 40) (ci := 0) (id := 0) (sl := []) (As := [.long (Int32.toInt64 a2), .long 4, .long 6]) (st := []) cs_X11_78 (c_X11_within w2 (Int32.toInt64 a2) 4 6 ) (Nat.le_of_ble_eq_true rfl) rfl (Nat.le_of_ble_eq_true rfl) dX11_placeOf_40 (fun r3 w4 => ?_)
    refine e_if_eq G (pc := 43) (tgt := 71) dX11_placeOf_43 (by decide) ?_ ?_
    · refine e_iload_n G (pc := 71) dX11_placeOf_71 rfl rfl ?_
      refine e_bipush G (pc := 72) (v := 7) dX11_placeOf_72 (by decide) ?_
      refine e_icmp_ne G (pc := 74) (tgt := 86) dX11_placeOf_74 (by decide) ?_ ?_
      · refine e_iconst G (pc := 86) (v := (-1)) dX11_placeOf_86 (by decide) ?_
        exact e_iret dX11_placeOf_87
      · refine e_iload_n G (pc := 77) dX11_placeOf_77 rfl rfl ?_
        refine e_if_ne G (pc := 78) (tgt := 86) dX11_placeOf_78 (by decide) ?_ ?_
        · refine e_iconst G (pc := 86) (v := (-1)) dX11_placeOf_86 (by decide) ?_
          exact e_iret dX11_placeOf_87
        · refine e_bipush G (pc := 81) (v := 56) dX11_placeOf_81 (by decide) ?_
          refine e_goto G (pc := 83) (tgt := 87) dX11_placeOf_83 (by decide) ?_
          exact e_iret dX11_placeOf_87
    · refine e_aload_n G (pc := 46) dX11_placeOf_46 rfl rfl ?_
      refine e_iload_n G (pc := 47) dX11_placeOf_47 rfl rfl ?_
      refine e_i2l G (pc := 48) dX11_placeOf_48 ?_
      refine e_cVi G (pc := 49) (As := [.long (Int32.toInt64 a1)]) (st := []) cv_X11_121 (c_X11_isSitter w4 (Int32.toInt64 a1) ) sh_48 (Nat.le_of_ble_eq_true rfl) rfl (Nat.le_of_ble_eq_true rfl) dX11_placeOf_49 (fun r5 w6 => ?_)
      refine e_if_eq G (pc := 52) (tgt := 69) dX11_placeOf_52 (by decide) ?_ ?_
      · refine e_iconst G (pc := 69) (v := (-1)) dX11_placeOf_69 (by decide) ?_
        exact e_iret dX11_placeOf_70
      · refine e_bipush G (pc := 55) (v := 32) dX11_placeOf_55 (by decide) ?_
        refine e_bipush G (pc := 57) (v := 8) dX11_placeOf_57 (by decide) ?_
        refine e_iload_n G (pc := 59) dX11_placeOf_59 rfl rfl ?_
        refine e_iconst G (pc := 60) (v := 4) dX11_placeOf_60 (by decide) ?_
        refine e_isub G (pc := 61) dX11_placeOf_61 ?_
        refine e_imul G (pc := 62) dX11_placeOf_62 ?_
        refine e_iadd G (pc := 63) dX11_placeOf_63 ?_
        refine e_iload_n G (pc := 64) dX11_placeOf_64 rfl rfl ?_
        refine e_iadd G (pc := 65) dX11_placeOf_65 ?_
        refine e_goto G (pc := 66) (tgt := 70) dX11_placeOf_66 (by decide) ?_
        exact e_iret dX11_placeOf_70
  · refine e_aload_n G (pc := 12) dX11_placeOf_12 rfl rfl ?_
    refine e_iload_n G (pc := 13) dX11_placeOf_13 rfl rfl ?_
    refine e_i2l G (pc := 14) dX11_placeOf_14 ?_
    refine e_cVi G (pc := 15) (As := [.long (Int32.toInt64 a1)]) (st := []) cv_X11_116 (c_X11_isMan w2 (Int32.toInt64 a1) ) sh_48 (Nat.le_of_ble_eq_true rfl) rfl (Nat.le_of_ble_eq_true rfl) dX11_placeOf_15 (fun r7 w8 => ?_)
    refine e_if_eq G (pc := 18) (tgt := 30) dX11_placeOf_18 (by decide) ?_ ?_
    · refine e_iconst G (pc := 30) (v := (-1)) dX11_placeOf_30 (by decide) ?_
      exact e_iret dX11_placeOf_31
    · refine e_bipush G (pc := 21) (v := 8) dX11_placeOf_21 (by decide) ?_
      refine e_iload_n G (pc := 23) dX11_placeOf_23 rfl rfl ?_
      refine e_imul G (pc := 24) dX11_placeOf_24 ?_
      refine e_iload_n G (pc := 25) dX11_placeOf_25 rfl rfl ?_
      refine e_iadd G (pc := 26) dX11_placeOf_26 ?_
      refine e_goto G (pc := 27) (tgt := 31) dX11_placeOf_27 (by decide) ?_
      exact e_iret dX11_placeOf_31
set_option maxRecDepth 100000 in
set_option maxHeartbeats 4000000 in
theorem c_X11_placeOf (w : qW) (a1 : Int32) (a2 : Int32) : q_AC q_vi (some .int) (4) yX11_placeOf cX11_placeOf 3 [.ref 48, .int a1, .int a2] w (f_X11_placeOf w a1 a2) := q_met_i (k := 0) (by decide +kernel) rfl rfl rfl (fun _ _ G => t_X11_placeOf G w a1 a2 )
set_option maxRecDepth 100000 in
set_option maxHeartbeats 4000000 in
theorem t_X11_mayBecome {E : qE} {Γ : qC} (G : q_Ok E Γ RX11 cX11_mayBecome 2 (4)) (w : qW) (a1 : Int32) (a2 : Int32) : q_Ev E Γ 2 (q_Fz E Γ cX11_mayBecome) 0 [some (.int a1), some (.int a2)] [] w (f_X11_mayBecome w a1 a2) := by
  unfold f_X11_mayBecome
  refine e_iload_n G (pc := 0) dX11_mayBecome_0 rfl rfl ?_
  refine e_ite (fun h3 => ?_) (fun h3 => ?_)
  · refine e_tsIn G (pc := 1) (off := 43) (tgt := 44) dX11_mayBecome_1 (by rw [h3]; decide) (by rw [h3]; decide) (by rw [h3]; rfl) (by decide) ?_
    refine e_iload_n G (pc := 44) dX11_mayBecome_44 rfl rfl ?_
    refine e_i2l G (pc := 45) dX11_mayBecome_45 ?_
    refine e_cSi G (pc := 46) (ci := 0) (id := 0) (sl := []) (As := [.long (Int32.toInt64 a2)]) (st := []) cs_X11_89 (c_X11_isCell w (Int32.toInt64 a2) ) (Nat.le_of_ble_eq_true rfl) rfl (Nat.le_of_ble_eq_true rfl) dX11_mayBecome_46 (fun r1 w2 => ?_)
    exact e_zret dX11_mayBecome_49
  refine e_ite (fun h6 => ?_) (fun h6 => ?_)
  · refine e_tsIn G (pc := 1) (off := 49) (tgt := 50) dX11_mayBecome_1 (by rw [h6]; decide) (by rw [h6]; decide) (by rw [h6]; rfl) (by decide) ?_
    refine e_iload_n G (pc := 50) dX11_mayBecome_50 rfl rfl ?_
    refine e_i2l G (pc := 51) dX11_mayBecome_51 ?_
    refine e_lconst G (pc := 52) (v := 0) dX11_mayBecome_52 (by decide) ?_
    refine e_ldc2 G (pc := 53) kl_X11_93 dX11_mayBecome_53 ?_
    refine e_cSi G (pc := 56) (ci := 0) (id := 0) (sl := []) (As := [.long (Int32.toInt64 a2), .long 0, .long 2]) (st := []) cs_X11_78 (c_X11_within w (Int32.toInt64 a2) 0 2 ) (Nat.le_of_ble_eq_true rfl) rfl (Nat.le_of_ble_eq_true rfl) dX11_mayBecome_56 (fun r4 w5 => ?_)
    exact e_zret dX11_mayBecome_59
  refine e_ite (fun h9 => ?_) (fun h9 => ?_)
  · refine e_tsIn G (pc := 1) (off := 59) (tgt := 60) dX11_mayBecome_1 (by rw [h9]; decide) (by rw [h9]; decide) (by rw [h9]; rfl) (by decide) ?_
    refine e_iload_n G (pc := 60) dX11_mayBecome_60 rfl rfl ?_
    refine e_i2l G (pc := 61) dX11_mayBecome_61 ?_
    refine e_lconst G (pc := 62) (v := 0) dX11_mayBecome_62 (by decide) ?_
    refine e_ldc2 G (pc := 63) kl_X11_119 dX11_mayBecome_63 ?_
    refine e_cSi G (pc := 66) (ci := 0) (id := 0) (sl := []) (As := [.long (Int32.toInt64 a2), .long 0, .long 4]) (st := []) cs_X11_78 (c_X11_within w (Int32.toInt64 a2) 0 4 ) (Nat.le_of_ble_eq_true rfl) rfl (Nat.le_of_ble_eq_true rfl) dX11_mayBecome_66 (fun r7 w8 => ?_)
    exact e_zret dX11_mayBecome_69
  refine e_ite (fun h12 => ?_) (fun h12 => ?_)
  · refine e_tsIn G (pc := 1) (off := 69) (tgt := 70) dX11_mayBecome_1 (by rw [h12]; decide) (by rw [h12]; decide) (by rw [h12]; rfl) (by decide) ?_
    refine e_iload_n G (pc := 70) dX11_mayBecome_70 rfl rfl ?_
    refine e_i2l G (pc := 71) dX11_mayBecome_71 ?_
    refine e_lconst G (pc := 72) (v := 0) dX11_mayBecome_72 (by decide) ?_
    refine e_ldc2 G (pc := 73) kl_X11_124 dX11_mayBecome_73 ?_
    refine e_cSi G (pc := 76) (ci := 0) (id := 0) (sl := []) (As := [.long (Int32.toInt64 a2), .long 0, .long 99]) (st := []) cs_X11_78 (c_X11_within w (Int32.toInt64 a2) 0 99 ) (Nat.le_of_ble_eq_true rfl) rfl (Nat.le_of_ble_eq_true rfl) dX11_mayBecome_76 (fun r10 w11 => ?_)
    exact e_zret dX11_mayBecome_79
  refine e_ite (fun h15 => ?_) (fun h15 => ?_)
  · refine e_tsIn G (pc := 1) (off := 43) (tgt := 44) dX11_mayBecome_1 (by rw [h15]; decide) (by rw [h15]; decide) (by rw [h15]; rfl) (by decide) ?_
    refine e_iload_n G (pc := 44) dX11_mayBecome_44 rfl rfl ?_
    refine e_i2l G (pc := 45) dX11_mayBecome_45 ?_
    refine e_cSi G (pc := 46) (ci := 0) (id := 0) (sl := []) (As := [.long (Int32.toInt64 a2)]) (st := []) cs_X11_89 (c_X11_isCell w (Int32.toInt64 a2) ) (Nat.le_of_ble_eq_true rfl) rfl (Nat.le_of_ble_eq_true rfl) dX11_mayBecome_46 (fun r13 w14 => ?_)
    exact e_zret dX11_mayBecome_49
  refine e_ite (fun h18 => ?_) (fun h18 => ?_)
  · refine e_tsIn G (pc := 1) (off := 79) (tgt := 80) dX11_mayBecome_1 (by rw [h18]; decide) (by rw [h18]; decide) (by rw [h18]; rfl) (by decide) ?_
    refine e_iload_n G (pc := 80) dX11_mayBecome_80 rfl rfl ?_
    refine e_i2l G (pc := 81) dX11_mayBecome_81 ?_
    refine e_lconst G (pc := 82) (v := 0) dX11_mayBecome_82 (by decide) ?_
    refine e_ldc2 G (pc := 83) kl_X11_95 dX11_mayBecome_83 ?_
    refine e_cSi G (pc := 86) (ci := 0) (id := 0) (sl := []) (As := [.long (Int32.toInt64 a2), .long 0, .long 4095]) (st := []) cs_X11_78 (c_X11_within w (Int32.toInt64 a2) 0 4095 ) (Nat.le_of_ble_eq_true rfl) rfl (Nat.le_of_ble_eq_true rfl) dX11_mayBecome_86 (fun r16 w17 => ?_)
    exact e_zret dX11_mayBecome_89
  refine e_ite (fun h21 => ?_) (fun h21 => ?_)
  · refine e_tsIn G (pc := 1) (off := 89) (tgt := 90) dX11_mayBecome_1 (by rw [h21]; decide) (by rw [h21]; decide) (by rw [h21]; rfl) (by decide) ?_
    refine e_iload_n G (pc := 90) dX11_mayBecome_90 rfl rfl ?_
    refine e_i2l G (pc := 91) dX11_mayBecome_91 ?_
    refine e_lconst G (pc := 92) (v := 1) dX11_mayBecome_92 (by decide) ?_
    refine e_ldc2 G (pc := 93) kl_X11_97 dX11_mayBecome_93 ?_
    refine e_cSi G (pc := 96) (ci := 0) (id := 0) (sl := []) (As := [.long (Int32.toInt64 a2), .long 1, .long 12]) (st := []) cs_X11_78 (c_X11_within w (Int32.toInt64 a2) 1 12 ) (Nat.le_of_ble_eq_true rfl) rfl (Nat.le_of_ble_eq_true rfl) dX11_mayBecome_96 (fun r19 w20 => ?_)
    exact e_zret dX11_mayBecome_99
  have h3 := lv_neT h3 (show (0 : Int32).toInt = 0 by decide)
  have h6 := lv_neT h6 (show (1 : Int32).toInt = 1 by decide)
  have h9 := lv_neT h9 (show (2 : Int32).toInt = 2 by decide)
  have h12 := lv_neT h12 (show (3 : Int32).toInt = 3 by decide)
  have h15 := lv_neT h15 (show (4 : Int32).toInt = 4 by decide)
  have h18 := lv_neT h18 (show (5 : Int32).toInt = 5 by decide)
  have h21 := lv_neT h21 (show (6 : Int32).toInt = 6 by decide)
  refine e_tsOut G (pc := 1) (tgt := 100) dX11_mayBecome_1 (by omega) (by decide) ?_
  refine e_iload_n G (pc := 100) dX11_mayBecome_100 rfl rfl ?_
  refine e_i2l G (pc := 101) dX11_mayBecome_101 ?_
  refine e_lconst G (pc := 102) (v := 0) dX11_mayBecome_102 (by decide) ?_
  refine e_ldc2 G (pc := 103) kl_X11_126 dX11_mayBecome_103 ?_
  refine e_cSi G (pc := 106) (ci := 0) (id := 0) (sl := []) (As := [.long (Int32.toInt64 a2), .long 0, .long 9]) (st := []) cs_X11_78 (c_X11_within w (Int32.toInt64 a2) 0 9 ) (Nat.le_of_ble_eq_true rfl) rfl (Nat.le_of_ble_eq_true rfl) dX11_mayBecome_106 (fun r22 w23 => ?_)
  exact e_zret dX11_mayBecome_109
set_option maxRecDepth 100000 in
set_option maxHeartbeats 4000000 in
theorem c_X11_mayBecome (w : qW) (a1 : Int32) (a2 : Int32) : q_AC q_vi (some .boolean) (4) yX11_mayBecome cX11_mayBecome 2 [.int a1, .int a2] w (f_X11_mayBecome w a1 a2) := q_met_z (k := 0) (by decide +kernel) rfl rfl rfl (fun _ _ G => t_X11_mayBecome G w a1 a2 )
set_option maxRecDepth 100000 in
set_option maxHeartbeats 4000000 in
theorem t_X11_mend {E : qE} {Γ : qC} (G : q_Ok E Γ RX11 cX11_mend 5 (5)) (w : qW) (a1 : Int32) (a2 : Int32) (a3 : Int32) : q_Ev E Γ 5 (q_Fi E Γ cX11_mend) 0 [some (.ref 48), some (.int a1), some (.int a2), some (.int a3), none] [] w (f_X11_mend w a1 a2 a3) := by
  unfold f_X11_mend
  refine e_aload_n G (pc := 0) dX11_mend_0 rfl rfl ?_
  refine e_iload_n G (pc := 1) dX11_mend_1 rfl rfl ?_
  refine e_iload_n G (pc := 2) dX11_mend_2 rfl rfl ?_
  refine e_cVi G (pc := 3) (As := [.int a1, .int a2]) (st := []) cv_X11_128 (c_X11_placeOf w a1 a2 ) sh_48 (Nat.le_of_ble_eq_true rfl) rfl (Nat.le_of_ble_eq_true rfl) dX11_mend_3 (fun r1 w2 => ?_)
  refine e_istore G (pc := 6) (L' := [some (.ref 48), some (.int a1), some (.int a2), some (.int a3), some (.int r1)]) dX11_mend_6 (Nat.le_of_ble_eq_true rfl) rfl ?_
  refine e_iload G (pc := 8) dX11_mend_8 rfl ?_
  refine e_if_lt G (pc := 10) (tgt := 31) dX11_mend_10 (by decide) ?_ ?_
  · refine e_iconst G (pc := 31) (v := (-1)) dX11_mend_31 (by decide) ?_
    exact e_iret dX11_mend_32
  · refine e_iload_n G (pc := 13) dX11_mend_13 rfl rfl ?_
    refine e_iload_n G (pc := 14) dX11_mend_14 rfl rfl ?_
    refine e_cSi G (pc := 15) (ci := 0) (id := 0) (sl := []) (As := [.int a2, .int a3]) (st := []) cs_X11_132 (c_X11_mayBecome w2 a2 a3 ) (Nat.le_of_ble_eq_true rfl) rfl (Nat.le_of_ble_eq_true rfl) dX11_mend_15 (fun r3 w4 => ?_)
    refine e_if_eq G (pc := 18) (tgt := 31) dX11_mend_18 (by decide) ?_ ?_
    · refine e_iconst G (pc := 31) (v := (-1)) dX11_mend_31 (by decide) ?_
      exact e_iret dX11_mend_32
    · refine e_aload_n G (pc := 21) dX11_mend_21 rfl rfl ?_
      refine e_iload G (pc := 22) dX11_mend_22 rfl ?_
      refine e_iload_n G (pc := 24) dX11_mend_24 rfl rfl ?_
      refine e_cVi G (pc := 25) (As := [.int r1, .int a3]) (st := []) cv_X11_136 (c_X11_becomes w4 r1 a3 ) sh_48 (Nat.le_of_ble_eq_true rfl) rfl (Nat.le_of_ble_eq_true rfl) dX11_mend_25 (fun r5 w6 => ?_)
      refine e_goto G (pc := 28) (tgt := 32) dX11_mend_28 (by decide) ?_
      exact e_iret dX11_mend_32
set_option maxRecDepth 100000 in
set_option maxHeartbeats 4000000 in
theorem c_X11_mend (w : qW) (a1 : Int32) (a2 : Int32) (a3 : Int32) : q_AC q_vi (some .int) (5) yX11_mend cX11_mend 5 [.ref 48, .int a1, .int a2, .int a3] w (f_X11_mend w a1 a2 a3) := q_met_i (k := 1) (by decide +kernel) rfl rfl rfl (fun _ _ G => t_X11_mend G w a1 a2 a3 )
set_option maxRecDepth 100000 in
set_option maxHeartbeats 4000000 in
theorem t_X11_of {E : qE} {Γ : qC} (G : q_Ok E Γ RX11 cX11_of 4 (5)) (w : qW) (a1 : Int32) (a2 : Int32) : q_Ev E Γ 4 (q_Fi E Γ cX11_of) 0 [some (.ref 48), some (.int a1), some (.int a2), none] [] w (f_X11_of w a1 a2) := by
  unfold f_X11_of
  refine e_aload_n G (pc := 0) dX11_of_0 rfl rfl ?_
  refine e_iload_n G (pc := 1) dX11_of_1 rfl rfl ?_
  refine e_iload_n G (pc := 2) dX11_of_2 rfl rfl ?_
  refine e_cVi G (pc := 3) (As := [.int a1, .int a2]) (st := []) cv_X11_128 (c_X11_placeOf w a1 a2 ) sh_48 (Nat.le_of_ble_eq_true rfl) rfl (Nat.le_of_ble_eq_true rfl) dX11_of_3 (fun r1 w2 => ?_)
  refine e_istore_n G (pc := 6) (L' := [some (.ref 48), some (.int a1), some (.int a2), some (.int r1)]) dX11_of_6 rfl (Nat.le_of_ble_eq_true rfl) rfl ?_
  refine e_iload_n G (pc := 7) dX11_of_7 rfl rfl ?_
  refine e_if_lt G (pc := 8) (tgt := 20) dX11_of_8 (by decide) ?_ ?_
  · refine e_iconst G (pc := 20) (v := (-1)) dX11_of_20 (by decide) ?_
    exact e_iret dX11_of_21
  · refine e_aload_n G (pc := 11) dX11_of_11 rfl rfl ?_
    refine e_getF G (pc := 12) sh_48 rfl lk_X11_9 dX11_of_12 ?_
    refine e_iload_n G (pc := 15) dX11_of_15 rfl rfl ?_
    refine e_iald G (pc := 16) sh_49 dX11_of_16 (fun v3 => ?_)
    refine e_goto G (pc := 17) (tgt := 21) dX11_of_17 (by decide) ?_
    exact e_iret dX11_of_21
set_option maxRecDepth 100000 in
set_option maxHeartbeats 4000000 in
theorem c_X11_of (w : qW) (a1 : Int32) (a2 : Int32) : q_AC q_vi (some .int) (5) yX11_of cX11_of 4 [.ref 48, .int a1, .int a2] w (f_X11_of w a1 a2) := q_met_i (k := 1) (by decide +kernel) rfl rfl rfl (fun _ _ G => t_X11_of G w a1 a2 )
set_option maxRecDepth 100000 in
set_option maxHeartbeats 4000000 in
theorem t_X11_feed {E : qE} {Γ : qC} (G : q_Ok E Γ RX11 cX11_feed 2 (3)) (w : qW) (a1 : Int32) : q_Ev E Γ 2 (q_Fi E Γ cX11_feed) 0 [some (.ref 48), some (.int a1)] [] w (f_X11_feed w a1) := by
  unfold f_X11_feed
  refine e_iload_n G (pc := 0) dX11_feed_0 rfl rfl ?_
  refine e_i2l G (pc := 1) dX11_feed_1 ?_
  refine e_lconst G (pc := 2) (v := 0) dX11_feed_2 (by decide) ?_
  refine e_ldc2 G (pc := 3) kl_X11_139 dX11_feed_3 ?_
  refine e_cSi G (pc := 6) (ci := 0) (id := 0) (sl := []) (As := [.long (Int32.toInt64 a1), .long 0, .long 255]) (st := []) cs_X11_78 (c_X11_within w (Int32.toInt64 a1) 0 255 ) (Nat.le_of_ble_eq_true rfl) rfl (Nat.le_of_ble_eq_true rfl) dX11_feed_6 (fun r1 w2 => ?_)
  refine e_if_ne G (pc := 9) (tgt := 14) dX11_feed_9 (by decide) ?_ ?_
  · refine e_aload_n G (pc := 14) dX11_feed_14 rfl rfl ?_
    refine e_getI G (pc := 15) sh_48 rfl lk_X11_141 dX11_feed_15 ?_
    refine e_bipush G (pc := 18) (v := 120) dX11_feed_18 (by decide) ?_
    refine e_icmp_ne G (pc := 20) (tgt := 26) dX11_feed_20 (by decide) ?_ ?_
    · refine e_aload_n G (pc := 26) dX11_feed_26 rfl rfl ?_
      refine e_getF G (pc := 27) sh_48 rfl lk_X11_22 dX11_feed_27 ?_
      refine e_aload_n G (pc := 30) dX11_feed_30 rfl rfl ?_
      refine e_getI G (pc := 31) sh_48 rfl lk_X11_141 dX11_feed_31 ?_
      refine e_iload_n G (pc := 34) dX11_feed_34 rfl rfl ?_
      refine e_iast G (pc := 35) sh_53 dX11_feed_35 (fun w3 => ?_)
      refine e_aload_n G (pc := 36) dX11_feed_36 rfl rfl ?_
      refine e_dup G (pc := 37) dX11_feed_37 rfl ?_
      refine e_getI G (pc := 38) sh_48 rfl lk_X11_141 dX11_feed_38 ?_
      refine e_iconst G (pc := 41) (v := 1) dX11_feed_41 (by decide) ?_
      refine e_iadd G (pc := 42) dX11_feed_42 ?_
      refine e_putI G (pc := 43) sh_48 rfl lp_X11_141 rfl rfl dX11_feed_43 (fun w4 => ?_)
      refine e_aload_n G (pc := 46) dX11_feed_46 rfl rfl ?_
      refine e_getI G (pc := 47) sh_48 rfl lk_X11_141 dX11_feed_47 ?_
      exact e_iret dX11_feed_50
    · refine e_bipush G (pc := 23) (v := (-3)) dX11_feed_23 (by decide) ?_
      exact e_iret dX11_feed_25
  · refine e_iconst G (pc := 12) (v := (-1)) dX11_feed_12 (by decide) ?_
    exact e_iret dX11_feed_13
set_option maxRecDepth 100000 in
set_option maxHeartbeats 4000000 in
theorem c_X11_feed (w : qW) (a1 : Int32) : q_AC q_vi (some .int) (3) yX11_feed cX11_feed 2 [.ref 48, .int a1] w (f_X11_feed w a1) := q_met_i (k := 0) (by decide +kernel) rfl rfl rfl (fun _ _ G => t_X11_feed G w a1 )
set_option maxRecDepth 100000 in
set_option maxHeartbeats 4000000 in
theorem t_X11_byteAt {E : qE} {Γ : qC} (G : q_Ok E Γ RX11 cX11_byteAt 1 (2)) (w : qW) : q_Ev E Γ 1 (q_Fi E Γ cX11_byteAt) 0 [some (.ref 48)] [] w (f_X11_byteAt w ) := by
  unfold f_X11_byteAt
  refine e_aload_n G (pc := 0) dX11_byteAt_0 rfl rfl ?_
  refine e_getI G (pc := 1) sh_48 rfl lk_X11_144 dX11_byteAt_1 ?_
  refine e_aload_n G (pc := 4) dX11_byteAt_4 rfl rfl ?_
  refine e_getI G (pc := 5) sh_48 rfl lk_X11_147 dX11_byteAt_5 ?_
  refine e_icmp_ge G (pc := 8) (tgt := 47) dX11_byteAt_8 (by decide) ?_ ?_
  · refine e_iconst G (pc := 47) (v := 0) dX11_byteAt_47 (by decide) ?_
    exact e_iret dX11_byteAt_48
  · refine e_aload_n G (pc := 11) dX11_byteAt_11 rfl rfl ?_
    refine e_getI G (pc := 12) sh_48 rfl lk_X11_150 dX11_byteAt_12 ?_
    refine e_if_ge G (pc := 15) (tgt := 30) dX11_byteAt_15 (by decide) ?_ ?_
    · refine e_aload_n G (pc := 30) dX11_byteAt_30 rfl rfl ?_
      refine e_getF G (pc := 31) sh_48 rfl lk_X11_25 dX11_byteAt_31 ?_
      refine e_aload_n G (pc := 34) dX11_byteAt_34 rfl rfl ?_
      refine e_getI G (pc := 35) sh_48 rfl lk_X11_150 dX11_byteAt_35 ?_
      refine e_aload_n G (pc := 38) dX11_byteAt_38 rfl rfl ?_
      refine e_getI G (pc := 39) sh_48 rfl lk_X11_144 dX11_byteAt_39 ?_
      refine e_iadd G (pc := 42) dX11_byteAt_42 ?_
      refine e_iald G (pc := 43) sh_54 dX11_byteAt_43 (fun v1 => ?_)
      refine e_goto G (pc := 44) (tgt := 48) dX11_byteAt_44 (by decide) ?_
      exact e_iret dX11_byteAt_48
    · refine e_aload_n G (pc := 18) dX11_byteAt_18 rfl rfl ?_
      refine e_getF G (pc := 19) sh_48 rfl lk_X11_22 dX11_byteAt_19 ?_
      refine e_aload_n G (pc := 22) dX11_byteAt_22 rfl rfl ?_
      refine e_getI G (pc := 23) sh_48 rfl lk_X11_144 dX11_byteAt_23 ?_
      refine e_iald G (pc := 26) sh_53 dX11_byteAt_26 (fun v2 => ?_)
      refine e_goto G (pc := 27) (tgt := 48) dX11_byteAt_27 (by decide) ?_
      exact e_iret dX11_byteAt_48
set_option maxRecDepth 100000 in
set_option maxHeartbeats 4000000 in
theorem c_X11_byteAt (w : qW) : q_AC q_vi (some .int) (2) yX11_byteAt cX11_byteAt 1 [.ref 48] w (f_X11_byteAt w ) := q_met_i (k := 0) (by decide +kernel) rfl rfl rfl (fun _ _ G => t_X11_byteAt G w  )
set_option maxRecDepth 100000 in
set_option maxHeartbeats 4000000 in
theorem t_X11_wrong {E : qE} {Γ : qC} (G : q_Ok E Γ RX11 cX11_wrong 1 (2)) (w : qW) : q_Ev E Γ 1 (q_Fi E Γ cX11_wrong) 0 [some (.ref 48)] [] w (f_X11_wrong w ) := by
  unfold f_X11_wrong
  refine e_aload_n G (pc := 0) dX11_wrong_0 rfl rfl ?_
  refine e_aload_n G (pc := 1) dX11_wrong_1 rfl rfl ?_
  refine e_getI G (pc := 2) sh_48 rfl lk_X11_153 dX11_wrong_2 ?_
  refine e_if_ge G (pc := 5) (tgt := 15) dX11_wrong_5 (by decide) ?_ ?_
  · refine e_aload_n G (pc := 15) dX11_wrong_15 rfl rfl ?_
    refine e_getI G (pc := 16) sh_48 rfl lk_X11_153 dX11_wrong_16 ?_
    refine e_putI G (pc := 19) sh_48 rfl lp_X11_153 rfl rfl dX11_wrong_19 (fun w1 => ?_)
    refine e_iconst G (pc := 22) (v := 0) dX11_wrong_22 (by decide) ?_
    exact e_iret dX11_wrong_23
  · refine e_aload_n G (pc := 8) dX11_wrong_8 rfl rfl ?_
    refine e_getI G (pc := 9) sh_48 rfl lk_X11_144 dX11_wrong_9 ?_
    refine e_goto G (pc := 12) (tgt := 19) dX11_wrong_12 (by decide) ?_
    refine e_putI G (pc := 19) sh_48 rfl lp_X11_153 rfl rfl dX11_wrong_19 (fun w2 => ?_)
    refine e_iconst G (pc := 22) (v := 0) dX11_wrong_22 (by decide) ?_
    exact e_iret dX11_wrong_23
set_option maxRecDepth 100000 in
set_option maxHeartbeats 4000000 in
theorem c_X11_wrong (w : qW) : q_AC q_vi (some .int) (2) yX11_wrong cX11_wrong 1 [.ref 48] w (f_X11_wrong w ) := q_met_i (k := 0) (by decide +kernel) rfl rfl rfl (fun _ _ G => t_X11_wrong G w  )
set_option maxRecDepth 100000 in
set_option maxHeartbeats 4000000 in
theorem t_X11_takes {E : qE} {Γ : qC} (G : q_Ok E Γ RX11 cX11_takes 2 (3)) (w : qW) (a1 : Int32) : q_Ev E Γ 2 (q_Fz E Γ cX11_takes) 0 [some (.ref 48), some (.int a1)] [] w (f_X11_takes w a1) := by
  unfold f_X11_takes
  refine e_aload_n G (pc := 0) dX11_takes_0 rfl rfl ?_
  refine e_getI G (pc := 1) sh_48 rfl lk_X11_153 dX11_takes_1 ?_
  refine e_if_ge G (pc := 4) (tgt := 15) dX11_takes_4 (by decide) ?_ ?_
  · refine e_iconst G (pc := 15) (v := 0) dX11_takes_15 (by decide) ?_
    exact e_zret dX11_takes_16
  · refine e_aload_n G (pc := 7) dX11_takes_7 rfl rfl ?_
    refine e_cVi G (pc := 8) (As := []) (st := []) cv_X11_156 (c_X11_byteAt w  ) sh_48 (Nat.le_of_ble_eq_true rfl) rfl (Nat.le_of_ble_eq_true rfl) dX11_takes_8 (fun r1 w2 => ?_)
    refine e_iload_n G (pc := 11) dX11_takes_11 rfl rfl ?_
    refine e_icmp_eq G (pc := 12) (tgt := 17) dX11_takes_12 (by decide) ?_ ?_
    · refine e_aload_n G (pc := 17) dX11_takes_17 rfl rfl ?_
      refine e_dup G (pc := 18) dX11_takes_18 rfl ?_
      refine e_getI G (pc := 19) sh_48 rfl lk_X11_144 dX11_takes_19 ?_
      refine e_iconst G (pc := 22) (v := 1) dX11_takes_22 (by decide) ?_
      refine e_iadd G (pc := 23) dX11_takes_23 ?_
      refine e_putI G (pc := 24) sh_48 rfl lp_X11_144 rfl rfl dX11_takes_24 (fun w3 => ?_)
      refine e_iconst G (pc := 27) (v := 1) dX11_takes_27 (by decide) ?_
      exact e_zret dX11_takes_28
    · refine e_iconst G (pc := 15) (v := 0) dX11_takes_15 (by decide) ?_
      exact e_zret dX11_takes_16
set_option maxRecDepth 100000 in
set_option maxHeartbeats 4000000 in
theorem c_X11_takes (w : qW) (a1 : Int32) : q_AC q_vi (some .boolean) (3) yX11_takes cX11_takes 2 [.ref 48, .int a1] w (f_X11_takes w a1) := q_met_z (k := 0) (by decide +kernel) rfl rfl rfl (fun _ _ G => t_X11_takes G w a1 )
set_option maxRecDepth 100000 in
set_option maxHeartbeats 4000000 in
theorem t_X11_nameOf {E : qE} {Γ : qC} (G : q_Ok E Γ RX11 cX11_nameOf 1 (2)) (w : qW) (a1 : Int32) : q_Ev E Γ 1 (q_Fi E Γ cX11_nameOf) 0 [some (.int a1)] [] w (f_X11_nameOf w a1) := by
  unfold f_X11_nameOf
  refine e_iload_n G (pc := 0) dX11_nameOf_0 rfl rfl ?_
  refine e_ite (fun h1 => ?_) (fun h1 => ?_)
  · refine e_tsIn G (pc := 1) (off := 95) (tgt := 96) dX11_nameOf_1 (by rw [h1]; decide) (by rw [h1]; decide) (by rw [h1]; rfl) (by decide) ?_
    refine e_iconst G (pc := 96) (v := 2) dX11_nameOf_96 (by decide) ?_
    exact e_iret dX11_nameOf_97
  refine e_ite (fun h2 => ?_) (fun h2 => ?_)
  · refine e_tsIn G (pc := 1) (off := 97) (tgt := 98) dX11_nameOf_1 (by rw [h2]; decide) (by rw [h2]; decide) (by rw [h2]; rfl) (by decide) ?_
    refine e_iconst G (pc := 98) (v := 3) dX11_nameOf_98 (by decide) ?_
    exact e_iret dX11_nameOf_99
  refine e_ite (fun h3 => ?_) (fun h3 => ?_)
  · refine e_tsIn G (pc := 1) (off := 99) (tgt := 100) dX11_nameOf_1 (by rw [h3]; decide) (by rw [h3]; decide) (by rw [h3]; rfl) (by decide) ?_
    refine e_iconst G (pc := 100) (v := 4) dX11_nameOf_100 (by decide) ?_
    exact e_iret dX11_nameOf_101
  refine e_ite (fun h4 => ?_) (fun h4 => ?_)
  · refine e_tsIn G (pc := 1) (off := 91) (tgt := 92) dX11_nameOf_1 (by rw [h4]; decide) (by rw [h4]; decide) (by rw [h4]; rfl) (by decide) ?_
    refine e_iconst G (pc := 92) (v := 0) dX11_nameOf_92 (by decide) ?_
    exact e_iret dX11_nameOf_93
  refine e_ite (fun h5 => ?_) (fun h5 => ?_)
  · refine e_tsIn G (pc := 1) (off := 101) (tgt := 102) dX11_nameOf_1 (by rw [h5]; decide) (by rw [h5]; decide) (by rw [h5]; rfl) (by decide) ?_
    refine e_iconst G (pc := 102) (v := 5) dX11_nameOf_102 (by decide) ?_
    exact e_iret dX11_nameOf_103
  refine e_ite (fun h6 => ?_) (fun h6 => ?_)
  · refine e_tsIn G (pc := 1) (off := 93) (tgt := 94) dX11_nameOf_1 (by rw [h6]; decide) (by rw [h6]; decide) (by rw [h6]; rfl) (by decide) ?_
    refine e_iconst G (pc := 94) (v := 1) dX11_nameOf_94 (by decide) ?_
    exact e_iret dX11_nameOf_95
  have h1 := lv_neT h1 (show (97 : Int32).toInt = 97 by decide)
  have h2 := lv_neT h2 (show (98 : Int32).toInt = 98 by decide)
  have h3 := lv_neT h3 (show (104 : Int32).toInt = 104 by decide)
  have h4 := lv_neT h4 (show (107 : Int32).toInt = 107 by decide)
  have h5 := lv_neT h5 (show (109 : Int32).toInt = 109 by decide)
  have h6 := lv_neT h6 (show (115 : Int32).toInt = 115 by decide)
  rcases (show a1.toInt < 97 ∨ 115 < a1.toInt ∨ a1.toInt = 99 ∨ a1.toInt = 100 ∨ a1.toInt = 101 ∨ a1.toInt = 102 ∨ a1.toInt = 103 ∨ a1.toInt = 105 ∨ a1.toInt = 106 ∨ a1.toInt = 108 ∨ a1.toInt = 110 ∨ a1.toInt = 111 ∨ a1.toInt = 112 ∨ a1.toInt = 113 ∨ a1.toInt = 114 by omega) with hd | hd | hd | hd | hd | hd | hd | hd | hd | hd | hd | hd | hd | hd | hd
  · refine e_tsOut G (pc := 1) (tgt := 104) dX11_nameOf_1 (Or.inl hd) (by decide) ?_
    refine e_iconst G (pc := 104) (v := (-1)) dX11_nameOf_104 (by decide) ?_
    exact e_iret dX11_nameOf_105
  · refine e_tsOut G (pc := 1) (tgt := 104) dX11_nameOf_1 (Or.inr hd) (by decide) ?_
    refine e_iconst G (pc := 104) (v := (-1)) dX11_nameOf_104 (by decide) ?_
    exact e_iret dX11_nameOf_105
  · refine e_tsIn G (pc := 1) (off := 103) (tgt := 104) dX11_nameOf_1 (by omega) (by omega) (by rw [hd]; rfl) (by decide) ?_
    refine e_iconst G (pc := 104) (v := (-1)) dX11_nameOf_104 (by decide) ?_
    exact e_iret dX11_nameOf_105
  · refine e_tsIn G (pc := 1) (off := 103) (tgt := 104) dX11_nameOf_1 (by omega) (by omega) (by rw [hd]; rfl) (by decide) ?_
    refine e_iconst G (pc := 104) (v := (-1)) dX11_nameOf_104 (by decide) ?_
    exact e_iret dX11_nameOf_105
  · refine e_tsIn G (pc := 1) (off := 103) (tgt := 104) dX11_nameOf_1 (by omega) (by omega) (by rw [hd]; rfl) (by decide) ?_
    refine e_iconst G (pc := 104) (v := (-1)) dX11_nameOf_104 (by decide) ?_
    exact e_iret dX11_nameOf_105
  · refine e_tsIn G (pc := 1) (off := 103) (tgt := 104) dX11_nameOf_1 (by omega) (by omega) (by rw [hd]; rfl) (by decide) ?_
    refine e_iconst G (pc := 104) (v := (-1)) dX11_nameOf_104 (by decide) ?_
    exact e_iret dX11_nameOf_105
  · refine e_tsIn G (pc := 1) (off := 103) (tgt := 104) dX11_nameOf_1 (by omega) (by omega) (by rw [hd]; rfl) (by decide) ?_
    refine e_iconst G (pc := 104) (v := (-1)) dX11_nameOf_104 (by decide) ?_
    exact e_iret dX11_nameOf_105
  · refine e_tsIn G (pc := 1) (off := 103) (tgt := 104) dX11_nameOf_1 (by omega) (by omega) (by rw [hd]; rfl) (by decide) ?_
    refine e_iconst G (pc := 104) (v := (-1)) dX11_nameOf_104 (by decide) ?_
    exact e_iret dX11_nameOf_105
  · refine e_tsIn G (pc := 1) (off := 103) (tgt := 104) dX11_nameOf_1 (by omega) (by omega) (by rw [hd]; rfl) (by decide) ?_
    refine e_iconst G (pc := 104) (v := (-1)) dX11_nameOf_104 (by decide) ?_
    exact e_iret dX11_nameOf_105
  · refine e_tsIn G (pc := 1) (off := 103) (tgt := 104) dX11_nameOf_1 (by omega) (by omega) (by rw [hd]; rfl) (by decide) ?_
    refine e_iconst G (pc := 104) (v := (-1)) dX11_nameOf_104 (by decide) ?_
    exact e_iret dX11_nameOf_105
  · refine e_tsIn G (pc := 1) (off := 103) (tgt := 104) dX11_nameOf_1 (by omega) (by omega) (by rw [hd]; rfl) (by decide) ?_
    refine e_iconst G (pc := 104) (v := (-1)) dX11_nameOf_104 (by decide) ?_
    exact e_iret dX11_nameOf_105
  · refine e_tsIn G (pc := 1) (off := 103) (tgt := 104) dX11_nameOf_1 (by omega) (by omega) (by rw [hd]; rfl) (by decide) ?_
    refine e_iconst G (pc := 104) (v := (-1)) dX11_nameOf_104 (by decide) ?_
    exact e_iret dX11_nameOf_105
  · refine e_tsIn G (pc := 1) (off := 103) (tgt := 104) dX11_nameOf_1 (by omega) (by omega) (by rw [hd]; rfl) (by decide) ?_
    refine e_iconst G (pc := 104) (v := (-1)) dX11_nameOf_104 (by decide) ?_
    exact e_iret dX11_nameOf_105
  · refine e_tsIn G (pc := 1) (off := 103) (tgt := 104) dX11_nameOf_1 (by omega) (by omega) (by rw [hd]; rfl) (by decide) ?_
    refine e_iconst G (pc := 104) (v := (-1)) dX11_nameOf_104 (by decide) ?_
    exact e_iret dX11_nameOf_105
  · refine e_tsIn G (pc := 1) (off := 103) (tgt := 104) dX11_nameOf_1 (by omega) (by omega) (by rw [hd]; rfl) (by decide) ?_
    refine e_iconst G (pc := 104) (v := (-1)) dX11_nameOf_104 (by decide) ?_
    exact e_iret dX11_nameOf_105
set_option maxRecDepth 100000 in
set_option maxHeartbeats 4000000 in
theorem c_X11_nameOf (w : qW) (a1 : Int32) : q_AC q_vi (some .int) (2) yX11_nameOf cX11_nameOf 1 [.int a1] w (f_X11_nameOf w a1) := q_met_i (k := 0) (by decide +kernel) rfl rfl rfl (fun _ _ G => t_X11_nameOf G w a1 )
set_option maxRecDepth 100000 in
set_option maxHeartbeats 4000000 in
theorem t_X11_either_B32 {n : Nat} {E : qE} {Γ : qC} {r_X11_either : qW → Option (Int32 × qW)} {r_X11_both : qW → Option (Int32 × qW)} {r_X11_compared : qW → Option (Int32 × qW)} {r_X11_sums : qW → Option (Int32 × qW)} {r_X11_product : qW → Option (Int32 × qW)} {r_X11_one : qW → Option (Int32 × qW)} (G : q_Ok E Γ RX11 cX11_either 3 (4 + n + 1)) (hr_X11_either : ∀ (w : qW), q_AC q_vi (some .int) (4 + n) yX11_either cX11_either 3 [.ref 48] w (r_X11_either w )) (hr_X11_both : ∀ (w : qW), q_AC q_vi (some .int) (4 + n) yX11_both cX11_both 3 [.ref 48] w (r_X11_both w )) (hr_X11_compared : ∀ (w : qW), q_AC q_vi (some .int) (4 + n) yX11_compared cX11_compared 4 [.ref 48] w (r_X11_compared w )) (hr_X11_sums : ∀ (w : qW), q_AC q_vi (some .int) (4 + n) yX11_sums cX11_sums 4 [.ref 48] w (r_X11_sums w )) (hr_X11_product : ∀ (w : qW), q_AC q_vi (some .int) (4 + n) yX11_product cX11_product 4 [.ref 48] w (r_X11_product w )) (hr_X11_one : ∀ (w : qW), q_AC q_vi (some .int) (4 + n) yX11_one cX11_one 5 [.ref 48] w (r_X11_one w )) (k5 : qW → Int32 → Option (Int32 × qW)) (hk5 : ∀ (w : qW) (l1 : Int32), q_Ev E Γ 3 (q_Fi E Γ cX11_either) 5 [some (.ref 48), some (.int l1), none] [] w (k5 w l1)) (w : qW) (s0 : Int32) : q_Ev E Γ 3 (q_Fi E Γ cX11_either) 32 [some (.ref 48), none, none] [.int s0] w (f_X11_either_B32 r_X11_either r_X11_both r_X11_compared r_X11_sums r_X11_product r_X11_one k5 w s0) := by
  unfold f_X11_either_B32
  refine e_istore_n G (pc := 32) (L' := [some (.ref 48), some (.int s0), none]) dX11_either_32 rfl (Nat.le_of_ble_eq_true rfl) rfl ?_
  refine e_goto G (pc := 33) (tgt := 5) dX11_either_33 (by decide) ?_
  exact hk5 w s0 
set_option maxRecDepth 100000 in
set_option maxHeartbeats 4000000 in
theorem t_X11_either_B27 {n : Nat} {E : qE} {Γ : qC} {r_X11_either : qW → Option (Int32 × qW)} {r_X11_both : qW → Option (Int32 × qW)} {r_X11_compared : qW → Option (Int32 × qW)} {r_X11_sums : qW → Option (Int32 × qW)} {r_X11_product : qW → Option (Int32 × qW)} {r_X11_one : qW → Option (Int32 × qW)} (G : q_Ok E Γ RX11 cX11_either 3 (4 + n + 1)) (hr_X11_either : ∀ (w : qW), q_AC q_vi (some .int) (4 + n) yX11_either cX11_either 3 [.ref 48] w (r_X11_either w )) (hr_X11_both : ∀ (w : qW), q_AC q_vi (some .int) (4 + n) yX11_both cX11_both 3 [.ref 48] w (r_X11_both w )) (hr_X11_compared : ∀ (w : qW), q_AC q_vi (some .int) (4 + n) yX11_compared cX11_compared 4 [.ref 48] w (r_X11_compared w )) (hr_X11_sums : ∀ (w : qW), q_AC q_vi (some .int) (4 + n) yX11_sums cX11_sums 4 [.ref 48] w (r_X11_sums w )) (hr_X11_product : ∀ (w : qW), q_AC q_vi (some .int) (4 + n) yX11_product cX11_product 4 [.ref 48] w (r_X11_product w )) (hr_X11_one : ∀ (w : qW), q_AC q_vi (some .int) (4 + n) yX11_one cX11_one 5 [.ref 48] w (r_X11_one w )) (k5 : qW → Int32 → Option (Int32 × qW)) (hk5 : ∀ (w : qW) (l1 : Int32), q_Ev E Γ 3 (q_Fi E Γ cX11_either) 5 [some (.ref 48), some (.int l1), none] [] w (k5 w l1)) (w : qW) : q_Ev E Γ 3 (q_Fi E Γ cX11_either) 27 [some (.ref 48), none, none] [] w (f_X11_either_B27 r_X11_either r_X11_both r_X11_compared r_X11_sums r_X11_product r_X11_one k5 w ) := by
  unfold f_X11_either_B27
  refine e_iconst G (pc := 27) (v := 1) dX11_either_27 (by decide) ?_
  refine e_goto G (pc := 28) (tgt := 32) dX11_either_28 (by decide) ?_
  exact t_X11_either_B32 G hr_X11_either hr_X11_both hr_X11_compared hr_X11_sums hr_X11_product hr_X11_one k5 hk5 w 1 
set_option maxRecDepth 100000 in
set_option maxHeartbeats 4000000 in
theorem t_X11_either_B5 {n : Nat} {E : qE} {Γ : qC} {r_X11_either : qW → Option (Int32 × qW)} {r_X11_both : qW → Option (Int32 × qW)} {r_X11_compared : qW → Option (Int32 × qW)} {r_X11_sums : qW → Option (Int32 × qW)} {r_X11_product : qW → Option (Int32 × qW)} {r_X11_one : qW → Option (Int32 × qW)} (G : q_Ok E Γ RX11 cX11_either 3 (4 + n + 1)) (hr_X11_either : ∀ (w : qW), q_AC q_vi (some .int) (4 + n) yX11_either cX11_either 3 [.ref 48] w (r_X11_either w )) (hr_X11_both : ∀ (w : qW), q_AC q_vi (some .int) (4 + n) yX11_both cX11_both 3 [.ref 48] w (r_X11_both w )) (hr_X11_compared : ∀ (w : qW), q_AC q_vi (some .int) (4 + n) yX11_compared cX11_compared 4 [.ref 48] w (r_X11_compared w )) (hr_X11_sums : ∀ (w : qW), q_AC q_vi (some .int) (4 + n) yX11_sums cX11_sums 4 [.ref 48] w (r_X11_sums w )) (hr_X11_product : ∀ (w : qW), q_AC q_vi (some .int) (4 + n) yX11_product cX11_product 4 [.ref 48] w (r_X11_product w )) (hr_X11_one : ∀ (w : qW), q_AC q_vi (some .int) (4 + n) yX11_one cX11_one 5 [.ref 48] w (r_X11_one w )) (k5 : qW → Int32 → Option (Int32 × qW)) (hk5 : ∀ (w : qW) (l1 : Int32), q_Ev E Γ 3 (q_Fi E Γ cX11_either) 5 [some (.ref 48), some (.int l1), none] [] w (k5 w l1)) (w : qW) (l1 : Int32) : q_Ev E Γ 3 (q_Fi E Γ cX11_either) 5 [some (.ref 48), some (.int l1), none] [] w (f_X11_either_B5 r_X11_either r_X11_both r_X11_compared r_X11_sums r_X11_product r_X11_one k5 w l1) := by
  unfold f_X11_either_B5
  refine e_aload_n G (pc := 5) dX11_either_5 rfl rfl ?_
  refine e_bipush G (pc := 6) (v := 124) dX11_either_6 (by decide) ?_
  refine e_cVi G (pc := 8) (As := [.int 124]) (st := []) cv_X11_163 (c_X11_takes w 124 ) sh_48 (by omega) rfl (Nat.le_of_ble_eq_true rfl) dX11_either_8 (fun r1 w2 => ?_)
  refine e_if_eq G (pc := 11) (tgt := 36) dX11_either_11 (by decide) ?_ ?_
  · refine e_iload_n G (pc := 36) dX11_either_36 rfl rfl ?_
    exact e_iret dX11_either_37
  · refine e_aload_n G (pc := 14) dX11_either_14 rfl rfl ?_
    refine e_cVi G (pc := 15) (As := []) (st := []) cv_X11_160 (hr_X11_both w2  ) sh_48 (by omega) rfl (Nat.le_of_ble_eq_true rfl) dX11_either_15 (fun r3 w4 => ?_)
    refine e_istore_n G (pc := 18) (L' := [some (.ref 48), some (.int l1), some (.int r3)]) dX11_either_18 rfl (Nat.le_of_ble_eq_true rfl) rfl ?_
    refine e_iload_n G (pc := 19) dX11_either_19 rfl rfl ?_
    refine e_if_ne G (pc := 20) (tgt := 27) dX11_either_20 (by decide) ?_ ?_
    · refine e_wk (L' := [some (.ref 48), none, none]) (And.intro rfl (trivial)) ?_
      exact t_X11_either_B27 G hr_X11_either hr_X11_both hr_X11_compared hr_X11_sums hr_X11_product hr_X11_one k5 hk5 w4  
    · refine e_iload_n G (pc := 23) dX11_either_23 rfl rfl ?_
      refine e_if_eq G (pc := 24) (tgt := 31) dX11_either_24 (by decide) ?_ ?_
      · refine e_iconst G (pc := 31) (v := 0) dX11_either_31 (by decide) ?_
        refine e_wk (L' := [some (.ref 48), none, none]) (And.intro rfl (trivial)) ?_
        exact t_X11_either_B32 G hr_X11_either hr_X11_both hr_X11_compared hr_X11_sums hr_X11_product hr_X11_one k5 hk5 w4 0 
      · refine e_wk (L' := [some (.ref 48), none, none]) (And.intro rfl (trivial)) ?_
        exact t_X11_either_B27 G hr_X11_either hr_X11_both hr_X11_compared hr_X11_sums hr_X11_product hr_X11_one k5 hk5 w4  
set_option maxRecDepth 100000 in
set_option maxHeartbeats 4000000 in
theorem t_X11_either_R5 {n : Nat} {E : qE} {Γ : qC} {r_X11_either : qW → Option (Int32 × qW)} {r_X11_both : qW → Option (Int32 × qW)} {r_X11_compared : qW → Option (Int32 × qW)} {r_X11_sums : qW → Option (Int32 × qW)} {r_X11_product : qW → Option (Int32 × qW)} {r_X11_one : qW → Option (Int32 × qW)} (G : q_Ok E Γ RX11 cX11_either 3 (4 + n + 1)) (hr_X11_either : ∀ (w : qW), q_AC q_vi (some .int) (4 + n) yX11_either cX11_either 3 [.ref 48] w (r_X11_either w )) (hr_X11_both : ∀ (w : qW), q_AC q_vi (some .int) (4 + n) yX11_both cX11_both 3 [.ref 48] w (r_X11_both w )) (hr_X11_compared : ∀ (w : qW), q_AC q_vi (some .int) (4 + n) yX11_compared cX11_compared 4 [.ref 48] w (r_X11_compared w )) (hr_X11_sums : ∀ (w : qW), q_AC q_vi (some .int) (4 + n) yX11_sums cX11_sums 4 [.ref 48] w (r_X11_sums w )) (hr_X11_product : ∀ (w : qW), q_AC q_vi (some .int) (4 + n) yX11_product cX11_product 4 [.ref 48] w (r_X11_product w )) (hr_X11_one : ∀ (w : qW), q_AC q_vi (some .int) (4 + n) yX11_one cX11_one 5 [.ref 48] w (r_X11_one w )) : ∀ (fuel : Nat) (w : qW) (l1 : Int32) , q_Ev E Γ 3 (q_Fi E Γ cX11_either) 5 [some (.ref 48), some (.int l1), none] [] w (f_X11_either_R5 r_X11_either r_X11_both r_X11_compared r_X11_sums r_X11_product r_X11_one fuel w l1) := by
  intro fuel
  induction fuel with
  | zero => intros; exact e_none
  | succ fuel ih =>
    intro w l1 
    exact t_X11_either_B5 G hr_X11_either hr_X11_both hr_X11_compared hr_X11_sums hr_X11_product hr_X11_one _ ih w l1 
set_option maxRecDepth 100000 in
set_option maxHeartbeats 4000000 in
theorem t_X11_either {n : Nat} {E : qE} {Γ : qC} {r_X11_either : qW → Option (Int32 × qW)} {r_X11_both : qW → Option (Int32 × qW)} {r_X11_compared : qW → Option (Int32 × qW)} {r_X11_sums : qW → Option (Int32 × qW)} {r_X11_product : qW → Option (Int32 × qW)} {r_X11_one : qW → Option (Int32 × qW)} (G : q_Ok E Γ RX11 cX11_either 3 (4 + n + 1)) (hr_X11_either : ∀ (w : qW), q_AC q_vi (some .int) (4 + n) yX11_either cX11_either 3 [.ref 48] w (r_X11_either w )) (hr_X11_both : ∀ (w : qW), q_AC q_vi (some .int) (4 + n) yX11_both cX11_both 3 [.ref 48] w (r_X11_both w )) (hr_X11_compared : ∀ (w : qW), q_AC q_vi (some .int) (4 + n) yX11_compared cX11_compared 4 [.ref 48] w (r_X11_compared w )) (hr_X11_sums : ∀ (w : qW), q_AC q_vi (some .int) (4 + n) yX11_sums cX11_sums 4 [.ref 48] w (r_X11_sums w )) (hr_X11_product : ∀ (w : qW), q_AC q_vi (some .int) (4 + n) yX11_product cX11_product 4 [.ref 48] w (r_X11_product w )) (hr_X11_one : ∀ (w : qW), q_AC q_vi (some .int) (4 + n) yX11_one cX11_one 5 [.ref 48] w (r_X11_one w )) (w : qW) : q_Ev E Γ 3 (q_Fi E Γ cX11_either) 0 [some (.ref 48), none, none] [] w (b_X11_either r_X11_either r_X11_both r_X11_compared r_X11_sums r_X11_product r_X11_one w ) := by
  unfold b_X11_either
  refine e_aload_n G (pc := 0) dX11_either_0 rfl rfl ?_
  refine e_cVi G (pc := 1) (As := []) (st := []) cv_X11_160 (hr_X11_both w  ) sh_48 (by omega) rfl (Nat.le_of_ble_eq_true rfl) dX11_either_1 (fun r1 w2 => ?_)
  refine e_istore_n G (pc := 4) (L' := [some (.ref 48), some (.int r1), none]) dX11_either_4 rfl (Nat.le_of_ble_eq_true rfl) rfl ?_
  exact t_X11_either_R5 G hr_X11_either hr_X11_both hr_X11_compared hr_X11_sums hr_X11_product hr_X11_one  q_fuel w2 r1 
set_option maxRecDepth 100000 in
set_option maxHeartbeats 4000000 in
theorem t_X11_both_B32 {n : Nat} {E : qE} {Γ : qC} {r_X11_either : qW → Option (Int32 × qW)} {r_X11_both : qW → Option (Int32 × qW)} {r_X11_compared : qW → Option (Int32 × qW)} {r_X11_sums : qW → Option (Int32 × qW)} {r_X11_product : qW → Option (Int32 × qW)} {r_X11_one : qW → Option (Int32 × qW)} (G : q_Ok E Γ RX11 cX11_both 3 (4 + n + 1)) (hr_X11_either : ∀ (w : qW), q_AC q_vi (some .int) (4 + n) yX11_either cX11_either 3 [.ref 48] w (r_X11_either w )) (hr_X11_both : ∀ (w : qW), q_AC q_vi (some .int) (4 + n) yX11_both cX11_both 3 [.ref 48] w (r_X11_both w )) (hr_X11_compared : ∀ (w : qW), q_AC q_vi (some .int) (4 + n) yX11_compared cX11_compared 4 [.ref 48] w (r_X11_compared w )) (hr_X11_sums : ∀ (w : qW), q_AC q_vi (some .int) (4 + n) yX11_sums cX11_sums 4 [.ref 48] w (r_X11_sums w )) (hr_X11_product : ∀ (w : qW), q_AC q_vi (some .int) (4 + n) yX11_product cX11_product 4 [.ref 48] w (r_X11_product w )) (hr_X11_one : ∀ (w : qW), q_AC q_vi (some .int) (4 + n) yX11_one cX11_one 5 [.ref 48] w (r_X11_one w )) (k5 : qW → Int32 → Option (Int32 × qW)) (hk5 : ∀ (w : qW) (l1 : Int32), q_Ev E Γ 3 (q_Fi E Γ cX11_both) 5 [some (.ref 48), some (.int l1), none] [] w (k5 w l1)) (w : qW) (s0 : Int32) : q_Ev E Γ 3 (q_Fi E Γ cX11_both) 32 [some (.ref 48), none, none] [.int s0] w (f_X11_both_B32 r_X11_either r_X11_both r_X11_compared r_X11_sums r_X11_product r_X11_one k5 w s0) := by
  unfold f_X11_both_B32
  refine e_istore_n G (pc := 32) (L' := [some (.ref 48), some (.int s0), none]) dX11_both_32 rfl (Nat.le_of_ble_eq_true rfl) rfl ?_
  refine e_goto G (pc := 33) (tgt := 5) dX11_both_33 (by decide) ?_
  exact hk5 w s0 
set_option maxRecDepth 100000 in
set_option maxHeartbeats 4000000 in
theorem t_X11_both_B31 {n : Nat} {E : qE} {Γ : qC} {r_X11_either : qW → Option (Int32 × qW)} {r_X11_both : qW → Option (Int32 × qW)} {r_X11_compared : qW → Option (Int32 × qW)} {r_X11_sums : qW → Option (Int32 × qW)} {r_X11_product : qW → Option (Int32 × qW)} {r_X11_one : qW → Option (Int32 × qW)} (G : q_Ok E Γ RX11 cX11_both 3 (4 + n + 1)) (hr_X11_either : ∀ (w : qW), q_AC q_vi (some .int) (4 + n) yX11_either cX11_either 3 [.ref 48] w (r_X11_either w )) (hr_X11_both : ∀ (w : qW), q_AC q_vi (some .int) (4 + n) yX11_both cX11_both 3 [.ref 48] w (r_X11_both w )) (hr_X11_compared : ∀ (w : qW), q_AC q_vi (some .int) (4 + n) yX11_compared cX11_compared 4 [.ref 48] w (r_X11_compared w )) (hr_X11_sums : ∀ (w : qW), q_AC q_vi (some .int) (4 + n) yX11_sums cX11_sums 4 [.ref 48] w (r_X11_sums w )) (hr_X11_product : ∀ (w : qW), q_AC q_vi (some .int) (4 + n) yX11_product cX11_product 4 [.ref 48] w (r_X11_product w )) (hr_X11_one : ∀ (w : qW), q_AC q_vi (some .int) (4 + n) yX11_one cX11_one 5 [.ref 48] w (r_X11_one w )) (k5 : qW → Int32 → Option (Int32 × qW)) (hk5 : ∀ (w : qW) (l1 : Int32), q_Ev E Γ 3 (q_Fi E Γ cX11_both) 5 [some (.ref 48), some (.int l1), none] [] w (k5 w l1)) (w : qW) : q_Ev E Γ 3 (q_Fi E Γ cX11_both) 31 [some (.ref 48), none, none] [] w (f_X11_both_B31 r_X11_either r_X11_both r_X11_compared r_X11_sums r_X11_product r_X11_one k5 w ) := by
  unfold f_X11_both_B31
  refine e_iconst G (pc := 31) (v := 0) dX11_both_31 (by decide) ?_
  exact t_X11_both_B32 G hr_X11_either hr_X11_both hr_X11_compared hr_X11_sums hr_X11_product hr_X11_one k5 hk5 w 0 
set_option maxRecDepth 100000 in
set_option maxHeartbeats 4000000 in
theorem t_X11_both_B5 {n : Nat} {E : qE} {Γ : qC} {r_X11_either : qW → Option (Int32 × qW)} {r_X11_both : qW → Option (Int32 × qW)} {r_X11_compared : qW → Option (Int32 × qW)} {r_X11_sums : qW → Option (Int32 × qW)} {r_X11_product : qW → Option (Int32 × qW)} {r_X11_one : qW → Option (Int32 × qW)} (G : q_Ok E Γ RX11 cX11_both 3 (4 + n + 1)) (hr_X11_either : ∀ (w : qW), q_AC q_vi (some .int) (4 + n) yX11_either cX11_either 3 [.ref 48] w (r_X11_either w )) (hr_X11_both : ∀ (w : qW), q_AC q_vi (some .int) (4 + n) yX11_both cX11_both 3 [.ref 48] w (r_X11_both w )) (hr_X11_compared : ∀ (w : qW), q_AC q_vi (some .int) (4 + n) yX11_compared cX11_compared 4 [.ref 48] w (r_X11_compared w )) (hr_X11_sums : ∀ (w : qW), q_AC q_vi (some .int) (4 + n) yX11_sums cX11_sums 4 [.ref 48] w (r_X11_sums w )) (hr_X11_product : ∀ (w : qW), q_AC q_vi (some .int) (4 + n) yX11_product cX11_product 4 [.ref 48] w (r_X11_product w )) (hr_X11_one : ∀ (w : qW), q_AC q_vi (some .int) (4 + n) yX11_one cX11_one 5 [.ref 48] w (r_X11_one w )) (k5 : qW → Int32 → Option (Int32 × qW)) (hk5 : ∀ (w : qW) (l1 : Int32), q_Ev E Γ 3 (q_Fi E Γ cX11_both) 5 [some (.ref 48), some (.int l1), none] [] w (k5 w l1)) (w : qW) (l1 : Int32) : q_Ev E Γ 3 (q_Fi E Γ cX11_both) 5 [some (.ref 48), some (.int l1), none] [] w (f_X11_both_B5 r_X11_either r_X11_both r_X11_compared r_X11_sums r_X11_product r_X11_one k5 w l1) := by
  unfold f_X11_both_B5
  refine e_aload_n G (pc := 5) dX11_both_5 rfl rfl ?_
  refine e_bipush G (pc := 6) (v := 38) dX11_both_6 (by decide) ?_
  refine e_cVi G (pc := 8) (As := [.int 38]) (st := []) cv_X11_163 (c_X11_takes w 38 ) sh_48 (by omega) rfl (Nat.le_of_ble_eq_true rfl) dX11_both_8 (fun r1 w2 => ?_)
  refine e_if_eq G (pc := 11) (tgt := 36) dX11_both_11 (by decide) ?_ ?_
  · refine e_iload_n G (pc := 36) dX11_both_36 rfl rfl ?_
    exact e_iret dX11_both_37
  · refine e_aload_n G (pc := 14) dX11_both_14 rfl rfl ?_
    refine e_cVi G (pc := 15) (As := []) (st := []) cv_X11_166 (hr_X11_compared w2  ) sh_48 (by omega) rfl (Nat.le_of_ble_eq_true rfl) dX11_both_15 (fun r3 w4 => ?_)
    refine e_istore_n G (pc := 18) (L' := [some (.ref 48), some (.int l1), some (.int r3)]) dX11_both_18 rfl (Nat.le_of_ble_eq_true rfl) rfl ?_
    refine e_iload_n G (pc := 19) dX11_both_19 rfl rfl ?_
    refine e_if_eq G (pc := 20) (tgt := 31) dX11_both_20 (by decide) ?_ ?_
    · refine e_wk (L' := [some (.ref 48), none, none]) (And.intro rfl (trivial)) ?_
      exact t_X11_both_B31 G hr_X11_either hr_X11_both hr_X11_compared hr_X11_sums hr_X11_product hr_X11_one k5 hk5 w4  
    · refine e_iload_n G (pc := 23) dX11_both_23 rfl rfl ?_
      refine e_if_eq G (pc := 24) (tgt := 31) dX11_both_24 (by decide) ?_ ?_
      · refine e_wk (L' := [some (.ref 48), none, none]) (And.intro rfl (trivial)) ?_
        exact t_X11_both_B31 G hr_X11_either hr_X11_both hr_X11_compared hr_X11_sums hr_X11_product hr_X11_one k5 hk5 w4  
      · refine e_iconst G (pc := 27) (v := 1) dX11_both_27 (by decide) ?_
        refine e_goto G (pc := 28) (tgt := 32) dX11_both_28 (by decide) ?_
        refine e_wk (L' := [some (.ref 48), none, none]) (And.intro rfl (trivial)) ?_
        exact t_X11_both_B32 G hr_X11_either hr_X11_both hr_X11_compared hr_X11_sums hr_X11_product hr_X11_one k5 hk5 w4 1 
set_option maxRecDepth 100000 in
set_option maxHeartbeats 4000000 in
theorem t_X11_both_R5 {n : Nat} {E : qE} {Γ : qC} {r_X11_either : qW → Option (Int32 × qW)} {r_X11_both : qW → Option (Int32 × qW)} {r_X11_compared : qW → Option (Int32 × qW)} {r_X11_sums : qW → Option (Int32 × qW)} {r_X11_product : qW → Option (Int32 × qW)} {r_X11_one : qW → Option (Int32 × qW)} (G : q_Ok E Γ RX11 cX11_both 3 (4 + n + 1)) (hr_X11_either : ∀ (w : qW), q_AC q_vi (some .int) (4 + n) yX11_either cX11_either 3 [.ref 48] w (r_X11_either w )) (hr_X11_both : ∀ (w : qW), q_AC q_vi (some .int) (4 + n) yX11_both cX11_both 3 [.ref 48] w (r_X11_both w )) (hr_X11_compared : ∀ (w : qW), q_AC q_vi (some .int) (4 + n) yX11_compared cX11_compared 4 [.ref 48] w (r_X11_compared w )) (hr_X11_sums : ∀ (w : qW), q_AC q_vi (some .int) (4 + n) yX11_sums cX11_sums 4 [.ref 48] w (r_X11_sums w )) (hr_X11_product : ∀ (w : qW), q_AC q_vi (some .int) (4 + n) yX11_product cX11_product 4 [.ref 48] w (r_X11_product w )) (hr_X11_one : ∀ (w : qW), q_AC q_vi (some .int) (4 + n) yX11_one cX11_one 5 [.ref 48] w (r_X11_one w )) : ∀ (fuel : Nat) (w : qW) (l1 : Int32) , q_Ev E Γ 3 (q_Fi E Γ cX11_both) 5 [some (.ref 48), some (.int l1), none] [] w (f_X11_both_R5 r_X11_either r_X11_both r_X11_compared r_X11_sums r_X11_product r_X11_one fuel w l1) := by
  intro fuel
  induction fuel with
  | zero => intros; exact e_none
  | succ fuel ih =>
    intro w l1 
    exact t_X11_both_B5 G hr_X11_either hr_X11_both hr_X11_compared hr_X11_sums hr_X11_product hr_X11_one _ ih w l1 
set_option maxRecDepth 100000 in
set_option maxHeartbeats 4000000 in
theorem t_X11_both {n : Nat} {E : qE} {Γ : qC} {r_X11_either : qW → Option (Int32 × qW)} {r_X11_both : qW → Option (Int32 × qW)} {r_X11_compared : qW → Option (Int32 × qW)} {r_X11_sums : qW → Option (Int32 × qW)} {r_X11_product : qW → Option (Int32 × qW)} {r_X11_one : qW → Option (Int32 × qW)} (G : q_Ok E Γ RX11 cX11_both 3 (4 + n + 1)) (hr_X11_either : ∀ (w : qW), q_AC q_vi (some .int) (4 + n) yX11_either cX11_either 3 [.ref 48] w (r_X11_either w )) (hr_X11_both : ∀ (w : qW), q_AC q_vi (some .int) (4 + n) yX11_both cX11_both 3 [.ref 48] w (r_X11_both w )) (hr_X11_compared : ∀ (w : qW), q_AC q_vi (some .int) (4 + n) yX11_compared cX11_compared 4 [.ref 48] w (r_X11_compared w )) (hr_X11_sums : ∀ (w : qW), q_AC q_vi (some .int) (4 + n) yX11_sums cX11_sums 4 [.ref 48] w (r_X11_sums w )) (hr_X11_product : ∀ (w : qW), q_AC q_vi (some .int) (4 + n) yX11_product cX11_product 4 [.ref 48] w (r_X11_product w )) (hr_X11_one : ∀ (w : qW), q_AC q_vi (some .int) (4 + n) yX11_one cX11_one 5 [.ref 48] w (r_X11_one w )) (w : qW) : q_Ev E Γ 3 (q_Fi E Γ cX11_both) 0 [some (.ref 48), none, none] [] w (b_X11_both r_X11_either r_X11_both r_X11_compared r_X11_sums r_X11_product r_X11_one w ) := by
  unfold b_X11_both
  refine e_aload_n G (pc := 0) dX11_both_0 rfl rfl ?_
  refine e_cVi G (pc := 1) (As := []) (st := []) cv_X11_166 (hr_X11_compared w  ) sh_48 (by omega) rfl (Nat.le_of_ble_eq_true rfl) dX11_both_1 (fun r1 w2 => ?_)
  refine e_istore_n G (pc := 4) (L' := [some (.ref 48), some (.int r1), none]) dX11_both_4 rfl (Nat.le_of_ble_eq_true rfl) rfl ?_
  exact t_X11_both_R5 G hr_X11_either hr_X11_both hr_X11_compared hr_X11_sums hr_X11_product hr_X11_one  q_fuel w2 r1 
set_option maxRecDepth 100000 in
set_option maxHeartbeats 4000000 in
theorem t_X11_compared_B85 {n : Nat} {E : qE} {Γ : qC} {r_X11_either : qW → Option (Int32 × qW)} {r_X11_both : qW → Option (Int32 × qW)} {r_X11_compared : qW → Option (Int32 × qW)} {r_X11_sums : qW → Option (Int32 × qW)} {r_X11_product : qW → Option (Int32 × qW)} {r_X11_one : qW → Option (Int32 × qW)} (G : q_Ok E Γ RX11 cX11_compared 4 (4 + n + 1)) (hr_X11_either : ∀ (w : qW), q_AC q_vi (some .int) (4 + n) yX11_either cX11_either 3 [.ref 48] w (r_X11_either w )) (hr_X11_both : ∀ (w : qW), q_AC q_vi (some .int) (4 + n) yX11_both cX11_both 3 [.ref 48] w (r_X11_both w )) (hr_X11_compared : ∀ (w : qW), q_AC q_vi (some .int) (4 + n) yX11_compared cX11_compared 4 [.ref 48] w (r_X11_compared w )) (hr_X11_sums : ∀ (w : qW), q_AC q_vi (some .int) (4 + n) yX11_sums cX11_sums 4 [.ref 48] w (r_X11_sums w )) (hr_X11_product : ∀ (w : qW), q_AC q_vi (some .int) (4 + n) yX11_product cX11_product 4 [.ref 48] w (r_X11_product w )) (hr_X11_one : ∀ (w : qW), q_AC q_vi (some .int) (4 + n) yX11_one cX11_one 5 [.ref 48] w (r_X11_one w )) (w : qW) : q_Ev E Γ 4 (q_Fi E Γ cX11_compared) 85 [none, none, none, none] [] w (f_X11_compared_B85 r_X11_either r_X11_both r_X11_compared r_X11_sums r_X11_product r_X11_one w ) := by
  unfold f_X11_compared_B85
  refine e_iconst G (pc := 85) (v := 1) dX11_compared_85 (by decide) ?_
  refine e_goto G (pc := 86) (tgt := 90) dX11_compared_86 (by decide) ?_
  exact e_iret dX11_compared_90
set_option maxRecDepth 100000 in
set_option maxHeartbeats 4000000 in
theorem t_X11_compared_B37 {n : Nat} {E : qE} {Γ : qC} {r_X11_either : qW → Option (Int32 × qW)} {r_X11_both : qW → Option (Int32 × qW)} {r_X11_compared : qW → Option (Int32 × qW)} {r_X11_sums : qW → Option (Int32 × qW)} {r_X11_product : qW → Option (Int32 × qW)} {r_X11_one : qW → Option (Int32 × qW)} (G : q_Ok E Γ RX11 cX11_compared 4 (4 + n + 1)) (hr_X11_either : ∀ (w : qW), q_AC q_vi (some .int) (4 + n) yX11_either cX11_either 3 [.ref 48] w (r_X11_either w )) (hr_X11_both : ∀ (w : qW), q_AC q_vi (some .int) (4 + n) yX11_both cX11_both 3 [.ref 48] w (r_X11_both w )) (hr_X11_compared : ∀ (w : qW), q_AC q_vi (some .int) (4 + n) yX11_compared cX11_compared 4 [.ref 48] w (r_X11_compared w )) (hr_X11_sums : ∀ (w : qW), q_AC q_vi (some .int) (4 + n) yX11_sums cX11_sums 4 [.ref 48] w (r_X11_sums w )) (hr_X11_product : ∀ (w : qW), q_AC q_vi (some .int) (4 + n) yX11_product cX11_product 4 [.ref 48] w (r_X11_product w )) (hr_X11_one : ∀ (w : qW), q_AC q_vi (some .int) (4 + n) yX11_one cX11_one 5 [.ref 48] w (r_X11_one w )) (w : qW) (l1 : Int32) (l2 : Int32) : q_Ev E Γ 4 (q_Fi E Γ cX11_compared) 37 [some (.ref 48), some (.int l1), some (.int l2), none] [] w (f_X11_compared_B37 r_X11_either r_X11_both r_X11_compared r_X11_sums r_X11_product r_X11_one w l1 l2) := by
  unfold f_X11_compared_B37
  refine e_aload_n G (pc := 37) dX11_compared_37 rfl rfl ?_
  refine e_dup G (pc := 38) dX11_compared_38 rfl ?_
  refine e_getI G (pc := 39) sh_48 rfl lk_X11_144 dX11_compared_39 ?_
  refine e_iconst G (pc := 42) (v := 1) dX11_compared_42 (by decide) ?_
  refine e_iadd G (pc := 43) dX11_compared_43 ?_
  refine e_putI G (pc := 44) sh_48 rfl lp_X11_144 rfl rfl dX11_compared_44 (fun w1 => ?_)
  refine e_aload_n G (pc := 47) dX11_compared_47 rfl rfl ?_
  refine e_cVi G (pc := 48) (As := []) (st := []) cv_X11_169 (hr_X11_sums w1  ) sh_48 (by omega) rfl (Nat.le_of_ble_eq_true rfl) dX11_compared_48 (fun r2 w3 => ?_)
  refine e_istore_n G (pc := 51) (L' := [some (.ref 48), some (.int l1), some (.int l2), some (.int r2)]) dX11_compared_51 rfl (Nat.le_of_ble_eq_true rfl) rfl ?_
  refine e_iload_n G (pc := 52) dX11_compared_52 rfl rfl ?_
  refine e_bipush G (pc := 53) (v := 60) dX11_compared_53 (by decide) ?_
  refine e_icmp_ne G (pc := 55) (tgt := 66) dX11_compared_55 (by decide) ?_ ?_
  · refine e_iload_n G (pc := 66) dX11_compared_66 rfl rfl ?_
    refine e_bipush G (pc := 67) (v := 61) dX11_compared_67 (by decide) ?_
    refine e_icmp_ne G (pc := 69) (tgt := 80) dX11_compared_69 (by decide) ?_ ?_
    · refine e_iload_n G (pc := 80) dX11_compared_80 rfl rfl ?_
      refine e_iload_n G (pc := 81) dX11_compared_81 rfl rfl ?_
      refine e_icmp_le G (pc := 82) (tgt := 89) dX11_compared_82 (by decide) ?_ ?_
      · refine e_iconst G (pc := 89) (v := 0) dX11_compared_89 (by decide) ?_
        exact e_iret dX11_compared_90
      · refine e_wk (L' := [none, none, none, none]) (trivial) ?_
        exact t_X11_compared_B85 G hr_X11_either hr_X11_both hr_X11_compared hr_X11_sums hr_X11_product hr_X11_one w3  
    · refine e_iload_n G (pc := 72) dX11_compared_72 rfl rfl ?_
      refine e_iload_n G (pc := 73) dX11_compared_73 rfl rfl ?_
      refine e_icmp_ne G (pc := 74) (tgt := 89) dX11_compared_74 (by decide) ?_ ?_
      · refine e_iconst G (pc := 89) (v := 0) dX11_compared_89 (by decide) ?_
        exact e_iret dX11_compared_90
      · refine e_goto G (pc := 77) (tgt := 85) dX11_compared_77 (by decide) ?_
        refine e_wk (L' := [none, none, none, none]) (trivial) ?_
        exact t_X11_compared_B85 G hr_X11_either hr_X11_both hr_X11_compared hr_X11_sums hr_X11_product hr_X11_one w3  
  · refine e_iload_n G (pc := 58) dX11_compared_58 rfl rfl ?_
    refine e_iload_n G (pc := 59) dX11_compared_59 rfl rfl ?_
    refine e_icmp_ge G (pc := 60) (tgt := 89) dX11_compared_60 (by decide) ?_ ?_
    · refine e_iconst G (pc := 89) (v := 0) dX11_compared_89 (by decide) ?_
      exact e_iret dX11_compared_90
    · refine e_goto G (pc := 63) (tgt := 85) dX11_compared_63 (by decide) ?_
      refine e_wk (L' := [none, none, none, none]) (trivial) ?_
      exact t_X11_compared_B85 G hr_X11_either hr_X11_both hr_X11_compared hr_X11_sums hr_X11_product hr_X11_one w3  
set_option maxRecDepth 100000 in
set_option maxHeartbeats 4000000 in
theorem t_X11_compared {n : Nat} {E : qE} {Γ : qC} {r_X11_either : qW → Option (Int32 × qW)} {r_X11_both : qW → Option (Int32 × qW)} {r_X11_compared : qW → Option (Int32 × qW)} {r_X11_sums : qW → Option (Int32 × qW)} {r_X11_product : qW → Option (Int32 × qW)} {r_X11_one : qW → Option (Int32 × qW)} (G : q_Ok E Γ RX11 cX11_compared 4 (4 + n + 1)) (hr_X11_either : ∀ (w : qW), q_AC q_vi (some .int) (4 + n) yX11_either cX11_either 3 [.ref 48] w (r_X11_either w )) (hr_X11_both : ∀ (w : qW), q_AC q_vi (some .int) (4 + n) yX11_both cX11_both 3 [.ref 48] w (r_X11_both w )) (hr_X11_compared : ∀ (w : qW), q_AC q_vi (some .int) (4 + n) yX11_compared cX11_compared 4 [.ref 48] w (r_X11_compared w )) (hr_X11_sums : ∀ (w : qW), q_AC q_vi (some .int) (4 + n) yX11_sums cX11_sums 4 [.ref 48] w (r_X11_sums w )) (hr_X11_product : ∀ (w : qW), q_AC q_vi (some .int) (4 + n) yX11_product cX11_product 4 [.ref 48] w (r_X11_product w )) (hr_X11_one : ∀ (w : qW), q_AC q_vi (some .int) (4 + n) yX11_one cX11_one 5 [.ref 48] w (r_X11_one w )) (w : qW) : q_Ev E Γ 4 (q_Fi E Γ cX11_compared) 0 [some (.ref 48), none, none, none] [] w (b_X11_compared r_X11_either r_X11_both r_X11_compared r_X11_sums r_X11_product r_X11_one w ) := by
  unfold b_X11_compared
  refine e_aload_n G (pc := 0) dX11_compared_0 rfl rfl ?_
  refine e_cVi G (pc := 1) (As := []) (st := []) cv_X11_169 (hr_X11_sums w  ) sh_48 (by omega) rfl (Nat.le_of_ble_eq_true rfl) dX11_compared_1 (fun r1 w2 => ?_)
  refine e_istore_n G (pc := 4) (L' := [some (.ref 48), some (.int r1), none, none]) dX11_compared_4 rfl (Nat.le_of_ble_eq_true rfl) rfl ?_
  refine e_aload_n G (pc := 5) dX11_compared_5 rfl rfl ?_
  refine e_cVi G (pc := 6) (As := []) (st := []) cv_X11_156 (c_X11_byteAt w2  ) sh_48 (by omega) rfl (Nat.le_of_ble_eq_true rfl) dX11_compared_6 (fun r3 w4 => ?_)
  refine e_istore_n G (pc := 9) (L' := [some (.ref 48), some (.int r1), some (.int r3), none]) dX11_compared_9 rfl (Nat.le_of_ble_eq_true rfl) rfl ?_
  refine e_aload_n G (pc := 10) dX11_compared_10 rfl rfl ?_
  refine e_getI G (pc := 11) sh_48 rfl lk_X11_153 dX11_compared_11 ?_
  refine e_if_ge G (pc := 14) (tgt := 35) dX11_compared_14 (by decide) ?_ ?_
  · refine e_iload_n G (pc := 35) dX11_compared_35 rfl rfl ?_
    exact e_iret dX11_compared_36
  · refine e_iload_n G (pc := 17) dX11_compared_17 rfl rfl ?_
    refine e_bipush G (pc := 18) (v := 60) dX11_compared_18 (by decide) ?_
    refine e_icmp_eq G (pc := 20) (tgt := 37) dX11_compared_20 (by decide) ?_ ?_
    · exact t_X11_compared_B37 G hr_X11_either hr_X11_both hr_X11_compared hr_X11_sums hr_X11_product hr_X11_one w4 r1 r3 
    · refine e_iload_n G (pc := 23) dX11_compared_23 rfl rfl ?_
      refine e_bipush G (pc := 24) (v := 61) dX11_compared_24 (by decide) ?_
      refine e_icmp_eq G (pc := 26) (tgt := 37) dX11_compared_26 (by decide) ?_ ?_
      · exact t_X11_compared_B37 G hr_X11_either hr_X11_both hr_X11_compared hr_X11_sums hr_X11_product hr_X11_one w4 r1 r3 
      · refine e_iload_n G (pc := 29) dX11_compared_29 rfl rfl ?_
        refine e_bipush G (pc := 30) (v := 62) dX11_compared_30 (by decide) ?_
        refine e_icmp_eq G (pc := 32) (tgt := 37) dX11_compared_32 (by decide) ?_ ?_
        · exact t_X11_compared_B37 G hr_X11_either hr_X11_both hr_X11_compared hr_X11_sums hr_X11_product hr_X11_one w4 r1 r3 
        · refine e_iload_n G (pc := 35) dX11_compared_35 rfl rfl ?_
          exact e_iret dX11_compared_36
set_option maxRecDepth 100000 in
set_option maxHeartbeats 4000000 in
theorem t_X11_sums_B73 {n : Nat} {E : qE} {Γ : qC} {r_X11_either : qW → Option (Int32 × qW)} {r_X11_both : qW → Option (Int32 × qW)} {r_X11_compared : qW → Option (Int32 × qW)} {r_X11_sums : qW → Option (Int32 × qW)} {r_X11_product : qW → Option (Int32 × qW)} {r_X11_one : qW → Option (Int32 × qW)} (G : q_Ok E Γ RX11 cX11_sums 4 (4 + n + 1)) (hr_X11_either : ∀ (w : qW), q_AC q_vi (some .int) (4 + n) yX11_either cX11_either 3 [.ref 48] w (r_X11_either w )) (hr_X11_both : ∀ (w : qW), q_AC q_vi (some .int) (4 + n) yX11_both cX11_both 3 [.ref 48] w (r_X11_both w )) (hr_X11_compared : ∀ (w : qW), q_AC q_vi (some .int) (4 + n) yX11_compared cX11_compared 4 [.ref 48] w (r_X11_compared w )) (hr_X11_sums : ∀ (w : qW), q_AC q_vi (some .int) (4 + n) yX11_sums cX11_sums 4 [.ref 48] w (r_X11_sums w )) (hr_X11_product : ∀ (w : qW), q_AC q_vi (some .int) (4 + n) yX11_product cX11_product 4 [.ref 48] w (r_X11_product w )) (hr_X11_one : ∀ (w : qW), q_AC q_vi (some .int) (4 + n) yX11_one cX11_one 5 [.ref 48] w (r_X11_one w )) (k5 : qW → Int32 → Option (Int32 × qW)) (hk5 : ∀ (w : qW) (l1 : Int32), q_Ev E Γ 4 (q_Fi E Γ cX11_sums) 5 [some (.ref 48), some (.int l1), none, none] [] w (k5 w l1)) (w : qW) (s0 : Int32) : q_Ev E Γ 4 (q_Fi E Γ cX11_sums) 73 [some (.ref 48), none, none, none] [.int s0] w (f_X11_sums_B73 r_X11_either r_X11_both r_X11_compared r_X11_sums r_X11_product r_X11_one k5 w s0) := by
  unfold f_X11_sums_B73
  refine e_istore_n G (pc := 73) (L' := [some (.ref 48), some (.int s0), none, none]) dX11_sums_73 rfl (Nat.le_of_ble_eq_true rfl) rfl ?_
  refine e_goto G (pc := 74) (tgt := 5) dX11_sums_74 (by decide) ?_
  exact hk5 w s0 
set_option maxRecDepth 100000 in
set_option maxHeartbeats 4000000 in
theorem t_X11_sums_B44 {n : Nat} {E : qE} {Γ : qC} {r_X11_either : qW → Option (Int32 × qW)} {r_X11_both : qW → Option (Int32 × qW)} {r_X11_compared : qW → Option (Int32 × qW)} {r_X11_sums : qW → Option (Int32 × qW)} {r_X11_product : qW → Option (Int32 × qW)} {r_X11_one : qW → Option (Int32 × qW)} (G : q_Ok E Γ RX11 cX11_sums 4 (4 + n + 1)) (hr_X11_either : ∀ (w : qW), q_AC q_vi (some .int) (4 + n) yX11_either cX11_either 3 [.ref 48] w (r_X11_either w )) (hr_X11_both : ∀ (w : qW), q_AC q_vi (some .int) (4 + n) yX11_both cX11_both 3 [.ref 48] w (r_X11_both w )) (hr_X11_compared : ∀ (w : qW), q_AC q_vi (some .int) (4 + n) yX11_compared cX11_compared 4 [.ref 48] w (r_X11_compared w )) (hr_X11_sums : ∀ (w : qW), q_AC q_vi (some .int) (4 + n) yX11_sums cX11_sums 4 [.ref 48] w (r_X11_sums w )) (hr_X11_product : ∀ (w : qW), q_AC q_vi (some .int) (4 + n) yX11_product cX11_product 4 [.ref 48] w (r_X11_product w )) (hr_X11_one : ∀ (w : qW), q_AC q_vi (some .int) (4 + n) yX11_one cX11_one 5 [.ref 48] w (r_X11_one w )) (k5 : qW → Int32 → Option (Int32 × qW)) (hk5 : ∀ (w : qW) (l1 : Int32), q_Ev E Γ 4 (q_Fi E Γ cX11_sums) 5 [some (.ref 48), some (.int l1), none, none] [] w (k5 w l1)) (w : qW) (l1 : Int32) (s0 : Int32) : q_Ev E Γ 4 (q_Fi E Γ cX11_sums) 44 [some (.ref 48), some (.int l1), none, none] [.int s0] w (f_X11_sums_B44 r_X11_either r_X11_both r_X11_compared r_X11_sums r_X11_product r_X11_one k5 w l1 s0) := by
  unfold f_X11_sums_B44
  refine e_istore_n G (pc := 44) (L' := [some (.ref 48), some (.int l1), some (.int s0), none]) dX11_sums_44 rfl (Nat.le_of_ble_eq_true rfl) rfl ?_
  refine e_aload_n G (pc := 45) dX11_sums_45 rfl rfl ?_
  refine e_dup G (pc := 46) dX11_sums_46 rfl ?_
  refine e_getI G (pc := 47) sh_48 rfl lk_X11_144 dX11_sums_47 ?_
  refine e_iconst G (pc := 50) (v := 1) dX11_sums_50 (by decide) ?_
  refine e_iadd G (pc := 51) dX11_sums_51 ?_
  refine e_putI G (pc := 52) sh_48 rfl lp_X11_144 rfl rfl dX11_sums_52 (fun w1 => ?_)
  refine e_aload_n G (pc := 55) dX11_sums_55 rfl rfl ?_
  refine e_cVi G (pc := 56) (As := []) (st := []) cv_X11_172 (hr_X11_product w1  ) sh_48 (by omega) rfl (Nat.le_of_ble_eq_true rfl) dX11_sums_56 (fun r2 w3 => ?_)
  refine e_istore_n G (pc := 59) (L' := [some (.ref 48), some (.int l1), some (.int s0), some (.int r2)]) dX11_sums_59 rfl (Nat.le_of_ble_eq_true rfl) rfl ?_
  refine e_iload_n G (pc := 60) dX11_sums_60 rfl rfl ?_
  refine e_if_eq G (pc := 61) (tgt := 70) dX11_sums_61 (by decide) ?_ ?_
  · refine e_iload_n G (pc := 70) dX11_sums_70 rfl rfl ?_
    refine e_iload_n G (pc := 71) dX11_sums_71 rfl rfl ?_
    refine e_isub G (pc := 72) dX11_sums_72 ?_
    refine e_wk (L' := [some (.ref 48), none, none, none]) (And.intro rfl (trivial)) ?_
    exact t_X11_sums_B73 G hr_X11_either hr_X11_both hr_X11_compared hr_X11_sums hr_X11_product hr_X11_one k5 hk5 w3 (l1 - r2) 
  · refine e_iload_n G (pc := 64) dX11_sums_64 rfl rfl ?_
    refine e_iload_n G (pc := 65) dX11_sums_65 rfl rfl ?_
    refine e_iadd G (pc := 66) dX11_sums_66 ?_
    refine e_goto G (pc := 67) (tgt := 73) dX11_sums_67 (by decide) ?_
    refine e_wk (L' := [some (.ref 48), none, none, none]) (And.intro rfl (trivial)) ?_
    exact t_X11_sums_B73 G hr_X11_either hr_X11_both hr_X11_compared hr_X11_sums hr_X11_product hr_X11_one k5 hk5 w3 (l1 + r2) 
set_option maxRecDepth 100000 in
set_option maxHeartbeats 4000000 in
theorem t_X11_sums_B30 {n : Nat} {E : qE} {Γ : qC} {r_X11_either : qW → Option (Int32 × qW)} {r_X11_both : qW → Option (Int32 × qW)} {r_X11_compared : qW → Option (Int32 × qW)} {r_X11_sums : qW → Option (Int32 × qW)} {r_X11_product : qW → Option (Int32 × qW)} {r_X11_one : qW → Option (Int32 × qW)} (G : q_Ok E Γ RX11 cX11_sums 4 (4 + n + 1)) (hr_X11_either : ∀ (w : qW), q_AC q_vi (some .int) (4 + n) yX11_either cX11_either 3 [.ref 48] w (r_X11_either w )) (hr_X11_both : ∀ (w : qW), q_AC q_vi (some .int) (4 + n) yX11_both cX11_both 3 [.ref 48] w (r_X11_both w )) (hr_X11_compared : ∀ (w : qW), q_AC q_vi (some .int) (4 + n) yX11_compared cX11_compared 4 [.ref 48] w (r_X11_compared w )) (hr_X11_sums : ∀ (w : qW), q_AC q_vi (some .int) (4 + n) yX11_sums cX11_sums 4 [.ref 48] w (r_X11_sums w )) (hr_X11_product : ∀ (w : qW), q_AC q_vi (some .int) (4 + n) yX11_product cX11_product 4 [.ref 48] w (r_X11_product w )) (hr_X11_one : ∀ (w : qW), q_AC q_vi (some .int) (4 + n) yX11_one cX11_one 5 [.ref 48] w (r_X11_one w )) (k5 : qW → Int32 → Option (Int32 × qW)) (hk5 : ∀ (w : qW) (l1 : Int32), q_Ev E Γ 4 (q_Fi E Γ cX11_sums) 5 [some (.ref 48), some (.int l1), none, none] [] w (k5 w l1)) (w : qW) (l1 : Int32) : q_Ev E Γ 4 (q_Fi E Γ cX11_sums) 30 [some (.ref 48), some (.int l1), none, none] [] w (f_X11_sums_B30 r_X11_either r_X11_both r_X11_compared r_X11_sums r_X11_product r_X11_one k5 w l1) := by
  unfold f_X11_sums_B30
  refine e_aload_n G (pc := 30) dX11_sums_30 rfl rfl ?_
  refine e_cVi G (pc := 31) (As := []) (st := []) cv_X11_156 (c_X11_byteAt w  ) sh_48 (by omega) rfl (Nat.le_of_ble_eq_true rfl) dX11_sums_31 (fun r1 w2 => ?_)
  refine e_bipush G (pc := 34) (v := 43) dX11_sums_34 (by decide) ?_
  refine e_icmp_ne G (pc := 36) (tgt := 43) dX11_sums_36 (by decide) ?_ ?_
  · refine e_iconst G (pc := 43) (v := 0) dX11_sums_43 (by decide) ?_
    exact t_X11_sums_B44 G hr_X11_either hr_X11_both hr_X11_compared hr_X11_sums hr_X11_product hr_X11_one k5 hk5 w2 l1 0 
  · refine e_iconst G (pc := 39) (v := 1) dX11_sums_39 (by decide) ?_
    refine e_goto G (pc := 40) (tgt := 44) dX11_sums_40 (by decide) ?_
    exact t_X11_sums_B44 G hr_X11_either hr_X11_both hr_X11_compared hr_X11_sums hr_X11_product hr_X11_one k5 hk5 w2 l1 1 
set_option maxRecDepth 100000 in
set_option maxHeartbeats 4000000 in
theorem t_X11_sums_B5 {n : Nat} {E : qE} {Γ : qC} {r_X11_either : qW → Option (Int32 × qW)} {r_X11_both : qW → Option (Int32 × qW)} {r_X11_compared : qW → Option (Int32 × qW)} {r_X11_sums : qW → Option (Int32 × qW)} {r_X11_product : qW → Option (Int32 × qW)} {r_X11_one : qW → Option (Int32 × qW)} (G : q_Ok E Γ RX11 cX11_sums 4 (4 + n + 1)) (hr_X11_either : ∀ (w : qW), q_AC q_vi (some .int) (4 + n) yX11_either cX11_either 3 [.ref 48] w (r_X11_either w )) (hr_X11_both : ∀ (w : qW), q_AC q_vi (some .int) (4 + n) yX11_both cX11_both 3 [.ref 48] w (r_X11_both w )) (hr_X11_compared : ∀ (w : qW), q_AC q_vi (some .int) (4 + n) yX11_compared cX11_compared 4 [.ref 48] w (r_X11_compared w )) (hr_X11_sums : ∀ (w : qW), q_AC q_vi (some .int) (4 + n) yX11_sums cX11_sums 4 [.ref 48] w (r_X11_sums w )) (hr_X11_product : ∀ (w : qW), q_AC q_vi (some .int) (4 + n) yX11_product cX11_product 4 [.ref 48] w (r_X11_product w )) (hr_X11_one : ∀ (w : qW), q_AC q_vi (some .int) (4 + n) yX11_one cX11_one 5 [.ref 48] w (r_X11_one w )) (k5 : qW → Int32 → Option (Int32 × qW)) (hk5 : ∀ (w : qW) (l1 : Int32), q_Ev E Γ 4 (q_Fi E Γ cX11_sums) 5 [some (.ref 48), some (.int l1), none, none] [] w (k5 w l1)) (w : qW) (l1 : Int32) : q_Ev E Γ 4 (q_Fi E Γ cX11_sums) 5 [some (.ref 48), some (.int l1), none, none] [] w (f_X11_sums_B5 r_X11_either r_X11_both r_X11_compared r_X11_sums r_X11_product r_X11_one k5 w l1) := by
  unfold f_X11_sums_B5
  refine e_aload_n G (pc := 5) dX11_sums_5 rfl rfl ?_
  refine e_getI G (pc := 6) sh_48 rfl lk_X11_153 dX11_sums_6 ?_
  refine e_if_ge G (pc := 9) (tgt := 77) dX11_sums_9 (by decide) ?_ ?_
  · refine e_iload_n G (pc := 77) dX11_sums_77 rfl rfl ?_
    exact e_iret dX11_sums_78
  · refine e_aload_n G (pc := 12) dX11_sums_12 rfl rfl ?_
    refine e_cVi G (pc := 13) (As := []) (st := []) cv_X11_156 (c_X11_byteAt w  ) sh_48 (by omega) rfl (Nat.le_of_ble_eq_true rfl) dX11_sums_13 (fun r1 w2 => ?_)
    refine e_bipush G (pc := 16) (v := 43) dX11_sums_16 (by decide) ?_
    refine e_icmp_eq G (pc := 18) (tgt := 30) dX11_sums_18 (by decide) ?_ ?_
    · exact t_X11_sums_B30 G hr_X11_either hr_X11_both hr_X11_compared hr_X11_sums hr_X11_product hr_X11_one k5 hk5 w2 l1 
    · refine e_aload_n G (pc := 21) dX11_sums_21 rfl rfl ?_
      refine e_cVi G (pc := 22) (As := []) (st := []) cv_X11_156 (c_X11_byteAt w2  ) sh_48 (by omega) rfl (Nat.le_of_ble_eq_true rfl) dX11_sums_22 (fun r3 w4 => ?_)
      refine e_bipush G (pc := 25) (v := 45) dX11_sums_25 (by decide) ?_
      refine e_icmp_ne G (pc := 27) (tgt := 77) dX11_sums_27 (by decide) ?_ ?_
      · refine e_iload_n G (pc := 77) dX11_sums_77 rfl rfl ?_
        exact e_iret dX11_sums_78
      · exact t_X11_sums_B30 G hr_X11_either hr_X11_both hr_X11_compared hr_X11_sums hr_X11_product hr_X11_one k5 hk5 w4 l1 
set_option maxRecDepth 100000 in
set_option maxHeartbeats 4000000 in
theorem t_X11_sums_R5 {n : Nat} {E : qE} {Γ : qC} {r_X11_either : qW → Option (Int32 × qW)} {r_X11_both : qW → Option (Int32 × qW)} {r_X11_compared : qW → Option (Int32 × qW)} {r_X11_sums : qW → Option (Int32 × qW)} {r_X11_product : qW → Option (Int32 × qW)} {r_X11_one : qW → Option (Int32 × qW)} (G : q_Ok E Γ RX11 cX11_sums 4 (4 + n + 1)) (hr_X11_either : ∀ (w : qW), q_AC q_vi (some .int) (4 + n) yX11_either cX11_either 3 [.ref 48] w (r_X11_either w )) (hr_X11_both : ∀ (w : qW), q_AC q_vi (some .int) (4 + n) yX11_both cX11_both 3 [.ref 48] w (r_X11_both w )) (hr_X11_compared : ∀ (w : qW), q_AC q_vi (some .int) (4 + n) yX11_compared cX11_compared 4 [.ref 48] w (r_X11_compared w )) (hr_X11_sums : ∀ (w : qW), q_AC q_vi (some .int) (4 + n) yX11_sums cX11_sums 4 [.ref 48] w (r_X11_sums w )) (hr_X11_product : ∀ (w : qW), q_AC q_vi (some .int) (4 + n) yX11_product cX11_product 4 [.ref 48] w (r_X11_product w )) (hr_X11_one : ∀ (w : qW), q_AC q_vi (some .int) (4 + n) yX11_one cX11_one 5 [.ref 48] w (r_X11_one w )) : ∀ (fuel : Nat) (w : qW) (l1 : Int32) , q_Ev E Γ 4 (q_Fi E Γ cX11_sums) 5 [some (.ref 48), some (.int l1), none, none] [] w (f_X11_sums_R5 r_X11_either r_X11_both r_X11_compared r_X11_sums r_X11_product r_X11_one fuel w l1) := by
  intro fuel
  induction fuel with
  | zero => intros; exact e_none
  | succ fuel ih =>
    intro w l1 
    exact t_X11_sums_B5 G hr_X11_either hr_X11_both hr_X11_compared hr_X11_sums hr_X11_product hr_X11_one _ ih w l1 
set_option maxRecDepth 100000 in
set_option maxHeartbeats 4000000 in
theorem t_X11_sums {n : Nat} {E : qE} {Γ : qC} {r_X11_either : qW → Option (Int32 × qW)} {r_X11_both : qW → Option (Int32 × qW)} {r_X11_compared : qW → Option (Int32 × qW)} {r_X11_sums : qW → Option (Int32 × qW)} {r_X11_product : qW → Option (Int32 × qW)} {r_X11_one : qW → Option (Int32 × qW)} (G : q_Ok E Γ RX11 cX11_sums 4 (4 + n + 1)) (hr_X11_either : ∀ (w : qW), q_AC q_vi (some .int) (4 + n) yX11_either cX11_either 3 [.ref 48] w (r_X11_either w )) (hr_X11_both : ∀ (w : qW), q_AC q_vi (some .int) (4 + n) yX11_both cX11_both 3 [.ref 48] w (r_X11_both w )) (hr_X11_compared : ∀ (w : qW), q_AC q_vi (some .int) (4 + n) yX11_compared cX11_compared 4 [.ref 48] w (r_X11_compared w )) (hr_X11_sums : ∀ (w : qW), q_AC q_vi (some .int) (4 + n) yX11_sums cX11_sums 4 [.ref 48] w (r_X11_sums w )) (hr_X11_product : ∀ (w : qW), q_AC q_vi (some .int) (4 + n) yX11_product cX11_product 4 [.ref 48] w (r_X11_product w )) (hr_X11_one : ∀ (w : qW), q_AC q_vi (some .int) (4 + n) yX11_one cX11_one 5 [.ref 48] w (r_X11_one w )) (w : qW) : q_Ev E Γ 4 (q_Fi E Γ cX11_sums) 0 [some (.ref 48), none, none, none] [] w (b_X11_sums r_X11_either r_X11_both r_X11_compared r_X11_sums r_X11_product r_X11_one w ) := by
  unfold b_X11_sums
  refine e_aload_n G (pc := 0) dX11_sums_0 rfl rfl ?_
  refine e_cVi G (pc := 1) (As := []) (st := []) cv_X11_172 (hr_X11_product w  ) sh_48 (by omega) rfl (Nat.le_of_ble_eq_true rfl) dX11_sums_1 (fun r1 w2 => ?_)
  refine e_istore_n G (pc := 4) (L' := [some (.ref 48), some (.int r1), none, none]) dX11_sums_4 rfl (Nat.le_of_ble_eq_true rfl) rfl ?_
  exact t_X11_sums_R5 G hr_X11_either hr_X11_both hr_X11_compared hr_X11_sums hr_X11_product hr_X11_one  q_fuel w2 r1 
set_option maxRecDepth 100000 in
set_option maxHeartbeats 4000000 in
theorem t_X11_product_B85 {n : Nat} {E : qE} {Γ : qC} {r_X11_either : qW → Option (Int32 × qW)} {r_X11_both : qW → Option (Int32 × qW)} {r_X11_compared : qW → Option (Int32 × qW)} {r_X11_sums : qW → Option (Int32 × qW)} {r_X11_product : qW → Option (Int32 × qW)} {r_X11_one : qW → Option (Int32 × qW)} (G : q_Ok E Γ RX11 cX11_product 4 (4 + n + 1)) (hr_X11_either : ∀ (w : qW), q_AC q_vi (some .int) (4 + n) yX11_either cX11_either 3 [.ref 48] w (r_X11_either w )) (hr_X11_both : ∀ (w : qW), q_AC q_vi (some .int) (4 + n) yX11_both cX11_both 3 [.ref 48] w (r_X11_both w )) (hr_X11_compared : ∀ (w : qW), q_AC q_vi (some .int) (4 + n) yX11_compared cX11_compared 4 [.ref 48] w (r_X11_compared w )) (hr_X11_sums : ∀ (w : qW), q_AC q_vi (some .int) (4 + n) yX11_sums cX11_sums 4 [.ref 48] w (r_X11_sums w )) (hr_X11_product : ∀ (w : qW), q_AC q_vi (some .int) (4 + n) yX11_product cX11_product 4 [.ref 48] w (r_X11_product w )) (hr_X11_one : ∀ (w : qW), q_AC q_vi (some .int) (4 + n) yX11_one cX11_one 5 [.ref 48] w (r_X11_one w )) (k10 : qW → Int32 → Int32 → Option (Int32 × qW)) (hk10 : ∀ (w : qW) (l1 : Int32) (l2 : Int32), q_Ev E Γ 4 (q_Fi E Γ cX11_product) 10 [some (.ref 48), some (.int l1), some (.int l2), none] [] w (k10 w l1 l2)) (w : qW) (s0 : Int32) : q_Ev E Γ 4 (q_Fi E Γ cX11_product) 85 [some (.ref 48), none, none, none] [.int s0] w (f_X11_product_B85 r_X11_either r_X11_both r_X11_compared r_X11_sums r_X11_product r_X11_one k10 w s0) := by
  unfold f_X11_product_B85
  refine e_istore_n G (pc := 85) (L' := [some (.ref 48), some (.int s0), none, none]) dX11_product_85 rfl (Nat.le_of_ble_eq_true rfl) rfl ?_
  refine e_aload_n G (pc := 86) dX11_product_86 rfl rfl ?_
  refine e_cVi G (pc := 87) (As := []) (st := []) cv_X11_156 (c_X11_byteAt w  ) sh_48 (by omega) rfl (Nat.le_of_ble_eq_true rfl) dX11_product_87 (fun r1 w2 => ?_)
  refine e_istore_n G (pc := 90) (L' := [some (.ref 48), some (.int s0), some (.int r1), none]) dX11_product_90 rfl (Nat.le_of_ble_eq_true rfl) rfl ?_
  refine e_goto G (pc := 91) (tgt := 10) dX11_product_91 (by decide) ?_
  exact hk10 w2 s0 r1 
set_option maxRecDepth 100000 in
set_option maxHeartbeats 4000000 in
theorem t_X11_product_B35 {n : Nat} {E : qE} {Γ : qC} {r_X11_either : qW → Option (Int32 × qW)} {r_X11_both : qW → Option (Int32 × qW)} {r_X11_compared : qW → Option (Int32 × qW)} {r_X11_sums : qW → Option (Int32 × qW)} {r_X11_product : qW → Option (Int32 × qW)} {r_X11_one : qW → Option (Int32 × qW)} (G : q_Ok E Γ RX11 cX11_product 4 (4 + n + 1)) (hr_X11_either : ∀ (w : qW), q_AC q_vi (some .int) (4 + n) yX11_either cX11_either 3 [.ref 48] w (r_X11_either w )) (hr_X11_both : ∀ (w : qW), q_AC q_vi (some .int) (4 + n) yX11_both cX11_both 3 [.ref 48] w (r_X11_both w )) (hr_X11_compared : ∀ (w : qW), q_AC q_vi (some .int) (4 + n) yX11_compared cX11_compared 4 [.ref 48] w (r_X11_compared w )) (hr_X11_sums : ∀ (w : qW), q_AC q_vi (some .int) (4 + n) yX11_sums cX11_sums 4 [.ref 48] w (r_X11_sums w )) (hr_X11_product : ∀ (w : qW), q_AC q_vi (some .int) (4 + n) yX11_product cX11_product 4 [.ref 48] w (r_X11_product w )) (hr_X11_one : ∀ (w : qW), q_AC q_vi (some .int) (4 + n) yX11_one cX11_one 5 [.ref 48] w (r_X11_one w )) (k10 : qW → Int32 → Int32 → Option (Int32 × qW)) (hk10 : ∀ (w : qW) (l1 : Int32) (l2 : Int32), q_Ev E Γ 4 (q_Fi E Γ cX11_product) 10 [some (.ref 48), some (.int l1), some (.int l2), none] [] w (k10 w l1 l2)) (w : qW) (l1 : Int32) (l2 : Int32) : q_Ev E Γ 4 (q_Fi E Γ cX11_product) 35 [some (.ref 48), some (.int l1), some (.int l2), none] [] w (f_X11_product_B35 r_X11_either r_X11_both r_X11_compared r_X11_sums r_X11_product r_X11_one k10 w l1 l2) := by
  unfold f_X11_product_B35
  refine e_aload_n G (pc := 35) dX11_product_35 rfl rfl ?_
  refine e_dup G (pc := 36) dX11_product_36 rfl ?_
  refine e_getI G (pc := 37) sh_48 rfl lk_X11_144 dX11_product_37 ?_
  refine e_iconst G (pc := 40) (v := 1) dX11_product_40 (by decide) ?_
  refine e_iadd G (pc := 41) dX11_product_41 ?_
  refine e_putI G (pc := 42) sh_48 rfl lp_X11_144 rfl rfl dX11_product_42 (fun w1 => ?_)
  refine e_aload_n G (pc := 45) dX11_product_45 rfl rfl ?_
  refine e_cVi G (pc := 46) (As := []) (st := []) cv_X11_175 (hr_X11_one w1  ) sh_48 (by omega) rfl (Nat.le_of_ble_eq_true rfl) dX11_product_46 (fun r2 w3 => ?_)
  refine e_istore_n G (pc := 49) (L' := [some (.ref 48), some (.int l1), some (.int l2), some (.int r2)]) dX11_product_49 rfl (Nat.le_of_ble_eq_true rfl) rfl ?_
  refine e_iload_n G (pc := 50) dX11_product_50 rfl rfl ?_
  refine e_bipush G (pc := 51) (v := 42) dX11_product_51 (by decide) ?_
  refine e_icmp_ne G (pc := 53) (tgt := 62) dX11_product_53 (by decide) ?_ ?_
  · refine e_iload_n G (pc := 62) dX11_product_62 rfl rfl ?_
    refine e_if_ne G (pc := 63) (tgt := 70) dX11_product_63 (by decide) ?_ ?_
    · refine e_iload_n G (pc := 70) dX11_product_70 rfl rfl ?_
      refine e_bipush G (pc := 71) (v := 47) dX11_product_71 (by decide) ?_
      refine e_icmp_ne G (pc := 73) (tgt := 82) dX11_product_73 (by decide) ?_ ?_
      · refine e_iload_n G (pc := 82) dX11_product_82 rfl rfl ?_
        refine e_iload_n G (pc := 83) dX11_product_83 rfl rfl ?_
        refine e_irem_z G (pc := 84) dX11_product_84 ?_
        refine e_wk (L' := [some (.ref 48), none, none, none]) (And.intro rfl (trivial)) ?_
        exact t_X11_product_B85 G hr_X11_either hr_X11_both hr_X11_compared hr_X11_sums hr_X11_product hr_X11_one k10 hk10 w3 (q_rem l1 r2) 
      · refine e_iload_n G (pc := 76) dX11_product_76 rfl rfl ?_
        refine e_iload_n G (pc := 77) dX11_product_77 rfl rfl ?_
        refine e_idiv_z G (pc := 78) dX11_product_78 ?_
        refine e_goto G (pc := 79) (tgt := 85) dX11_product_79 (by decide) ?_
        refine e_wk (L' := [some (.ref 48), none, none, none]) (And.intro rfl (trivial)) ?_
        exact t_X11_product_B85 G hr_X11_either hr_X11_both hr_X11_compared hr_X11_sums hr_X11_product hr_X11_one k10 hk10 w3 (l1 / r2) 
    · refine e_iconst G (pc := 66) (v := 0) dX11_product_66 (by decide) ?_
      refine e_goto G (pc := 67) (tgt := 85) dX11_product_67 (by decide) ?_
      refine e_wk (L' := [some (.ref 48), none, none, none]) (And.intro rfl (trivial)) ?_
      exact t_X11_product_B85 G hr_X11_either hr_X11_both hr_X11_compared hr_X11_sums hr_X11_product hr_X11_one k10 hk10 w3 0 
  · refine e_iload_n G (pc := 56) dX11_product_56 rfl rfl ?_
    refine e_iload_n G (pc := 57) dX11_product_57 rfl rfl ?_
    refine e_imul G (pc := 58) dX11_product_58 ?_
    refine e_goto G (pc := 59) (tgt := 85) dX11_product_59 (by decide) ?_
    refine e_wk (L' := [some (.ref 48), none, none, none]) (And.intro rfl (trivial)) ?_
    exact t_X11_product_B85 G hr_X11_either hr_X11_both hr_X11_compared hr_X11_sums hr_X11_product hr_X11_one k10 hk10 w3 (l1 * r2) 
set_option maxRecDepth 100000 in
set_option maxHeartbeats 4000000 in
theorem t_X11_product_B10 {n : Nat} {E : qE} {Γ : qC} {r_X11_either : qW → Option (Int32 × qW)} {r_X11_both : qW → Option (Int32 × qW)} {r_X11_compared : qW → Option (Int32 × qW)} {r_X11_sums : qW → Option (Int32 × qW)} {r_X11_product : qW → Option (Int32 × qW)} {r_X11_one : qW → Option (Int32 × qW)} (G : q_Ok E Γ RX11 cX11_product 4 (4 + n + 1)) (hr_X11_either : ∀ (w : qW), q_AC q_vi (some .int) (4 + n) yX11_either cX11_either 3 [.ref 48] w (r_X11_either w )) (hr_X11_both : ∀ (w : qW), q_AC q_vi (some .int) (4 + n) yX11_both cX11_both 3 [.ref 48] w (r_X11_both w )) (hr_X11_compared : ∀ (w : qW), q_AC q_vi (some .int) (4 + n) yX11_compared cX11_compared 4 [.ref 48] w (r_X11_compared w )) (hr_X11_sums : ∀ (w : qW), q_AC q_vi (some .int) (4 + n) yX11_sums cX11_sums 4 [.ref 48] w (r_X11_sums w )) (hr_X11_product : ∀ (w : qW), q_AC q_vi (some .int) (4 + n) yX11_product cX11_product 4 [.ref 48] w (r_X11_product w )) (hr_X11_one : ∀ (w : qW), q_AC q_vi (some .int) (4 + n) yX11_one cX11_one 5 [.ref 48] w (r_X11_one w )) (k10 : qW → Int32 → Int32 → Option (Int32 × qW)) (hk10 : ∀ (w : qW) (l1 : Int32) (l2 : Int32), q_Ev E Γ 4 (q_Fi E Γ cX11_product) 10 [some (.ref 48), some (.int l1), some (.int l2), none] [] w (k10 w l1 l2)) (w : qW) (l1 : Int32) (l2 : Int32) : q_Ev E Γ 4 (q_Fi E Γ cX11_product) 10 [some (.ref 48), some (.int l1), some (.int l2), none] [] w (f_X11_product_B10 r_X11_either r_X11_both r_X11_compared r_X11_sums r_X11_product r_X11_one k10 w l1 l2) := by
  unfold f_X11_product_B10
  refine e_aload_n G (pc := 10) dX11_product_10 rfl rfl ?_
  refine e_getI G (pc := 11) sh_48 rfl lk_X11_153 dX11_product_11 ?_
  refine e_if_ge G (pc := 14) (tgt := 94) dX11_product_14 (by decide) ?_ ?_
  · refine e_iload_n G (pc := 94) dX11_product_94 rfl rfl ?_
    exact e_iret dX11_product_95
  · refine e_iload_n G (pc := 17) dX11_product_17 rfl rfl ?_
    refine e_bipush G (pc := 18) (v := 42) dX11_product_18 (by decide) ?_
    refine e_icmp_eq G (pc := 20) (tgt := 35) dX11_product_20 (by decide) ?_ ?_
    · exact t_X11_product_B35 G hr_X11_either hr_X11_both hr_X11_compared hr_X11_sums hr_X11_product hr_X11_one k10 hk10 w l1 l2 
    · refine e_iload_n G (pc := 23) dX11_product_23 rfl rfl ?_
      refine e_bipush G (pc := 24) (v := 47) dX11_product_24 (by decide) ?_
      refine e_icmp_eq G (pc := 26) (tgt := 35) dX11_product_26 (by decide) ?_ ?_
      · exact t_X11_product_B35 G hr_X11_either hr_X11_both hr_X11_compared hr_X11_sums hr_X11_product hr_X11_one k10 hk10 w l1 l2 
      · refine e_iload_n G (pc := 29) dX11_product_29 rfl rfl ?_
        refine e_bipush G (pc := 30) (v := 37) dX11_product_30 (by decide) ?_
        refine e_icmp_ne G (pc := 32) (tgt := 94) dX11_product_32 (by decide) ?_ ?_
        · refine e_iload_n G (pc := 94) dX11_product_94 rfl rfl ?_
          exact e_iret dX11_product_95
        · exact t_X11_product_B35 G hr_X11_either hr_X11_both hr_X11_compared hr_X11_sums hr_X11_product hr_X11_one k10 hk10 w l1 l2 
set_option maxRecDepth 100000 in
set_option maxHeartbeats 4000000 in
theorem t_X11_product_R10 {n : Nat} {E : qE} {Γ : qC} {r_X11_either : qW → Option (Int32 × qW)} {r_X11_both : qW → Option (Int32 × qW)} {r_X11_compared : qW → Option (Int32 × qW)} {r_X11_sums : qW → Option (Int32 × qW)} {r_X11_product : qW → Option (Int32 × qW)} {r_X11_one : qW → Option (Int32 × qW)} (G : q_Ok E Γ RX11 cX11_product 4 (4 + n + 1)) (hr_X11_either : ∀ (w : qW), q_AC q_vi (some .int) (4 + n) yX11_either cX11_either 3 [.ref 48] w (r_X11_either w )) (hr_X11_both : ∀ (w : qW), q_AC q_vi (some .int) (4 + n) yX11_both cX11_both 3 [.ref 48] w (r_X11_both w )) (hr_X11_compared : ∀ (w : qW), q_AC q_vi (some .int) (4 + n) yX11_compared cX11_compared 4 [.ref 48] w (r_X11_compared w )) (hr_X11_sums : ∀ (w : qW), q_AC q_vi (some .int) (4 + n) yX11_sums cX11_sums 4 [.ref 48] w (r_X11_sums w )) (hr_X11_product : ∀ (w : qW), q_AC q_vi (some .int) (4 + n) yX11_product cX11_product 4 [.ref 48] w (r_X11_product w )) (hr_X11_one : ∀ (w : qW), q_AC q_vi (some .int) (4 + n) yX11_one cX11_one 5 [.ref 48] w (r_X11_one w )) : ∀ (fuel : Nat) (w : qW) (l1 : Int32) (l2 : Int32) , q_Ev E Γ 4 (q_Fi E Γ cX11_product) 10 [some (.ref 48), some (.int l1), some (.int l2), none] [] w (f_X11_product_R10 r_X11_either r_X11_both r_X11_compared r_X11_sums r_X11_product r_X11_one fuel w l1 l2) := by
  intro fuel
  induction fuel with
  | zero => intros; exact e_none
  | succ fuel ih =>
    intro w l1 l2 
    exact t_X11_product_B10 G hr_X11_either hr_X11_both hr_X11_compared hr_X11_sums hr_X11_product hr_X11_one _ ih w l1 l2 
set_option maxRecDepth 100000 in
set_option maxHeartbeats 4000000 in
theorem t_X11_product {n : Nat} {E : qE} {Γ : qC} {r_X11_either : qW → Option (Int32 × qW)} {r_X11_both : qW → Option (Int32 × qW)} {r_X11_compared : qW → Option (Int32 × qW)} {r_X11_sums : qW → Option (Int32 × qW)} {r_X11_product : qW → Option (Int32 × qW)} {r_X11_one : qW → Option (Int32 × qW)} (G : q_Ok E Γ RX11 cX11_product 4 (4 + n + 1)) (hr_X11_either : ∀ (w : qW), q_AC q_vi (some .int) (4 + n) yX11_either cX11_either 3 [.ref 48] w (r_X11_either w )) (hr_X11_both : ∀ (w : qW), q_AC q_vi (some .int) (4 + n) yX11_both cX11_both 3 [.ref 48] w (r_X11_both w )) (hr_X11_compared : ∀ (w : qW), q_AC q_vi (some .int) (4 + n) yX11_compared cX11_compared 4 [.ref 48] w (r_X11_compared w )) (hr_X11_sums : ∀ (w : qW), q_AC q_vi (some .int) (4 + n) yX11_sums cX11_sums 4 [.ref 48] w (r_X11_sums w )) (hr_X11_product : ∀ (w : qW), q_AC q_vi (some .int) (4 + n) yX11_product cX11_product 4 [.ref 48] w (r_X11_product w )) (hr_X11_one : ∀ (w : qW), q_AC q_vi (some .int) (4 + n) yX11_one cX11_one 5 [.ref 48] w (r_X11_one w )) (w : qW) : q_Ev E Γ 4 (q_Fi E Γ cX11_product) 0 [some (.ref 48), none, none, none] [] w (b_X11_product r_X11_either r_X11_both r_X11_compared r_X11_sums r_X11_product r_X11_one w ) := by
  unfold b_X11_product
  refine e_aload_n G (pc := 0) dX11_product_0 rfl rfl ?_
  refine e_cVi G (pc := 1) (As := []) (st := []) cv_X11_175 (hr_X11_one w  ) sh_48 (by omega) rfl (Nat.le_of_ble_eq_true rfl) dX11_product_1 (fun r1 w2 => ?_)
  refine e_istore_n G (pc := 4) (L' := [some (.ref 48), some (.int r1), none, none]) dX11_product_4 rfl (Nat.le_of_ble_eq_true rfl) rfl ?_
  refine e_aload_n G (pc := 5) dX11_product_5 rfl rfl ?_
  refine e_cVi G (pc := 6) (As := []) (st := []) cv_X11_156 (c_X11_byteAt w2  ) sh_48 (by omega) rfl (Nat.le_of_ble_eq_true rfl) dX11_product_6 (fun r3 w4 => ?_)
  refine e_istore_n G (pc := 9) (L' := [some (.ref 48), some (.int r1), some (.int r3), none]) dX11_product_9 rfl (Nat.le_of_ble_eq_true rfl) rfl ?_
  exact t_X11_product_R10 G hr_X11_either hr_X11_both hr_X11_compared hr_X11_sums hr_X11_product hr_X11_one  q_fuel w4 r1 r3 
set_option maxRecDepth 100000 in
set_option maxHeartbeats 4000000 in
theorem t_X11_one_B104 {n : Nat} {E : qE} {Γ : qC} {r_X11_either : qW → Option (Int32 × qW)} {r_X11_both : qW → Option (Int32 × qW)} {r_X11_compared : qW → Option (Int32 × qW)} {r_X11_sums : qW → Option (Int32 × qW)} {r_X11_product : qW → Option (Int32 × qW)} {r_X11_one : qW → Option (Int32 × qW)} (G : q_Ok E Γ RX11 cX11_one 5 (4 + n + 1)) (hr_X11_either : ∀ (w : qW), q_AC q_vi (some .int) (4 + n) yX11_either cX11_either 3 [.ref 48] w (r_X11_either w )) (hr_X11_both : ∀ (w : qW), q_AC q_vi (some .int) (4 + n) yX11_both cX11_both 3 [.ref 48] w (r_X11_both w )) (hr_X11_compared : ∀ (w : qW), q_AC q_vi (some .int) (4 + n) yX11_compared cX11_compared 4 [.ref 48] w (r_X11_compared w )) (hr_X11_sums : ∀ (w : qW), q_AC q_vi (some .int) (4 + n) yX11_sums cX11_sums 4 [.ref 48] w (r_X11_sums w )) (hr_X11_product : ∀ (w : qW), q_AC q_vi (some .int) (4 + n) yX11_product cX11_product 4 [.ref 48] w (r_X11_product w )) (hr_X11_one : ∀ (w : qW), q_AC q_vi (some .int) (4 + n) yX11_one cX11_one 5 [.ref 48] w (r_X11_one w )) (w : qW) (l1 : Int32) (l2 : Int32) : q_Ev E Γ 5 (q_Fi E Γ cX11_one) 104 [some (.ref 48), some (.int l1), some (.int l2), none, none] [] w (f_X11_one_B104 r_X11_either r_X11_both r_X11_compared r_X11_sums r_X11_product r_X11_one w l1 l2) := by
  unfold f_X11_one_B104
  refine e_aload_n G (pc := 104) dX11_one_104 rfl rfl ?_
  refine e_dup G (pc := 105) dX11_one_105 rfl ?_
  refine e_getI G (pc := 106) sh_48 rfl lk_X11_178 dX11_one_106 ?_
  refine e_iconst G (pc := 109) (v := 1) dX11_one_109 (by decide) ?_
  refine e_isub G (pc := 110) dX11_one_110 ?_
  refine e_putI G (pc := 111) sh_48 rfl lp_X11_178 rfl rfl dX11_one_111 (fun w1 => ?_)
  refine e_iload_n G (pc := 114) dX11_one_114 rfl rfl ?_
  refine e_bipush G (pc := 115) (v := 40) dX11_one_115 (by decide) ?_
  refine e_icmp_ne G (pc := 117) (tgt := 124) dX11_one_117 (by decide) ?_ ?_
  · refine e_iload_n G (pc := 124) dX11_one_124 rfl rfl ?_
    refine e_bipush G (pc := 125) (v := 45) dX11_one_125 (by decide) ?_
    refine e_icmp_ne G (pc := 127) (tgt := 135) dX11_one_127 (by decide) ?_ ?_
    · refine e_iload_n G (pc := 135) dX11_one_135 rfl rfl ?_
      refine e_if_ne G (pc := 136) (tgt := 143) dX11_one_136 (by decide) ?_ ?_
      · refine e_iconst G (pc := 143) (v := 0) dX11_one_143 (by decide) ?_
        exact e_iret dX11_one_144
      · refine e_iconst G (pc := 139) (v := 1) dX11_one_139 (by decide) ?_
        refine e_goto G (pc := 140) (tgt := 144) dX11_one_140 (by decide) ?_
        exact e_iret dX11_one_144
    · refine e_iload_n G (pc := 130) dX11_one_130 rfl rfl ?_
      refine e_ineg G (pc := 131) dX11_one_131 ?_
      refine e_goto G (pc := 132) (tgt := 144) dX11_one_132 (by decide) ?_
      exact e_iret dX11_one_144
  · refine e_iload_n G (pc := 120) dX11_one_120 rfl rfl ?_
    refine e_goto G (pc := 121) (tgt := 144) dX11_one_121 (by decide) ?_
    exact e_iret dX11_one_144
set_option maxRecDepth 100000 in
set_option maxHeartbeats 4000000 in
theorem t_X11_one_B83 {n : Nat} {E : qE} {Γ : qC} {r_X11_either : qW → Option (Int32 × qW)} {r_X11_both : qW → Option (Int32 × qW)} {r_X11_compared : qW → Option (Int32 × qW)} {r_X11_sums : qW → Option (Int32 × qW)} {r_X11_product : qW → Option (Int32 × qW)} {r_X11_one : qW → Option (Int32 × qW)} (G : q_Ok E Γ RX11 cX11_one 5 (4 + n + 1)) (hr_X11_either : ∀ (w : qW), q_AC q_vi (some .int) (4 + n) yX11_either cX11_either 3 [.ref 48] w (r_X11_either w )) (hr_X11_both : ∀ (w : qW), q_AC q_vi (some .int) (4 + n) yX11_both cX11_both 3 [.ref 48] w (r_X11_both w )) (hr_X11_compared : ∀ (w : qW), q_AC q_vi (some .int) (4 + n) yX11_compared cX11_compared 4 [.ref 48] w (r_X11_compared w )) (hr_X11_sums : ∀ (w : qW), q_AC q_vi (some .int) (4 + n) yX11_sums cX11_sums 4 [.ref 48] w (r_X11_sums w )) (hr_X11_product : ∀ (w : qW), q_AC q_vi (some .int) (4 + n) yX11_product cX11_product 4 [.ref 48] w (r_X11_product w )) (hr_X11_one : ∀ (w : qW), q_AC q_vi (some .int) (4 + n) yX11_one cX11_one 5 [.ref 48] w (r_X11_one w )) (w : qW) (l1 : Int32) (s0 : Int32) : q_Ev E Γ 5 (q_Fi E Γ cX11_one) 83 [some (.ref 48), some (.int l1), none, none, none] [.int s0] w (f_X11_one_B83 r_X11_either r_X11_both r_X11_compared r_X11_sums r_X11_product r_X11_one w l1 s0) := by
  unfold f_X11_one_B83
  refine e_istore_n G (pc := 83) (L' := [some (.ref 48), some (.int l1), some (.int s0), none, none]) dX11_one_83 rfl (Nat.le_of_ble_eq_true rfl) rfl ?_
  refine e_iload_n G (pc := 84) dX11_one_84 rfl rfl ?_
  refine e_bipush G (pc := 85) (v := 40) dX11_one_85 (by decide) ?_
  refine e_icmp_ne G (pc := 87) (tgt := 104) dX11_one_87 (by decide) ?_ ?_
  · exact t_X11_one_B104 G hr_X11_either hr_X11_both hr_X11_compared hr_X11_sums hr_X11_product hr_X11_one w l1 s0 
  · refine e_aload_n G (pc := 90) dX11_one_90 rfl rfl ?_
    refine e_bipush G (pc := 91) (v := 41) dX11_one_91 (by decide) ?_
    refine e_cVi G (pc := 93) (As := [.int 41]) (st := []) cv_X11_163 (c_X11_takes w 41 ) sh_48 (by omega) rfl (Nat.le_of_ble_eq_true rfl) dX11_one_93 (fun r1 w2 => ?_)
    refine e_if_ne G (pc := 96) (tgt := 104) dX11_one_96 (by decide) ?_ ?_
    · exact t_X11_one_B104 G hr_X11_either hr_X11_both hr_X11_compared hr_X11_sums hr_X11_product hr_X11_one w2 l1 s0 
    · refine e_aload_n G (pc := 99) dX11_one_99 rfl rfl ?_
      refine e_cVi G (pc := 100) (As := []) (st := []) cv_X11_181 (c_X11_wrong w2  ) sh_48 (by omega) rfl (Nat.le_of_ble_eq_true rfl) dX11_one_100 (fun r3 w4 => ?_)
      exact e_iret dX11_one_103
set_option maxRecDepth 100000 in
set_option maxHeartbeats 4000000 in
theorem t_X11_one_B32 {n : Nat} {E : qE} {Γ : qC} {r_X11_either : qW → Option (Int32 × qW)} {r_X11_both : qW → Option (Int32 × qW)} {r_X11_compared : qW → Option (Int32 × qW)} {r_X11_sums : qW → Option (Int32 × qW)} {r_X11_product : qW → Option (Int32 × qW)} {r_X11_one : qW → Option (Int32 × qW)} (G : q_Ok E Γ RX11 cX11_one 5 (4 + n + 1)) (hr_X11_either : ∀ (w : qW), q_AC q_vi (some .int) (4 + n) yX11_either cX11_either 3 [.ref 48] w (r_X11_either w )) (hr_X11_both : ∀ (w : qW), q_AC q_vi (some .int) (4 + n) yX11_both cX11_both 3 [.ref 48] w (r_X11_both w )) (hr_X11_compared : ∀ (w : qW), q_AC q_vi (some .int) (4 + n) yX11_compared cX11_compared 4 [.ref 48] w (r_X11_compared w )) (hr_X11_sums : ∀ (w : qW), q_AC q_vi (some .int) (4 + n) yX11_sums cX11_sums 4 [.ref 48] w (r_X11_sums w )) (hr_X11_product : ∀ (w : qW), q_AC q_vi (some .int) (4 + n) yX11_product cX11_product 4 [.ref 48] w (r_X11_product w )) (hr_X11_one : ∀ (w : qW), q_AC q_vi (some .int) (4 + n) yX11_one cX11_one 5 [.ref 48] w (r_X11_one w )) (w : qW) (l1 : Int32) : q_Ev E Γ 5 (q_Fi E Γ cX11_one) 32 [some (.ref 48), some (.int l1), none, none, none] [] w (f_X11_one_B32 r_X11_either r_X11_both r_X11_compared r_X11_sums r_X11_product r_X11_one w l1) := by
  unfold f_X11_one_B32
  refine e_aload_n G (pc := 32) dX11_one_32 rfl rfl ?_
  refine e_getI G (pc := 33) sh_48 rfl lk_X11_178 dX11_one_33 ?_
  refine e_bipush G (pc := 36) (v := 6) dX11_one_36 (by decide) ?_
  refine e_icmp_ne G (pc := 38) (tgt := 46) dX11_one_38 (by decide) ?_ ?_
  · refine e_aload_n G (pc := 46) dX11_one_46 rfl rfl ?_
    refine e_dup G (pc := 47) dX11_one_47 rfl ?_
    refine e_getI G (pc := 48) sh_48 rfl lk_X11_178 dX11_one_48 ?_
    refine e_iconst G (pc := 51) (v := 1) dX11_one_51 (by decide) ?_
    refine e_iadd G (pc := 52) dX11_one_52 ?_
    refine e_putI G (pc := 53) sh_48 rfl lp_X11_178 rfl rfl dX11_one_53 (fun w1 => ?_)
    refine e_aload_n G (pc := 56) dX11_one_56 rfl rfl ?_
    refine e_dup G (pc := 57) dX11_one_57 rfl ?_
    refine e_getI G (pc := 58) sh_48 rfl lk_X11_144 dX11_one_58 ?_
    refine e_iconst G (pc := 61) (v := 1) dX11_one_61 (by decide) ?_
    refine e_iadd G (pc := 62) dX11_one_62 ?_
    refine e_putI G (pc := 63) sh_48 rfl lp_X11_144 rfl rfl dX11_one_63 (fun w2 => ?_)
    refine e_iload_n G (pc := 66) dX11_one_66 rfl rfl ?_
    refine e_bipush G (pc := 67) (v := 40) dX11_one_67 (by decide) ?_
    refine e_icmp_ne G (pc := 69) (tgt := 79) dX11_one_69 (by decide) ?_ ?_
    · refine e_aload_n G (pc := 79) dX11_one_79 rfl rfl ?_
      refine e_cVi G (pc := 80) (As := []) (st := []) cv_X11_175 (hr_X11_one w2  ) sh_48 (by omega) rfl (Nat.le_of_ble_eq_true rfl) dX11_one_80 (fun r3 w4 => ?_)
      exact t_X11_one_B83 G hr_X11_either hr_X11_both hr_X11_compared hr_X11_sums hr_X11_product hr_X11_one w4 l1 r3 
    · refine e_aload_n G (pc := 72) dX11_one_72 rfl rfl ?_
      refine e_cVi G (pc := 73) (As := []) (st := []) cv_X11_184 (hr_X11_either w2  ) sh_48 (by omega) rfl (Nat.le_of_ble_eq_true rfl) dX11_one_73 (fun r5 w6 => ?_)
      refine e_goto G (pc := 76) (tgt := 83) dX11_one_76 (by decide) ?_
      exact t_X11_one_B83 G hr_X11_either hr_X11_both hr_X11_compared hr_X11_sums hr_X11_product hr_X11_one w6 l1 r5 
  · refine e_aload_n G (pc := 41) dX11_one_41 rfl rfl ?_
    refine e_cVi G (pc := 42) (As := []) (st := []) cv_X11_181 (c_X11_wrong w  ) sh_48 (by omega) rfl (Nat.le_of_ble_eq_true rfl) dX11_one_42 (fun r7 w8 => ?_)
    exact e_iret dX11_one_45
set_option maxRecDepth 100000 in
set_option maxHeartbeats 4000000 in
theorem t_X11_one_B229 {n : Nat} {E : qE} {Γ : qC} {r_X11_either : qW → Option (Int32 × qW)} {r_X11_both : qW → Option (Int32 × qW)} {r_X11_compared : qW → Option (Int32 × qW)} {r_X11_sums : qW → Option (Int32 × qW)} {r_X11_product : qW → Option (Int32 × qW)} {r_X11_one : qW → Option (Int32 × qW)} (G : q_Ok E Γ RX11 cX11_one 5 (4 + n + 1)) (hr_X11_either : ∀ (w : qW), q_AC q_vi (some .int) (4 + n) yX11_either cX11_either 3 [.ref 48] w (r_X11_either w )) (hr_X11_both : ∀ (w : qW), q_AC q_vi (some .int) (4 + n) yX11_both cX11_both 3 [.ref 48] w (r_X11_both w )) (hr_X11_compared : ∀ (w : qW), q_AC q_vi (some .int) (4 + n) yX11_compared cX11_compared 4 [.ref 48] w (r_X11_compared w )) (hr_X11_sums : ∀ (w : qW), q_AC q_vi (some .int) (4 + n) yX11_sums cX11_sums 4 [.ref 48] w (r_X11_sums w )) (hr_X11_product : ∀ (w : qW), q_AC q_vi (some .int) (4 + n) yX11_product cX11_product 4 [.ref 48] w (r_X11_product w )) (hr_X11_one : ∀ (w : qW), q_AC q_vi (some .int) (4 + n) yX11_one cX11_one 5 [.ref 48] w (r_X11_one w )) (w : qW) (l3 : Int32) (l4 : Int32) : q_Ev E Γ 5 (q_Fi E Γ cX11_one) 229 [some (.ref 48), none, none, some (.int l3), some (.int l4)] [] w (f_X11_one_B229 r_X11_either r_X11_both r_X11_compared r_X11_sums r_X11_product r_X11_one w l3 l4) := by
  unfold f_X11_one_B229
  refine e_iload G (pc := 229) dX11_one_229 rfl ?_
  refine e_if_ne G (pc := 231) (tgt := 241) dX11_one_231 (by decide) ?_ ?_
  · refine e_iload_n G (pc := 241) dX11_one_241 rfl rfl ?_
    exact e_iret dX11_one_242
  · refine e_aload_n G (pc := 234) dX11_one_234 rfl rfl ?_
    refine e_cVi G (pc := 235) (As := []) (st := []) cv_X11_181 (c_X11_wrong w  ) sh_48 (by omega) rfl (Nat.le_of_ble_eq_true rfl) dX11_one_235 (fun r1 w2 => ?_)
    refine e_goto G (pc := 238) (tgt := 242) dX11_one_238 (by decide) ?_
    exact e_iret dX11_one_242
set_option maxRecDepth 100000 in
set_option maxHeartbeats 4000000 in
theorem t_X11_one_B176 {n : Nat} {E : qE} {Γ : qC} {r_X11_either : qW → Option (Int32 × qW)} {r_X11_both : qW → Option (Int32 × qW)} {r_X11_compared : qW → Option (Int32 × qW)} {r_X11_sums : qW → Option (Int32 × qW)} {r_X11_product : qW → Option (Int32 × qW)} {r_X11_one : qW → Option (Int32 × qW)} (G : q_Ok E Γ RX11 cX11_one 5 (4 + n + 1)) (hr_X11_either : ∀ (w : qW), q_AC q_vi (some .int) (4 + n) yX11_either cX11_either 3 [.ref 48] w (r_X11_either w )) (hr_X11_both : ∀ (w : qW), q_AC q_vi (some .int) (4 + n) yX11_both cX11_both 3 [.ref 48] w (r_X11_both w )) (hr_X11_compared : ∀ (w : qW), q_AC q_vi (some .int) (4 + n) yX11_compared cX11_compared 4 [.ref 48] w (r_X11_compared w )) (hr_X11_sums : ∀ (w : qW), q_AC q_vi (some .int) (4 + n) yX11_sums cX11_sums 4 [.ref 48] w (r_X11_sums w )) (hr_X11_product : ∀ (w : qW), q_AC q_vi (some .int) (4 + n) yX11_product cX11_product 4 [.ref 48] w (r_X11_product w )) (hr_X11_one : ∀ (w : qW), q_AC q_vi (some .int) (4 + n) yX11_one cX11_one 5 [.ref 48] w (r_X11_one w )) (k176 : qW → Int32 → Int32 → Option (Int32 × qW)) (hk176 : ∀ (w : qW) (l3 : Int32) (l4 : Int32), q_Ev E Γ 5 (q_Fi E Γ cX11_one) 176 [some (.ref 48), none, none, some (.int l3), some (.int l4)] [] w (k176 w l3 l4)) (w : qW) (l3 : Int32) (l4 : Int32) : q_Ev E Γ 5 (q_Fi E Γ cX11_one) 176 [some (.ref 48), none, none, some (.int l3), some (.int l4)] [] w (f_X11_one_B176 r_X11_either r_X11_both r_X11_compared r_X11_sums r_X11_product r_X11_one k176 w l3 l4) := by
  unfold f_X11_one_B176
  refine e_iload G (pc := 176) dX11_one_176 rfl ?_
  refine e_iconst G (pc := 178) (v := 4) dX11_one_178 (by decide) ?_
  refine e_icmp_ge G (pc := 179) (tgt := 229) dX11_one_179 (by decide) ?_ ?_
  · exact t_X11_one_B229 G hr_X11_either hr_X11_both hr_X11_compared hr_X11_sums hr_X11_product hr_X11_one w l3 l4 
  · refine e_aload_n G (pc := 182) dX11_one_182 rfl rfl ?_
    refine e_cVi G (pc := 183) (As := []) (st := []) cv_X11_156 (c_X11_byteAt w  ) sh_48 (by omega) rfl (Nat.le_of_ble_eq_true rfl) dX11_one_183 (fun r1 w2 => ?_)
    refine e_bipush G (pc := 186) (v := 48) dX11_one_186 (by decide) ?_
    refine e_icmp_lt G (pc := 188) (tgt := 229) dX11_one_188 (by decide) ?_ ?_
    · exact t_X11_one_B229 G hr_X11_either hr_X11_both hr_X11_compared hr_X11_sums hr_X11_product hr_X11_one w2 l3 l4 
    · refine e_aload_n G (pc := 191) dX11_one_191 rfl rfl ?_
      refine e_cVi G (pc := 192) (As := []) (st := []) cv_X11_156 (c_X11_byteAt w2  ) sh_48 (by omega) rfl (Nat.le_of_ble_eq_true rfl) dX11_one_192 (fun r3 w4 => ?_)
      refine e_bipush G (pc := 195) (v := 57) dX11_one_195 (by decide) ?_
      refine e_icmp_gt G (pc := 197) (tgt := 229) dX11_one_197 (by decide) ?_ ?_
      · exact t_X11_one_B229 G hr_X11_either hr_X11_both hr_X11_compared hr_X11_sums hr_X11_product hr_X11_one w4 l3 l4 
      · refine e_bipush G (pc := 200) (v := 10) dX11_one_200 (by decide) ?_
        refine e_iload_n G (pc := 202) dX11_one_202 rfl rfl ?_
        refine e_imul G (pc := 203) dX11_one_203 ?_
        refine e_aload_n G (pc := 204) dX11_one_204 rfl rfl ?_
        refine e_cVi G (pc := 205) (As := []) (st := [.int ((10 : Int32) * l3)]) cv_X11_156 (c_X11_byteAt w4  ) sh_48 (by omega) rfl (Nat.le_of_ble_eq_true rfl) dX11_one_205 (fun r5 w6 => ?_)
        refine e_iadd G (pc := 208) dX11_one_208 ?_
        refine e_bipush G (pc := 209) (v := 48) dX11_one_209 (by decide) ?_
        refine e_isub G (pc := 211) dX11_one_211 ?_
        refine e_ti (fun v7 => ?_)
        refine e_istore_n G (pc := 212) (L' := [some (.ref 48), none, none, some (.int v7), some (.int l4)]) dX11_one_212 rfl (Nat.le_of_ble_eq_true rfl) rfl ?_
        refine e_iinc G (pc := 213) (x := l4) (v := l4 + 1) (L' := fun v8 => [some (.ref 48), none, none, some (.int v7), some (.int v8)]) dX11_one_213 (Nat.le_of_ble_eq_true rfl) rfl (by rfl) (fun _ => rfl) (fun v8 => ?_)
        refine e_aload_n G (pc := 216) dX11_one_216 rfl rfl ?_
        refine e_dup G (pc := 217) dX11_one_217 rfl ?_
        refine e_getI G (pc := 218) sh_48 rfl lk_X11_144 dX11_one_218 ?_
        refine e_iconst G (pc := 221) (v := 1) dX11_one_221 (by decide) ?_
        refine e_iadd G (pc := 222) dX11_one_222 ?_
        refine e_putI G (pc := 223) sh_48 rfl lp_X11_144 rfl rfl dX11_one_223 (fun w9 => ?_)
        refine e_goto G (pc := 226) (tgt := 176) dX11_one_226 (by decide) ?_
        exact hk176 w9 v7 v8 
set_option maxRecDepth 100000 in
set_option maxHeartbeats 4000000 in
theorem t_X11_one_R176 {n : Nat} {E : qE} {Γ : qC} {r_X11_either : qW → Option (Int32 × qW)} {r_X11_both : qW → Option (Int32 × qW)} {r_X11_compared : qW → Option (Int32 × qW)} {r_X11_sums : qW → Option (Int32 × qW)} {r_X11_product : qW → Option (Int32 × qW)} {r_X11_one : qW → Option (Int32 × qW)} (G : q_Ok E Γ RX11 cX11_one 5 (4 + n + 1)) (hr_X11_either : ∀ (w : qW), q_AC q_vi (some .int) (4 + n) yX11_either cX11_either 3 [.ref 48] w (r_X11_either w )) (hr_X11_both : ∀ (w : qW), q_AC q_vi (some .int) (4 + n) yX11_both cX11_both 3 [.ref 48] w (r_X11_both w )) (hr_X11_compared : ∀ (w : qW), q_AC q_vi (some .int) (4 + n) yX11_compared cX11_compared 4 [.ref 48] w (r_X11_compared w )) (hr_X11_sums : ∀ (w : qW), q_AC q_vi (some .int) (4 + n) yX11_sums cX11_sums 4 [.ref 48] w (r_X11_sums w )) (hr_X11_product : ∀ (w : qW), q_AC q_vi (some .int) (4 + n) yX11_product cX11_product 4 [.ref 48] w (r_X11_product w )) (hr_X11_one : ∀ (w : qW), q_AC q_vi (some .int) (4 + n) yX11_one cX11_one 5 [.ref 48] w (r_X11_one w )) : ∀ (fuel : Nat) (w : qW) (l3 : Int32) (l4 : Int32) , q_Ev E Γ 5 (q_Fi E Γ cX11_one) 176 [some (.ref 48), none, none, some (.int l3), some (.int l4)] [] w (f_X11_one_R176 r_X11_either r_X11_both r_X11_compared r_X11_sums r_X11_product r_X11_one fuel w l3 l4) := by
  intro fuel
  induction fuel with
  | zero => intros; exact e_none
  | succ fuel ih =>
    intro w l3 l4 
    exact t_X11_one_B176 G hr_X11_either hr_X11_both hr_X11_compared hr_X11_sums hr_X11_product hr_X11_one _ ih w l3 l4 
set_option maxRecDepth 100000 in
set_option maxHeartbeats 4000000 in
theorem t_X11_one {n : Nat} {E : qE} {Γ : qC} {r_X11_either : qW → Option (Int32 × qW)} {r_X11_both : qW → Option (Int32 × qW)} {r_X11_compared : qW → Option (Int32 × qW)} {r_X11_sums : qW → Option (Int32 × qW)} {r_X11_product : qW → Option (Int32 × qW)} {r_X11_one : qW → Option (Int32 × qW)} (G : q_Ok E Γ RX11 cX11_one 5 (4 + n + 1)) (hr_X11_either : ∀ (w : qW), q_AC q_vi (some .int) (4 + n) yX11_either cX11_either 3 [.ref 48] w (r_X11_either w )) (hr_X11_both : ∀ (w : qW), q_AC q_vi (some .int) (4 + n) yX11_both cX11_both 3 [.ref 48] w (r_X11_both w )) (hr_X11_compared : ∀ (w : qW), q_AC q_vi (some .int) (4 + n) yX11_compared cX11_compared 4 [.ref 48] w (r_X11_compared w )) (hr_X11_sums : ∀ (w : qW), q_AC q_vi (some .int) (4 + n) yX11_sums cX11_sums 4 [.ref 48] w (r_X11_sums w )) (hr_X11_product : ∀ (w : qW), q_AC q_vi (some .int) (4 + n) yX11_product cX11_product 4 [.ref 48] w (r_X11_product w )) (hr_X11_one : ∀ (w : qW), q_AC q_vi (some .int) (4 + n) yX11_one cX11_one 5 [.ref 48] w (r_X11_one w )) (w : qW) : q_Ev E Γ 5 (q_Fi E Γ cX11_one) 0 [some (.ref 48), none, none, none, none] [] w (b_X11_one r_X11_either r_X11_both r_X11_compared r_X11_sums r_X11_product r_X11_one w ) := by
  unfold b_X11_one
  refine e_aload_n G (pc := 0) dX11_one_0 rfl rfl ?_
  refine e_getI G (pc := 1) sh_48 rfl lk_X11_153 dX11_one_1 ?_
  refine e_if_lt G (pc := 4) (tgt := 9) dX11_one_4 (by decide) ?_ ?_
  · refine e_aload_n G (pc := 9) dX11_one_9 rfl rfl ?_
    refine e_cVi G (pc := 10) (As := []) (st := []) cv_X11_156 (c_X11_byteAt w  ) sh_48 (by omega) rfl (Nat.le_of_ble_eq_true rfl) dX11_one_10 (fun r1 w2 => ?_)
    refine e_istore_n G (pc := 13) (L' := [some (.ref 48), some (.int r1), none, none, none]) dX11_one_13 rfl (Nat.le_of_ble_eq_true rfl) rfl ?_
    refine e_iload_n G (pc := 14) dX11_one_14 rfl rfl ?_
    refine e_bipush G (pc := 15) (v := 33) dX11_one_15 (by decide) ?_
    refine e_icmp_eq G (pc := 17) (tgt := 32) dX11_one_17 (by decide) ?_ ?_
    · exact t_X11_one_B32 G hr_X11_either hr_X11_both hr_X11_compared hr_X11_sums hr_X11_product hr_X11_one w2 r1 
    · refine e_iload_n G (pc := 20) dX11_one_20 rfl rfl ?_
      refine e_bipush G (pc := 21) (v := 45) dX11_one_21 (by decide) ?_
      refine e_icmp_eq G (pc := 23) (tgt := 32) dX11_one_23 (by decide) ?_ ?_
      · exact t_X11_one_B32 G hr_X11_either hr_X11_both hr_X11_compared hr_X11_sums hr_X11_product hr_X11_one w2 r1 
      · refine e_iload_n G (pc := 26) dX11_one_26 rfl rfl ?_
        refine e_bipush G (pc := 27) (v := 40) dX11_one_27 (by decide) ?_
        refine e_icmp_ne G (pc := 29) (tgt := 145) dX11_one_29 (by decide) ?_ ?_
        · refine e_iload_n G (pc := 145) dX11_one_145 rfl rfl ?_
          refine e_cSi G (pc := 146) (ci := 0) (id := 0) (sl := []) (As := [.int r1]) (st := []) cs_X11_187 (c_X11_nameOf w2 r1 ) (by omega) rfl (Nat.le_of_ble_eq_true rfl) dX11_one_146 (fun r3 w4 => ?_)
          refine e_istore_n G (pc := 149) (L' := [some (.ref 48), some (.int r1), some (.int r3), none, none]) dX11_one_149 rfl (Nat.le_of_ble_eq_true rfl) rfl ?_
          refine e_iload_n G (pc := 150) dX11_one_150 rfl rfl ?_
          refine e_if_lt G (pc := 151) (tgt := 171) dX11_one_151 (by decide) ?_ ?_
          · refine e_iconst G (pc := 171) (v := 0) dX11_one_171 (by decide) ?_
            refine e_istore_n G (pc := 172) (L' := [some (.ref 48), some (.int r1), some (.int r3), some (.int 0), none]) dX11_one_172 rfl (Nat.le_of_ble_eq_true rfl) rfl ?_
            refine e_iconst G (pc := 173) (v := 0) dX11_one_173 (by decide) ?_
            refine e_istore G (pc := 174) (L' := [some (.ref 48), some (.int r1), some (.int r3), some (.int 0), some (.int 0)]) dX11_one_174 (Nat.le_of_ble_eq_true rfl) rfl ?_
            refine e_wk (L' := [some (.ref 48), none, none, some (.int 0), some (.int 0)]) (And.intro rfl (And.intro rfl (And.intro rfl (trivial)))) ?_
            exact t_X11_one_R176 G hr_X11_either hr_X11_both hr_X11_compared hr_X11_sums hr_X11_product hr_X11_one  q_fuel w4 0 0 
          · refine e_aload_n G (pc := 154) dX11_one_154 rfl rfl ?_
            refine e_dup G (pc := 155) dX11_one_155 rfl ?_
            refine e_getI G (pc := 156) sh_48 rfl lk_X11_144 dX11_one_156 ?_
            refine e_iconst G (pc := 159) (v := 1) dX11_one_159 (by decide) ?_
            refine e_iadd G (pc := 160) dX11_one_160 ?_
            refine e_putI G (pc := 161) sh_48 rfl lp_X11_144 rfl rfl dX11_one_161 (fun w5 => ?_)
            refine e_aload_n G (pc := 164) dX11_one_164 rfl rfl ?_
            refine e_getF G (pc := 165) sh_48 rfl lk_X11_28 dX11_one_165 ?_
            refine e_iload_n G (pc := 168) dX11_one_168 rfl rfl ?_
            refine e_iald G (pc := 169) sh_55 dX11_one_169 (fun v6 => ?_)
            exact e_iret dX11_one_170
        · exact t_X11_one_B32 G hr_X11_either hr_X11_both hr_X11_compared hr_X11_sums hr_X11_product hr_X11_one w2 r1 
  · refine e_iconst G (pc := 7) (v := 0) dX11_one_7 (by decide) ?_
    exact e_iret dX11_one_8
set_option maxRecDepth 100000 in
set_option maxHeartbeats 4000000 in
theorem g_X11_either : ∀ n : Nat, (∀ (w : qW), q_AC q_vi (some .int) (4 + n) yX11_either cX11_either 3 [.ref 48] w (((G_X11_either n).1) w )) ∧ (∀ (w : qW), q_AC q_vi (some .int) (4 + n) yX11_both cX11_both 3 [.ref 48] w (((G_X11_either n).2.1) w )) ∧ (∀ (w : qW), q_AC q_vi (some .int) (4 + n) yX11_compared cX11_compared 4 [.ref 48] w (((G_X11_either n).2.2.1) w )) ∧ (∀ (w : qW), q_AC q_vi (some .int) (4 + n) yX11_sums cX11_sums 4 [.ref 48] w (((G_X11_either n).2.2.2.1) w )) ∧ (∀ (w : qW), q_AC q_vi (some .int) (4 + n) yX11_product cX11_product 4 [.ref 48] w (((G_X11_either n).2.2.2.2.1) w )) ∧ (∀ (w : qW), q_AC q_vi (some .int) (4 + n) yX11_one cX11_one 5 [.ref 48] w (((G_X11_either n).2.2.2.2.2) w )) := by
  intro n
  induction n with
  | zero => exact ⟨(fun _ _ _ _ _ h => (by cases h)), (fun _ _ _ _ _ h => (by cases h)), (fun _ _ _ _ _ h => (by cases h)), (fun _ _ _ _ _ h => (by cases h)), (fun _ _ _ _ _ h => (by cases h)), (fun _ _ _ _ _ h => (by cases h))⟩
  | succ n ih =>
    refine ⟨?_, ?_, ?_, ?_, ?_, ?_⟩
    · exact fun w   => q_met_i (k := 2) (by decide +kernel) rfl rfl rfl (fun _ _ G => t_X11_either G (ih.1) (ih.2.1) (ih.2.2.1) (ih.2.2.2.1) (ih.2.2.2.2.1) (ih.2.2.2.2.2) w  )
    · exact fun w   => q_met_i (k := 2) (by decide +kernel) rfl rfl rfl (fun _ _ G => t_X11_both G (ih.1) (ih.2.1) (ih.2.2.1) (ih.2.2.2.1) (ih.2.2.2.2.1) (ih.2.2.2.2.2) w  )
    · exact fun w   => q_met_i (k := 3) (by decide +kernel) rfl rfl rfl (fun _ _ G => t_X11_compared G (ih.1) (ih.2.1) (ih.2.2.1) (ih.2.2.2.1) (ih.2.2.2.2.1) (ih.2.2.2.2.2) w  )
    · exact fun w   => q_met_i (k := 3) (by decide +kernel) rfl rfl rfl (fun _ _ G => t_X11_sums G (ih.1) (ih.2.1) (ih.2.2.1) (ih.2.2.2.1) (ih.2.2.2.2.1) (ih.2.2.2.2.2) w  )
    · exact fun w   => q_met_i (k := 3) (by decide +kernel) rfl rfl rfl (fun _ _ G => t_X11_product G (ih.1) (ih.2.1) (ih.2.2.1) (ih.2.2.2.1) (ih.2.2.2.2.1) (ih.2.2.2.2.2) w  )
    · exact fun w   => q_met_i (k := 4) (by decide +kernel) rfl rfl rfl (fun _ _ G => t_X11_one G (ih.1) (ih.2.1) (ih.2.2.1) (ih.2.2.2.1) (ih.2.2.2.2.1) (ih.2.2.2.2.2) w  )

set_option maxRecDepth 100000 in
set_option maxHeartbeats 4000000 in
theorem c_X11_either (w : qW) : q_AC q_vi (some .int) (104) yX11_either cX11_either 3 [.ref 48] w (f_X11_either w ) := (g_X11_either q_rfuel).1 w  
set_option maxRecDepth 100000 in
set_option maxHeartbeats 4000000 in
theorem c_X11_both (w : qW) : q_AC q_vi (some .int) (104) yX11_both cX11_both 3 [.ref 48] w (f_X11_both w ) := (g_X11_either q_rfuel).2.1 w  
set_option maxRecDepth 100000 in
set_option maxHeartbeats 4000000 in
theorem c_X11_compared (w : qW) : q_AC q_vi (some .int) (104) yX11_compared cX11_compared 4 [.ref 48] w (f_X11_compared w ) := (g_X11_either q_rfuel).2.2.1 w  
set_option maxRecDepth 100000 in
set_option maxHeartbeats 4000000 in
theorem c_X11_sums (w : qW) : q_AC q_vi (some .int) (104) yX11_sums cX11_sums 4 [.ref 48] w (f_X11_sums w ) := (g_X11_either q_rfuel).2.2.2.1 w  
set_option maxRecDepth 100000 in
set_option maxHeartbeats 4000000 in
theorem c_X11_product (w : qW) : q_AC q_vi (some .int) (104) yX11_product cX11_product 4 [.ref 48] w (f_X11_product w ) := (g_X11_either q_rfuel).2.2.2.2.1 w  
set_option maxRecDepth 100000 in
set_option maxHeartbeats 4000000 in
theorem c_X11_one (w : qW) : q_AC q_vi (some .int) (104) yX11_one cX11_one 5 [.ref 48] w (f_X11_one w ) := (g_X11_either q_rfuel).2.2.2.2.2 w  
set_option maxRecDepth 100000 in
set_option maxHeartbeats 4000000 in
theorem t_X11_workOut_B96 {E : qE} {Γ : qC} (G : q_Ok E Γ RX11 cX11_workOut 8 (105)) (k33 : qW → Int32 → Int32 → Int32 → Option (Int32 × qW)) (hk33 : ∀ (w : qW) (l3 : Int32) (l4 : Int32) (l5 : Int32), q_Ev E Γ 8 (q_Fi E Γ cX11_workOut) 33 [some (.ref 48), none, none, some (.int l3), some (.int l4), some (.int l5), none, none] [] w (k33 w l3 l4 l5)) (w : qW) (l3 : Int32) (l4 : Int32) : q_Ev E Γ 8 (q_Fi E Γ cX11_workOut) 96 [some (.ref 48), none, none, some (.int l3), some (.int l4), none, none, none] [] w (f_X11_workOut_B96 k33 w l3 l4) := by
  unfold f_X11_workOut_B96
  refine e_aload_n G (pc := 96) dX11_workOut_96 rfl rfl ?_
  refine e_bipush G (pc := 97) (v := 59) dX11_workOut_97 (by decide) ?_
  refine e_cVi G (pc := 99) (As := [.int 59]) (st := []) cv_X11_163 (c_X11_takes w 59 ) sh_48 (Nat.le_of_ble_eq_true rfl) rfl (Nat.le_of_ble_eq_true rfl) dX11_workOut_99 (fun r1 w2 => ?_)
  refine e_istore G (pc := 102) (L' := [some (.ref 48), none, none, some (.int l3), some (.int l4), some (.int r1), none, none]) dX11_workOut_102 (Nat.le_of_ble_eq_true rfl) rfl ?_
  refine e_goto G (pc := 104) (tgt := 33) dX11_workOut_104 (by decide) ?_
  exact hk33 w2 l3 l4 r1 
set_option maxRecDepth 100000 in
set_option maxHeartbeats 4000000 in
theorem t_X11_workOut_B74 {E : qE} {Γ : qC} (G : q_Ok E Γ RX11 cX11_workOut 8 (105)) (k33 : qW → Int32 → Int32 → Int32 → Option (Int32 × qW)) (hk33 : ∀ (w : qW) (l3 : Int32) (l4 : Int32) (l5 : Int32), q_Ev E Γ 8 (q_Fi E Γ cX11_workOut) 33 [some (.ref 48), none, none, some (.int l3), some (.int l4), some (.int l5), none, none] [] w (k33 w l3 l4 l5)) (w : qW) (l3 : Int32) (l4 : Int32) (l6 : Int32) (l7 : Int32) : q_Ev E Γ 8 (q_Fi E Γ cX11_workOut) 74 [some (.ref 48), none, none, some (.int l3), some (.int l4), none, some (.int l6), some (.int l7)] [] w (f_X11_workOut_B74 k33 w l3 l4 l6 l7) := by
  unfold f_X11_workOut_B74
  refine e_aload_n G (pc := 74) dX11_workOut_74 rfl rfl ?_
  refine e_getI G (pc := 75) sh_48 rfl lk_X11_153 dX11_workOut_75 ?_
  refine e_if_ge G (pc := 78) (tgt := 96) dX11_workOut_78 (by decide) ?_ ?_
  · refine e_wk (L' := [some (.ref 48), none, none, some (.int l3), some (.int l4), none, none, none]) (And.intro rfl (And.intro rfl (And.intro rfl (trivial)))) ?_
    exact t_X11_workOut_B96 G k33 hk33 w l3 l4 
  · refine e_iload G (pc := 81) dX11_workOut_81 rfl ?_
    refine e_if_eq G (pc := 83) (tgt := 96) dX11_workOut_83 (by decide) ?_ ?_
    · refine e_wk (L' := [some (.ref 48), none, none, some (.int l3), some (.int l4), none, none, none]) (And.intro rfl (And.intro rfl (And.intro rfl (trivial)))) ?_
      exact t_X11_workOut_B96 G k33 hk33 w l3 l4 
    · refine e_iload_n G (pc := 86) dX11_workOut_86 rfl rfl ?_
      refine e_if_ne G (pc := 87) (tgt := 96) dX11_workOut_87 (by decide) ?_ ?_
      · refine e_wk (L' := [some (.ref 48), none, none, some (.int l3), some (.int l4), none, none, none]) (And.intro rfl (And.intro rfl (And.intro rfl (trivial)))) ?_
        exact t_X11_workOut_B96 G k33 hk33 w l3 l4 
      · refine e_iconst G (pc := 90) (v := 1) dX11_workOut_90 (by decide) ?_
        refine e_istore_n G (pc := 91) (L' := [some (.ref 48), none, none, some (.int 1), some (.int l4), none, some (.int l6), some (.int l7)]) dX11_workOut_91 rfl (Nat.le_of_ble_eq_true rfl) rfl ?_
        refine e_iload G (pc := 92) dX11_workOut_92 rfl ?_
        refine e_istore G (pc := 94) (L' := [some (.ref 48), none, none, some (.int 1), some (.int l6), none, some (.int l6), some (.int l7)]) dX11_workOut_94 (Nat.le_of_ble_eq_true rfl) rfl ?_
        refine e_wk (L' := [some (.ref 48), none, none, some (.int 1), some (.int l6), none, none, none]) (And.intro rfl (And.intro rfl (And.intro rfl (trivial)))) ?_
        exact t_X11_workOut_B96 G k33 hk33 w 1 l6 
set_option maxRecDepth 100000 in
set_option maxHeartbeats 4000000 in
theorem t_X11_workOut_B66 {E : qE} {Γ : qC} (G : q_Ok E Γ RX11 cX11_workOut 8 (105)) (k33 : qW → Int32 → Int32 → Int32 → Option (Int32 × qW)) (hk33 : ∀ (w : qW) (l3 : Int32) (l4 : Int32) (l5 : Int32), q_Ev E Γ 8 (q_Fi E Γ cX11_workOut) 33 [some (.ref 48), none, none, some (.int l3), some (.int l4), some (.int l5), none, none] [] w (k33 w l3 l4 l5)) (w : qW) (l3 : Int32) (l4 : Int32) (s0 : Int32) : q_Ev E Γ 8 (q_Fi E Γ cX11_workOut) 66 [some (.ref 48), none, none, some (.int l3), some (.int l4), none, none, none] [.int s0] w (f_X11_workOut_B66 k33 w l3 l4 s0) := by
  unfold f_X11_workOut_B66
  refine e_istore G (pc := 66) (L' := [some (.ref 48), none, none, some (.int l3), some (.int l4), none, none, some (.int s0)]) dX11_workOut_66 (Nat.le_of_ble_eq_true rfl) rfl ?_
  refine e_aload_n G (pc := 68) dX11_workOut_68 rfl rfl ?_
  refine e_cVi G (pc := 69) (As := []) (st := []) cv_X11_184 (c_X11_either w  ) sh_48 (Nat.le_of_ble_eq_true rfl) rfl (Nat.le_of_ble_eq_true rfl) dX11_workOut_69 (fun r1 w2 => ?_)
  refine e_istore G (pc := 72) (L' := [some (.ref 48), none, none, some (.int l3), some (.int l4), none, some (.int r1), some (.int s0)]) dX11_workOut_72 (Nat.le_of_ble_eq_true rfl) rfl ?_
  exact t_X11_workOut_B74 G k33 hk33 w2 l3 l4 r1 s0 
set_option maxRecDepth 100000 in
set_option maxHeartbeats 4000000 in
theorem t_X11_workOut_B33 {E : qE} {Γ : qC} (G : q_Ok E Γ RX11 cX11_workOut 8 (105)) (k33 : qW → Int32 → Int32 → Int32 → Option (Int32 × qW)) (hk33 : ∀ (w : qW) (l3 : Int32) (l4 : Int32) (l5 : Int32), q_Ev E Γ 8 (q_Fi E Γ cX11_workOut) 33 [some (.ref 48), none, none, some (.int l3), some (.int l4), some (.int l5), none, none] [] w (k33 w l3 l4 l5)) (w : qW) (l3 : Int32) (l4 : Int32) (l5 : Int32) : q_Ev E Γ 8 (q_Fi E Γ cX11_workOut) 33 [some (.ref 48), none, none, some (.int l3), some (.int l4), some (.int l5), none, none] [] w (f_X11_workOut_B33 k33 w l3 l4 l5) := by
  unfold f_X11_workOut_B33
  refine e_iload G (pc := 33) dX11_workOut_33 rfl ?_
  refine e_if_eq G (pc := 35) (tgt := 107) dX11_workOut_35 (by decide) ?_ ?_
  · refine e_aload_n G (pc := 107) dX11_workOut_107 rfl rfl ?_
    refine e_getI G (pc := 108) sh_48 rfl lk_X11_153 dX11_workOut_108 ?_
    refine e_if_ge G (pc := 111) (tgt := 130) dX11_workOut_111 (by decide) ?_ ?_
    · refine e_iload G (pc := 130) dX11_workOut_130 rfl ?_
      exact e_iret dX11_workOut_132
    · refine e_aload_n G (pc := 114) dX11_workOut_114 rfl rfl ?_
      refine e_getI G (pc := 115) sh_48 rfl lk_X11_144 dX11_workOut_115 ?_
      refine e_aload_n G (pc := 118) dX11_workOut_118 rfl rfl ?_
      refine e_getI G (pc := 119) sh_48 rfl lk_X11_147 dX11_workOut_119 ?_
      refine e_icmp_ge G (pc := 122) (tgt := 130) dX11_workOut_122 (by decide) ?_ ?_
      · refine e_iload G (pc := 130) dX11_workOut_130 rfl ?_
        exact e_iret dX11_workOut_132
      · refine e_aload_n G (pc := 125) dX11_workOut_125 rfl rfl ?_
        refine e_cVi G (pc := 126) (As := []) (st := []) cv_X11_181 (c_X11_wrong w  ) sh_48 (Nat.le_of_ble_eq_true rfl) rfl (Nat.le_of_ble_eq_true rfl) dX11_workOut_126 (fun r1 w2 => ?_)
        exact e_iret dX11_workOut_129
  · refine e_aload_n G (pc := 38) dX11_workOut_38 rfl rfl ?_
    refine e_cVi G (pc := 39) (As := []) (st := []) cv_X11_184 (c_X11_either w  ) sh_48 (Nat.le_of_ble_eq_true rfl) rfl (Nat.le_of_ble_eq_true rfl) dX11_workOut_39 (fun r3 w4 => ?_)
    refine e_istore G (pc := 42) (L' := [some (.ref 48), none, none, some (.int l3), some (.int l4), some (.int l5), some (.int r3), none]) dX11_workOut_42 (Nat.le_of_ble_eq_true rfl) rfl ?_
    refine e_iconst G (pc := 44) (v := 1) dX11_workOut_44 (by decide) ?_
    refine e_istore G (pc := 45) (L' := [some (.ref 48), none, none, some (.int l3), some (.int l4), some (.int l5), some (.int r3), some (.int 1)]) dX11_workOut_45 (Nat.le_of_ble_eq_true rfl) rfl ?_
    refine e_aload_n G (pc := 47) dX11_workOut_47 rfl rfl ?_
    refine e_bipush G (pc := 48) (v := 63) dX11_workOut_48 (by decide) ?_
    refine e_cVi G (pc := 50) (As := [.int 63]) (st := []) cv_X11_163 (c_X11_takes w4 63 ) sh_48 (Nat.le_of_ble_eq_true rfl) rfl (Nat.le_of_ble_eq_true rfl) dX11_workOut_50 (fun r5 w6 => ?_)
    refine e_if_eq G (pc := 53) (tgt := 74) dX11_workOut_53 (by decide) ?_ ?_
    · refine e_wk (L' := [some (.ref 48), none, none, some (.int l3), some (.int l4), none, some (.int r3), some (.int 1)]) (And.intro rfl (And.intro rfl (And.intro rfl (And.intro rfl (And.intro rfl (trivial)))))) ?_
      exact t_X11_workOut_B74 G k33 hk33 w6 l3 l4 r3 1 
    · refine e_iload G (pc := 56) dX11_workOut_56 rfl ?_
      refine e_if_eq G (pc := 58) (tgt := 65) dX11_workOut_58 (by decide) ?_ ?_
      · refine e_iconst G (pc := 65) (v := 0) dX11_workOut_65 (by decide) ?_
        refine e_wk (L' := [some (.ref 48), none, none, some (.int l3), some (.int l4), none, none, none]) (And.intro rfl (And.intro rfl (And.intro rfl (trivial)))) ?_
        exact t_X11_workOut_B66 G k33 hk33 w6 l3 l4 0 
      · refine e_iconst G (pc := 61) (v := 1) dX11_workOut_61 (by decide) ?_
        refine e_goto G (pc := 62) (tgt := 66) dX11_workOut_62 (by decide) ?_
        refine e_wk (L' := [some (.ref 48), none, none, some (.int l3), some (.int l4), none, none, none]) (And.intro rfl (And.intro rfl (And.intro rfl (trivial)))) ?_
        exact t_X11_workOut_B66 G k33 hk33 w6 l3 l4 1 
set_option maxRecDepth 100000 in
set_option maxHeartbeats 4000000 in
theorem t_X11_workOut_R33 {E : qE} {Γ : qC} (G : q_Ok E Γ RX11 cX11_workOut 8 (105)) : ∀ (fuel : Nat) (w : qW) (l3 : Int32) (l4 : Int32) (l5 : Int32) , q_Ev E Γ 8 (q_Fi E Γ cX11_workOut) 33 [some (.ref 48), none, none, some (.int l3), some (.int l4), some (.int l5), none, none] [] w (f_X11_workOut_R33 fuel w l3 l4 l5) := by
  intro fuel
  induction fuel with
  | zero => intros; exact e_none
  | succ fuel ih =>
    intro w l3 l4 l5 
    exact t_X11_workOut_B33 G _ ih w l3 l4 l5 
set_option maxRecDepth 100000 in
set_option maxHeartbeats 4000000 in
theorem t_X11_workOut {E : qE} {Γ : qC} (G : q_Ok E Γ RX11 cX11_workOut 8 (105)) (w : qW) (a1 : Int32) (a2 : Int32) : q_Ev E Γ 8 (q_Fi E Γ cX11_workOut) 0 [some (.ref 48), some (.int a1), some (.int a2), none, none, none, none, none] [] w (f_X11_workOut w a1 a2) := by
  unfold f_X11_workOut
  refine e_aload_n G (pc := 0) dX11_workOut_0 rfl rfl ?_
  refine e_iload_n G (pc := 1) dX11_workOut_1 rfl rfl ?_
  refine e_putI G (pc := 2) sh_48 rfl lp_X11_150 rfl rfl dX11_workOut_2 (fun w1 => ?_)
  refine e_aload_n G (pc := 5) dX11_workOut_5 rfl rfl ?_
  refine e_iconst G (pc := 6) (v := 0) dX11_workOut_6 (by decide) ?_
  refine e_putI G (pc := 7) sh_48 rfl lp_X11_144 rfl rfl dX11_workOut_7 (fun w2 => ?_)
  refine e_aload_n G (pc := 10) dX11_workOut_10 rfl rfl ?_
  refine e_iload_n G (pc := 11) dX11_workOut_11 rfl rfl ?_
  refine e_putI G (pc := 12) sh_48 rfl lp_X11_147 rfl rfl dX11_workOut_12 (fun w3 => ?_)
  refine e_aload_n G (pc := 15) dX11_workOut_15 rfl rfl ?_
  refine e_iconst G (pc := 16) (v := (-1)) dX11_workOut_16 (by decide) ?_
  refine e_putI G (pc := 17) sh_48 rfl lp_X11_153 rfl rfl dX11_workOut_17 (fun w4 => ?_)
  refine e_aload_n G (pc := 20) dX11_workOut_20 rfl rfl ?_
  refine e_iconst G (pc := 21) (v := 0) dX11_workOut_21 (by decide) ?_
  refine e_putI G (pc := 22) sh_48 rfl lp_X11_178 rfl rfl dX11_workOut_22 (fun w5 => ?_)
  refine e_iconst G (pc := 25) (v := 0) dX11_workOut_25 (by decide) ?_
  refine e_istore_n G (pc := 26) (L' := [some (.ref 48), some (.int a1), some (.int a2), some (.int 0), none, none, none, none]) dX11_workOut_26 rfl (Nat.le_of_ble_eq_true rfl) rfl ?_
  refine e_iconst G (pc := 27) (v := 0) dX11_workOut_27 (by decide) ?_
  refine e_istore G (pc := 28) (L' := [some (.ref 48), some (.int a1), some (.int a2), some (.int 0), some (.int 0), none, none, none]) dX11_workOut_28 (Nat.le_of_ble_eq_true rfl) rfl ?_
  refine e_iconst G (pc := 30) (v := 1) dX11_workOut_30 (by decide) ?_
  refine e_istore G (pc := 31) (L' := [some (.ref 48), some (.int a1), some (.int a2), some (.int 0), some (.int 0), some (.int 1), none, none]) dX11_workOut_31 (Nat.le_of_ble_eq_true rfl) rfl ?_
  refine e_wk (L' := [some (.ref 48), none, none, some (.int 0), some (.int 0), some (.int 1), none, none]) (And.intro rfl (And.intro rfl (And.intro rfl (And.intro rfl (trivial))))) ?_
  exact t_X11_workOut_R33 G  q_fuel w5 0 0 1 
set_option maxRecDepth 100000 in
set_option maxHeartbeats 4000000 in
theorem c_X11_workOut (w : qW) (a1 : Int32) (a2 : Int32) : q_AC q_vi (some .int) (105) yX11_workOut cX11_workOut 8 [.ref 48, .int a1, .int a2] w (f_X11_workOut w a1 a2) := q_met_i (k := 5) (by decide +kernel) rfl rfl rfl (fun _ _ G => t_X11_workOut G w a1 a2 )
set_option maxRecDepth 100000 in
set_option maxHeartbeats 4000000 in
theorem t_X11_law_B37 {E : qE} {Γ : qC} (G : q_Ok E Γ RX11 cX11_law 4 (106)) (k37 : qW → Int32 → Int32 → Option (Int32 × qW)) (hk37 : ∀ (w : qW) (l2 : Int32) (l3 : Int32), q_Ev E Γ 4 (q_Fi E Γ cX11_law) 37 [some (.ref 48), none, some (.int l2), some (.int l3)] [] w (k37 w l2 l3)) (w : qW) (l2 : Int32) (l3 : Int32) : q_Ev E Γ 4 (q_Fi E Γ cX11_law) 37 [some (.ref 48), none, some (.int l2), some (.int l3)] [] w (f_X11_law_B37 k37 w l2 l3) := by
  unfold f_X11_law_B37
  refine e_iload_n G (pc := 37) dX11_law_37 rfl rfl ?_
  refine e_iload_n G (pc := 38) dX11_law_38 rfl rfl ?_
  refine e_icmp_ge G (pc := 39) (tgt := 60) dX11_law_39 (by decide) ?_ ?_
  · refine e_aload_n G (pc := 60) dX11_law_60 rfl rfl ?_
    refine e_iload_n G (pc := 61) dX11_law_61 rfl rfl ?_
    refine e_putI G (pc := 62) sh_48 rfl lp_X11_65 rfl rfl dX11_law_62 (fun w1 => ?_)
    refine e_iconst G (pc := 65) (v := 1) dX11_law_65 (by decide) ?_
    exact e_iret dX11_law_66
  · refine e_aload_n G (pc := 42) dX11_law_42 rfl rfl ?_
    refine e_getF G (pc := 43) sh_48 rfl lk_X11_25 dX11_law_43 ?_
    refine e_iload_n G (pc := 46) dX11_law_46 rfl rfl ?_
    refine e_aload_n G (pc := 47) dX11_law_47 rfl rfl ?_
    refine e_getF G (pc := 48) sh_48 rfl lk_X11_22 dX11_law_48 ?_
    refine e_iload_n G (pc := 51) dX11_law_51 rfl rfl ?_
    refine e_iald G (pc := 52) sh_53 dX11_law_52 (fun v2 => ?_)
    refine e_iast G (pc := 53) sh_54 dX11_law_53 (fun w3 => ?_)
    refine e_iinc G (pc := 54) (x := l3) (v := l3 + 1) (L' := fun v4 => [some (.ref 48), none, some (.int l2), some (.int v4)]) dX11_law_54 (Nat.le_of_ble_eq_true rfl) rfl (by rfl) (fun _ => rfl) (fun v4 => ?_)
    refine e_goto G (pc := 57) (tgt := 37) dX11_law_57 (by decide) ?_
    exact hk37 w3 l2 v4 
set_option maxRecDepth 100000 in
set_option maxHeartbeats 4000000 in
theorem t_X11_law_R37 {E : qE} {Γ : qC} (G : q_Ok E Γ RX11 cX11_law 4 (106)) : ∀ (fuel : Nat) (w : qW) (l2 : Int32) (l3 : Int32) , q_Ev E Γ 4 (q_Fi E Γ cX11_law) 37 [some (.ref 48), none, some (.int l2), some (.int l3)] [] w (f_X11_law_R37 fuel w l2 l3) := by
  intro fuel
  induction fuel with
  | zero => intros; exact e_none
  | succ fuel ih =>
    intro w l2 l3 
    exact t_X11_law_B37 G _ ih w l2 l3 
set_option maxRecDepth 100000 in
set_option maxHeartbeats 4000000 in
theorem t_X11_law {E : qE} {Γ : qC} (G : q_Ok E Γ RX11 cX11_law 4 (106)) (w : qW) : q_Ev E Γ 4 (q_Fi E Γ cX11_law) 0 [some (.ref 48), none, none, none] [] w (f_X11_law w ) := by
  unfold f_X11_law
  refine e_aload_n G (pc := 0) dX11_law_0 rfl rfl ?_
  refine e_iconst G (pc := 1) (v := (-1)) dX11_law_1 (by decide) ?_
  refine e_aload_n G (pc := 2) dX11_law_2 rfl rfl ?_
  refine e_getI G (pc := 3) sh_48 rfl lk_X11_141 dX11_law_3 ?_
  refine e_cVi G (pc := 6) (As := [.int (-1), .int (q_I w 48 9)]) (st := []) cv_X11_191 (c_X11_workOut w (-1) (q_I w 48 9) ) sh_48 (Nat.le_of_ble_eq_true rfl) rfl (Nat.le_of_ble_eq_true rfl) dX11_law_6 (fun r1 w2 => ?_)
  refine e_istore_n G (pc := 9) (L' := [some (.ref 48), some (.int r1), none, none]) dX11_law_9 rfl (Nat.le_of_ble_eq_true rfl) rfl ?_
  refine e_aload_n G (pc := 10) dX11_law_10 rfl rfl ?_
  refine e_getI G (pc := 11) sh_48 rfl lk_X11_141 dX11_law_11 ?_
  refine e_ti (fun v3 => ?_)
  refine e_istore_n G (pc := 14) (L' := [some (.ref 48), some (.int r1), some (.int v3), none]) dX11_law_14 rfl (Nat.le_of_ble_eq_true rfl) rfl ?_
  refine e_aload_n G (pc := 15) dX11_law_15 rfl rfl ?_
  refine e_iconst G (pc := 16) (v := 0) dX11_law_16 (by decide) ?_
  refine e_putI G (pc := 17) sh_48 rfl lp_X11_141 rfl rfl dX11_law_17 (fun w4 => ?_)
  refine e_aload_n G (pc := 20) dX11_law_20 rfl rfl ?_
  refine e_getI G (pc := 21) sh_48 rfl lk_X11_153 dX11_law_21 ?_
  refine e_if_lt G (pc := 24) (tgt := 35) dX11_law_24 (by decide) ?_ ?_
  · refine e_iconst G (pc := 35) (v := 0) dX11_law_35 (by decide) ?_
    refine e_istore_n G (pc := 36) (L' := [some (.ref 48), some (.int r1), some (.int v3), some (.int 0)]) dX11_law_36 rfl (Nat.le_of_ble_eq_true rfl) rfl ?_
    refine e_wk (L' := [some (.ref 48), none, some (.int v3), some (.int 0)]) (And.intro rfl (And.intro rfl (And.intro rfl (trivial)))) ?_
    exact t_X11_law_R37 G  q_fuel w4 v3 0 
  · refine e_bipush G (pc := 27) (v := (-100)) dX11_law_27 (by decide) ?_
    refine e_aload_n G (pc := 29) dX11_law_29 rfl rfl ?_
    refine e_getI G (pc := 30) sh_48 rfl lk_X11_153 dX11_law_30 ?_
    refine e_isub G (pc := 33) dX11_law_33 ?_
    exact e_iret dX11_law_34
set_option maxRecDepth 100000 in
set_option maxHeartbeats 4000000 in
theorem c_X11_law (w : qW) : q_AC q_vi (some .int) (106) yX11_law cX11_law 4 [.ref 48] w (f_X11_law w ) := q_met_i (k := 3) (by decide +kernel) rfl rfl rfl (fun _ _ G => t_X11_law G w  )
set_option maxRecDepth 100000 in
set_option maxHeartbeats 4000000 in
theorem t_X11_longAt {E : qE} {Γ : qC} (G : q_Ok E Γ RX11 cX11_longAt 1 (2)) (w : qW) (a1 : Int32) : q_Ev E Γ 1 (q_Fi E Γ cX11_longAt) 0 [some (.int a1)] [] w (f_X11_longAt w a1) := by
  unfold f_X11_longAt
  refine e_iload_n G (pc := 0) dX11_longAt_0 rfl rfl ?_
  refine e_iconst G (pc := 1) (v := 4) dX11_longAt_1 (by decide) ?_
  refine e_icmp_ge G (pc := 2) (tgt := 11) dX11_longAt_2 (by decide) ?_ ?_
  · refine e_iload_n G (pc := 11) dX11_longAt_11 rfl rfl ?_
    refine e_bipush G (pc := 12) (v := 8) dX11_longAt_12 (by decide) ?_
    refine e_icmp_ge G (pc := 14) (tgt := 27) dX11_longAt_14 (by decide) ?_ ?_
    · refine e_iload_n G (pc := 27) dX11_longAt_27 rfl rfl ?_
      refine e_bipush G (pc := 28) (v := 7) dX11_longAt_28 (by decide) ?_
      refine e_isub G (pc := 30) dX11_longAt_30 ?_
      exact e_iret dX11_longAt_31
    · refine e_iconst G (pc := 17) (v := 1) dX11_longAt_17 (by decide) ?_
      refine e_iload_n G (pc := 18) dX11_longAt_18 rfl rfl ?_
      refine e_iconst G (pc := 19) (v := 4) dX11_longAt_19 (by decide) ?_
      refine e_isub G (pc := 20) dX11_longAt_20 ?_
      refine e_iconst G (pc := 21) (v := 2) dX11_longAt_21 (by decide) ?_
      refine e_idiv G (pc := 22) dX11_longAt_22 (by decide) ?_
      refine e_iadd G (pc := 23) dX11_longAt_23 ?_
      refine e_goto G (pc := 24) (tgt := 31) dX11_longAt_24 (by decide) ?_
      exact e_iret dX11_longAt_31
  · refine e_iconst G (pc := 5) (v := 4) dX11_longAt_5 (by decide) ?_
    refine e_iload_n G (pc := 6) dX11_longAt_6 rfl rfl ?_
    refine e_isub G (pc := 7) dX11_longAt_7 ?_
    refine e_goto G (pc := 8) (tgt := 31) dX11_longAt_8 (by decide) ?_
    exact e_iret dX11_longAt_31
set_option maxRecDepth 100000 in
set_option maxHeartbeats 4000000 in
theorem c_X11_longAt (w : qW) (a1 : Int32) : q_AC q_vi (some .int) (2) yX11_longAt cX11_longAt 1 [.int a1] w (f_X11_longAt w a1) := q_met_i (k := 0) (by decide +kernel) rfl rfl rfl (fun _ _ G => t_X11_longAt G w a1 )
set_option maxRecDepth 100000 in
set_option maxHeartbeats 4000000 in
theorem t_X11_shadeBy_B250 {E : qE} {Γ : qC} (G : q_Ok E Γ RX11 cX11_shadeBy 9 (106)) (w : qW) (l8 : Int32) : q_Ev E Γ 9 (q_Fi E Γ cX11_shadeBy) 250 [none, none, none, none, none, none, none, none, some (.int l8)] [] w (f_X11_shadeBy_B250 w l8) := by
  unfold f_X11_shadeBy_B250
  refine e_iload G (pc := 250) dX11_shadeBy_250 rfl ?_
  refine e_if_ge G (pc := 252) (tgt := 259) dX11_shadeBy_252 (by decide) ?_ ?_
  · refine e_iload G (pc := 259) dX11_shadeBy_259 rfl ?_
    refine e_bipush G (pc := 261) (v := 12) dX11_shadeBy_261 (by decide) ?_
    refine e_icmp_le G (pc := 263) (tgt := 271) dX11_shadeBy_263 (by decide) ?_ ?_
    · refine e_iload G (pc := 271) dX11_shadeBy_271 rfl ?_
      exact e_iret dX11_shadeBy_273
    · refine e_bipush G (pc := 266) (v := 12) dX11_shadeBy_266 (by decide) ?_
      refine e_goto G (pc := 268) (tgt := 273) dX11_shadeBy_268 (by decide) ?_
      exact e_iret dX11_shadeBy_273
  · refine e_iconst G (pc := 255) (v := 0) dX11_shadeBy_255 (by decide) ?_
    refine e_goto G (pc := 256) (tgt := 273) dX11_shadeBy_256 (by decide) ?_
    exact e_iret dX11_shadeBy_273
set_option maxRecDepth 100000 in
set_option maxHeartbeats 4000000 in
theorem t_X11_shadeBy_B124 {E : qE} {Γ : qC} (G : q_Ok E Γ RX11 cX11_shadeBy 9 (106)) (w : qW) (l1 : Int32) (l3 : Int32) (l6 : Int32) (l7 : Int32) (s0 : Int32) (s1 : Int32) (s2 : Int32) : q_Ev E Γ 9 (q_Fi E Γ cX11_shadeBy) 124 [some (.ref 48), some (.int l1), none, some (.int l3), none, none, some (.int l6), some (.int l7), none] [.int s0, .int s1, .int s2] w (f_X11_shadeBy_B124 w l1 l3 l6 l7 s0 s1 s2) := by
  unfold f_X11_shadeBy_B124
  refine e_iadd G (pc := 124) dX11_shadeBy_124 ?_
  refine e_icmp_gt G (pc := 125) (tgt := 142) dX11_shadeBy_125 (by decide) ?_ ?_
  · refine e_iconst G (pc := 142) (v := 0) dX11_shadeBy_142 (by decide) ?_
    exact e_iret dX11_shadeBy_143
  · refine e_iload G (pc := 128) dX11_shadeBy_128 rfl ?_
    refine e_aload_n G (pc := 130) dX11_shadeBy_130 rfl rfl ?_
    refine e_getF G (pc := 131) sh_48 rfl lk_X11_9 dX11_shadeBy_131 ?_
    refine e_bipush G (pc := 134) (v := 16) dX11_shadeBy_134 (by decide) ?_
    refine e_iload_n G (pc := 136) dX11_shadeBy_136 rfl rfl ?_
    refine e_iadd G (pc := 137) dX11_shadeBy_137 ?_
    refine e_iald G (pc := 138) sh_49 dX11_shadeBy_138 (fun v1 => ?_)
    refine e_icmp_le G (pc := 139) (tgt := 144) dX11_shadeBy_139 (by decide) ?_ ?_
    · refine e_bipush G (pc := 144) (v := 6) dX11_shadeBy_144 (by decide) ?_
      refine e_iconst G (pc := 146) (v := 2) dX11_shadeBy_146 (by decide) ?_
      refine e_aload_n G (pc := 147) dX11_shadeBy_147 rfl rfl ?_
      refine e_getF G (pc := 148) sh_48 rfl lk_X11_9 dX11_shadeBy_148 ?_
      refine e_bipush G (pc := 151) (v := 8) dX11_shadeBy_151 (by decide) ?_
      refine e_iload_n G (pc := 153) dX11_shadeBy_153 rfl rfl ?_
      refine e_iadd G (pc := 154) dX11_shadeBy_154 ?_
      refine e_iald G (pc := 155) sh_49 dX11_shadeBy_155 (fun v2 => ?_)
      refine e_imul G (pc := 156) dX11_shadeBy_156 ?_
      refine e_iadd G (pc := 157) dX11_shadeBy_157 ?_
      refine e_iload G (pc := 158) dX11_shadeBy_158 rfl ?_
      refine e_isub G (pc := 160) dX11_shadeBy_160 ?_
      refine e_iload G (pc := 161) dX11_shadeBy_161 rfl ?_
      refine e_isub G (pc := 163) dX11_shadeBy_163 ?_
      refine e_aload_n G (pc := 164) dX11_shadeBy_164 rfl rfl ?_
      refine e_getF G (pc := 165) sh_48 rfl lk_X11_9 dX11_shadeBy_165 ?_
      refine e_bipush G (pc := 168) (v := 56) dX11_shadeBy_168 (by decide) ?_
      refine e_iald G (pc := 170) sh_49 dX11_shadeBy_170 (fun v3 => ?_)
      refine e_isub G (pc := 171) dX11_shadeBy_171 ?_
      refine e_ti (fun v4 => ?_)
      refine e_istore G (pc := 172) (L' := [some (.ref 48), some (.int l1), none, some (.int l3), none, none, some (.int l6), some (.int l7), some (.int v4)]) dX11_shadeBy_172 (Nat.le_of_ble_eq_true rfl) rfl ?_
      refine e_aload_n G (pc := 174) dX11_shadeBy_174 rfl rfl ?_
      refine e_getI G (pc := 175) sh_48 rfl lk_X11_65 dX11_shadeBy_175 ?_
      refine e_if_lt G (pc := 178) (tgt := 250) dX11_shadeBy_178 (by decide) ?_ ?_
      · refine e_wk (L' := [none, none, none, none, none, none, none, none, some (.int v4)]) (And.intro rfl (trivial)) ?_
        exact t_X11_shadeBy_B250 G w v4 
      · refine e_aload_n G (pc := 181) dX11_shadeBy_181 rfl rfl ?_
        refine e_getF G (pc := 182) sh_48 rfl lk_X11_28 dX11_shadeBy_182 ?_
        refine e_iconst G (pc := 185) (v := 0) dX11_shadeBy_185 (by decide) ?_
        refine e_aload_n G (pc := 186) dX11_shadeBy_186 rfl rfl ?_
        refine e_getF G (pc := 187) sh_48 rfl lk_X11_9 dX11_shadeBy_187 ?_
        refine e_bipush G (pc := 190) (v := 8) dX11_shadeBy_190 (by decide) ?_
        refine e_iload_n G (pc := 192) dX11_shadeBy_192 rfl rfl ?_
        refine e_iadd G (pc := 193) dX11_shadeBy_193 ?_
        refine e_iald G (pc := 194) sh_49 dX11_shadeBy_194 (fun v5 => ?_)
        refine e_iast G (pc := 195) sh_55 dX11_shadeBy_195 (fun w6 => ?_)
        refine e_aload_n G (pc := 196) dX11_shadeBy_196 rfl rfl ?_
        refine e_getF G (pc := 197) sh_48 rfl lk_X11_28 dX11_shadeBy_197 ?_
        refine e_iconst G (pc := 200) (v := 1) dX11_shadeBy_200 (by decide) ?_
        refine e_iload G (pc := 201) dX11_shadeBy_201 rfl ?_
        refine e_iast G (pc := 203) sh_55 dX11_shadeBy_203 (fun w7 => ?_)
        refine e_aload_n G (pc := 204) dX11_shadeBy_204 rfl rfl ?_
        refine e_getF G (pc := 205) sh_48 rfl lk_X11_28 dX11_shadeBy_205 ?_
        refine e_iconst G (pc := 208) (v := 2) dX11_shadeBy_208 (by decide) ?_
        refine e_iload G (pc := 209) dX11_shadeBy_209 rfl ?_
        refine e_iast G (pc := 211) sh_55 dX11_shadeBy_211 (fun w8 => ?_)
        refine e_aload_n G (pc := 212) dX11_shadeBy_212 rfl rfl ?_
        refine e_getF G (pc := 213) sh_48 rfl lk_X11_28 dX11_shadeBy_213 ?_
        refine e_iconst G (pc := 216) (v := 3) dX11_shadeBy_216 (by decide) ?_
        refine e_aload_n G (pc := 217) dX11_shadeBy_217 rfl rfl ?_
        refine e_getF G (pc := 218) sh_48 rfl lk_X11_9 dX11_shadeBy_218 ?_
        refine e_bipush G (pc := 221) (v := 56) dX11_shadeBy_221 (by decide) ?_
        refine e_iald G (pc := 223) sh_49 dX11_shadeBy_223 (fun v9 => ?_)
        refine e_iast G (pc := 224) sh_55 dX11_shadeBy_224 (fun w10 => ?_)
        refine e_aload_n G (pc := 225) dX11_shadeBy_225 rfl rfl ?_
        refine e_getF G (pc := 226) sh_48 rfl lk_X11_28 dX11_shadeBy_226 ?_
        refine e_iconst G (pc := 229) (v := 4) dX11_shadeBy_229 (by decide) ?_
        refine e_iload_n G (pc := 230) dX11_shadeBy_230 rfl rfl ?_
        refine e_iast G (pc := 231) sh_55 dX11_shadeBy_231 (fun w11 => ?_)
        refine e_aload_n G (pc := 232) dX11_shadeBy_232 rfl rfl ?_
        refine e_getF G (pc := 233) sh_48 rfl lk_X11_28 dX11_shadeBy_233 ?_
        refine e_iconst G (pc := 236) (v := 5) dX11_shadeBy_236 (by decide) ?_
        refine e_iload_n G (pc := 237) dX11_shadeBy_237 rfl rfl ?_
        refine e_iast G (pc := 238) sh_55 dX11_shadeBy_238 (fun w12 => ?_)
        refine e_aload_n G (pc := 239) dX11_shadeBy_239 rfl rfl ?_
        refine e_iconst G (pc := 240) (v := 0) dX11_shadeBy_240 (by decide) ?_
        refine e_aload_n G (pc := 241) dX11_shadeBy_241 rfl rfl ?_
        refine e_getI G (pc := 242) sh_48 rfl lk_X11_65 dX11_shadeBy_242 ?_
        refine e_cVi G (pc := 245) (As := [.int 0, .int (q_I w12 48 11)]) (st := []) cv_X11_191 (c_X11_workOut w12 0 (q_I w12 48 11) ) sh_48 (Nat.le_of_ble_eq_true rfl) rfl (Nat.le_of_ble_eq_true rfl) dX11_shadeBy_245 (fun r13 w14 => ?_)
        refine e_istore G (pc := 248) (L' := [some (.ref 48), some (.int l1), none, some (.int l3), none, none, some (.int l6), some (.int l7), some (.int r13)]) dX11_shadeBy_248 (Nat.le_of_ble_eq_true rfl) rfl ?_
        refine e_wk (L' := [none, none, none, none, none, none, none, none, some (.int r13)]) (And.intro rfl (trivial)) ?_
        exact t_X11_shadeBy_B250 G w14 r13 
    · refine e_iconst G (pc := 142) (v := 0) dX11_shadeBy_142 (by decide) ?_
      exact e_iret dX11_shadeBy_143
set_option maxRecDepth 100000 in
set_option maxHeartbeats 4000000 in
theorem t_X11_shadeBy_B92 {E : qE} {Γ : qC} (G : q_Ok E Γ RX11 cX11_shadeBy 9 (106)) (w : qW) (l1 : Int32) (l3 : Int32) (l6 : Int32) (s0 : Int32) : q_Ev E Γ 9 (q_Fi E Γ cX11_shadeBy) 92 [some (.ref 48), some (.int l1), none, some (.int l3), none, none, some (.int l6), none, none] [.int s0] w (f_X11_shadeBy_B92 w l1 l3 l6 s0) := by
  unfold f_X11_shadeBy_B92
  refine e_istore G (pc := 92) (L' := [some (.ref 48), some (.int l1), none, some (.int l3), none, none, some (.int l6), some (.int s0), none]) dX11_shadeBy_92 (Nat.le_of_ble_eq_true rfl) rfl ?_
  refine e_iload G (pc := 94) dX11_shadeBy_94 rfl ?_
  refine e_iconst G (pc := 96) (v := 1) dX11_shadeBy_96 (by decide) ?_
  refine e_icmp_lt G (pc := 97) (tgt := 142) dX11_shadeBy_97 (by decide) ?_ ?_
  · refine e_iconst G (pc := 142) (v := 0) dX11_shadeBy_142 (by decide) ?_
    exact e_iret dX11_shadeBy_143
  · refine e_iload G (pc := 100) dX11_shadeBy_100 rfl ?_
    refine e_iload_n G (pc := 102) dX11_shadeBy_102 rfl rfl ?_
    refine e_cSi G (pc := 103) (ci := 0) (id := 0) (sl := []) (As := [.int l3]) (st := [.int l6]) cs_X11_194 (c_X11_longAt w l3 ) (Nat.le_of_ble_eq_true rfl) rfl (Nat.le_of_ble_eq_true rfl) dX11_shadeBy_103 (fun r1 w2 => ?_)
    refine e_aload_n G (pc := 106) dX11_shadeBy_106 rfl rfl ?_
    refine e_getF G (pc := 107) sh_48 rfl lk_X11_9 dX11_shadeBy_107 ?_
    refine e_bipush G (pc := 110) (v := 8) dX11_shadeBy_110 (by decide) ?_
    refine e_iload_n G (pc := 112) dX11_shadeBy_112 rfl rfl ?_
    refine e_iadd G (pc := 113) dX11_shadeBy_113 ?_
    refine e_iald G (pc := 114) sh_49 dX11_shadeBy_114 (fun v3 => ?_)
    refine e_iconst G (pc := 115) (v := 2) dX11_shadeBy_115 (by decide) ?_
    refine e_icmp_ne G (pc := 116) (tgt := 123) dX11_shadeBy_116 (by decide) ?_ ?_
    · refine e_iconst G (pc := 123) (v := 0) dX11_shadeBy_123 (by decide) ?_
      exact t_X11_shadeBy_B124 G w2 l1 l3 l6 s0 0 r1 l6 
    · refine e_iconst G (pc := 119) (v := 1) dX11_shadeBy_119 (by decide) ?_
      refine e_goto G (pc := 120) (tgt := 124) dX11_shadeBy_120 (by decide) ?_
      exact t_X11_shadeBy_B124 G w2 l1 l3 l6 s0 1 r1 l6 
set_option maxRecDepth 100000 in
set_option maxHeartbeats 4000000 in
theorem t_X11_shadeBy_B77 {E : qE} {Γ : qC} (G : q_Ok E Γ RX11 cX11_shadeBy 9 (106)) (w : qW) (l1 : Int32) (l3 : Int32) (l6 : Int32) (s0 : Int32) : q_Ev E Γ 9 (q_Fi E Γ cX11_shadeBy) 77 [some (.ref 48), some (.int l1), none, some (.int l3), none, none, some (.int l6), none, none] [.int s0] w (f_X11_shadeBy_B77 w l1 l3 l6 s0) := by
  unfold f_X11_shadeBy_B77
  refine e_istore G (pc := 77) (L' := [some (.ref 48), some (.int l1), none, some (.int l3), none, none, some (.int l6), some (.int s0), none]) dX11_shadeBy_77 (Nat.le_of_ble_eq_true rfl) rfl ?_
  refine e_iload G (pc := 79) dX11_shadeBy_79 rfl ?_
  refine e_if_ge G (pc := 81) (tgt := 90) dX11_shadeBy_81 (by decide) ?_ ?_
  · refine e_iload G (pc := 90) dX11_shadeBy_90 rfl ?_
    refine e_wk (L' := [some (.ref 48), some (.int l1), none, some (.int l3), none, none, some (.int l6), none, none]) (And.intro rfl (And.intro rfl (And.intro rfl (And.intro rfl (trivial))))) ?_
    exact t_X11_shadeBy_B92 G w l1 l3 l6 s0 
  · refine e_iload G (pc := 84) dX11_shadeBy_84 rfl ?_
    refine e_ineg G (pc := 86) dX11_shadeBy_86 ?_
    refine e_goto G (pc := 87) (tgt := 92) dX11_shadeBy_87 (by decide) ?_
    refine e_wk (L' := [some (.ref 48), some (.int l1), none, some (.int l3), none, none, some (.int l6), none, none]) (And.intro rfl (And.intro rfl (And.intro rfl (And.intro rfl (trivial))))) ?_
    exact t_X11_shadeBy_B92 G w l1 l3 l6 (-s0) 
set_option maxRecDepth 100000 in
set_option maxHeartbeats 4000000 in
theorem t_X11_shadeBy_B75 {E : qE} {Γ : qC} (G : q_Ok E Γ RX11 cX11_shadeBy 9 (106)) (w : qW) (l1 : Int32) (l3 : Int32) (l5 : Int32) (l6 : Int32) : q_Ev E Γ 9 (q_Fi E Γ cX11_shadeBy) 75 [some (.ref 48), some (.int l1), none, some (.int l3), none, some (.int l5), some (.int l6), none, none] [] w (f_X11_shadeBy_B75 w l1 l3 l5 l6) := by
  unfold f_X11_shadeBy_B75
  refine e_iload G (pc := 75) dX11_shadeBy_75 rfl ?_
  refine e_wk (L' := [some (.ref 48), some (.int l1), none, some (.int l3), none, none, some (.int l6), none, none]) (And.intro rfl (And.intro rfl (And.intro rfl (And.intro rfl (trivial))))) ?_
  exact t_X11_shadeBy_B77 G w l1 l3 l6 l5 
set_option maxRecDepth 100000 in
set_option maxHeartbeats 4000000 in
theorem t_X11_shadeBy_B57 {E : qE} {Γ : qC} (G : q_Ok E Γ RX11 cX11_shadeBy 9 (106)) (w : qW) (l1 : Int32) (l3 : Int32) (l4 : Int32) (l5 : Int32) (s0 : Int32) : q_Ev E Γ 9 (q_Fi E Γ cX11_shadeBy) 57 [some (.ref 48), some (.int l1), none, some (.int l3), some (.int l4), some (.int l5), none, none, none] [.int s0] w (f_X11_shadeBy_B57 w l1 l3 l4 l5 s0) := by
  unfold f_X11_shadeBy_B57
  refine e_istore G (pc := 57) (L' := [some (.ref 48), some (.int l1), none, some (.int l3), some (.int l4), some (.int l5), some (.int s0), none, none]) dX11_shadeBy_57 (Nat.le_of_ble_eq_true rfl) rfl ?_
  refine e_iload_n G (pc := 59) dX11_shadeBy_59 rfl rfl ?_
  refine e_iconst G (pc := 60) (v := 4) dX11_shadeBy_60 (by decide) ?_
  refine e_icmp_lt G (pc := 61) (tgt := 75) dX11_shadeBy_61 (by decide) ?_ ?_
  · refine e_wk (L' := [some (.ref 48), some (.int l1), none, some (.int l3), none, some (.int l5), some (.int s0), none, none]) (And.intro rfl (And.intro rfl (And.intro rfl (And.intro rfl (And.intro rfl (trivial)))))) ?_
    exact t_X11_shadeBy_B75 G w l1 l3 l5 s0 
  · refine e_iload_n G (pc := 64) dX11_shadeBy_64 rfl rfl ?_
    refine e_bipush G (pc := 65) (v := 8) dX11_shadeBy_65 (by decide) ?_
    refine e_icmp_ge G (pc := 67) (tgt := 75) dX11_shadeBy_67 (by decide) ?_ ?_
    · refine e_wk (L' := [some (.ref 48), some (.int l1), none, some (.int l3), none, some (.int l5), some (.int s0), none, none]) (And.intro rfl (And.intro rfl (And.intro rfl (And.intro rfl (And.intro rfl (trivial)))))) ?_
      exact t_X11_shadeBy_B75 G w l1 l3 l5 s0 
    · refine e_iload G (pc := 70) dX11_shadeBy_70 rfl ?_
      refine e_goto G (pc := 72) (tgt := 77) dX11_shadeBy_72 (by decide) ?_
      refine e_wk (L' := [some (.ref 48), some (.int l1), none, some (.int l3), none, none, some (.int s0), none, none]) (And.intro rfl (And.intro rfl (And.intro rfl (And.intro rfl (trivial))))) ?_
      exact t_X11_shadeBy_B77 G w l1 l3 s0 l4 
set_option maxRecDepth 100000 in
set_option maxHeartbeats 4000000 in
theorem t_X11_shadeBy {E : qE} {Γ : qC} (G : q_Ok E Γ RX11 cX11_shadeBy 9 (106)) (w : qW) (a1 : Int32) (a2 : Int32) (a3 : Int32) : q_Ev E Γ 9 (q_Fi E Γ cX11_shadeBy) 0 [some (.ref 48), some (.int a1), some (.int a2), some (.int a3), none, none, none, none, none] [] w (f_X11_shadeBy w a1 a2 a3) := by
  unfold f_X11_shadeBy
  refine e_iload_n G (pc := 0) dX11_shadeBy_0 rfl rfl ?_
  refine e_bipush G (pc := 1) (v := 12) dX11_shadeBy_1 (by decide) ?_
  refine e_irem G (pc := 3) dX11_shadeBy_3 (by decide) ?_
  refine e_aload_n G (pc := 4) dX11_shadeBy_4 rfl rfl ?_
  refine e_getF G (pc := 5) sh_48 rfl lk_X11_9 dX11_shadeBy_5 ?_
  refine e_iload_n G (pc := 8) dX11_shadeBy_8 rfl rfl ?_
  refine e_iald G (pc := 9) sh_49 dX11_shadeBy_9 (fun v1 => ?_)
  refine e_bipush G (pc := 10) (v := 12) dX11_shadeBy_10 (by decide) ?_
  refine e_irem G (pc := 12) dX11_shadeBy_12 (by decide) ?_
  refine e_isub G (pc := 13) dX11_shadeBy_13 ?_
  refine e_ti (fun v2 => ?_)
  refine e_istore G (pc := 14) (L' := [some (.ref 48), some (.int a1), some (.int a2), some (.int a3), some (.int v2), none, none, none, none]) dX11_shadeBy_14 (Nat.le_of_ble_eq_true rfl) rfl ?_
  refine e_iload_n G (pc := 16) dX11_shadeBy_16 rfl rfl ?_
  refine e_bipush G (pc := 17) (v := 12) dX11_shadeBy_17 (by decide) ?_
  refine e_idiv G (pc := 19) dX11_shadeBy_19 (by decide) ?_
  refine e_aload_n G (pc := 20) dX11_shadeBy_20 rfl rfl ?_
  refine e_getF G (pc := 21) sh_48 rfl lk_X11_9 dX11_shadeBy_21 ?_
  refine e_iload_n G (pc := 24) dX11_shadeBy_24 rfl rfl ?_
  refine e_iald G (pc := 25) sh_49 dX11_shadeBy_25 (fun v3 => ?_)
  refine e_bipush G (pc := 26) (v := 12) dX11_shadeBy_26 (by decide) ?_
  refine e_idiv G (pc := 28) dX11_shadeBy_28 (by decide) ?_
  refine e_isub G (pc := 29) dX11_shadeBy_29 ?_
  refine e_ti (fun v4 => ?_)
  refine e_istore G (pc := 30) (L' := [some (.ref 48), some (.int a1), some (.int a2), some (.int a3), some (.int v2), some (.int v4), none, none, none]) dX11_shadeBy_30 (Nat.le_of_ble_eq_true rfl) rfl ?_
  refine e_iload_n G (pc := 32) dX11_shadeBy_32 rfl rfl ?_
  refine e_iconst G (pc := 33) (v := 4) dX11_shadeBy_33 (by decide) ?_
  refine e_icmp_ge G (pc := 34) (tgt := 43) dX11_shadeBy_34 (by decide) ?_ ?_
  · refine e_iload_n G (pc := 43) dX11_shadeBy_43 rfl rfl ?_
    refine e_bipush G (pc := 44) (v := 8) dX11_shadeBy_44 (by decide) ?_
    refine e_icmp_ge G (pc := 46) (tgt := 55) dX11_shadeBy_46 (by decide) ?_ ?_
    · refine e_iload G (pc := 55) dX11_shadeBy_55 rfl ?_
      refine e_wk (L' := [some (.ref 48), some (.int a1), none, some (.int a3), some (.int v2), some (.int v4), none, none, none]) (And.intro rfl (And.intro rfl (And.intro rfl (And.intro rfl (And.intro rfl (trivial)))))) ?_
      exact t_X11_shadeBy_B57 G w a1 a3 v2 v4 v2 
    · refine e_iload G (pc := 49) dX11_shadeBy_49 rfl ?_
      refine e_ineg G (pc := 51) dX11_shadeBy_51 ?_
      refine e_goto G (pc := 52) (tgt := 57) dX11_shadeBy_52 (by decide) ?_
      refine e_wk (L' := [some (.ref 48), some (.int a1), none, some (.int a3), some (.int v2), some (.int v4), none, none, none]) (And.intro rfl (And.intro rfl (And.intro rfl (And.intro rfl (And.intro rfl (trivial)))))) ?_
      exact t_X11_shadeBy_B57 G w a1 a3 v2 v4 (-v4) 
  · refine e_iload G (pc := 37) dX11_shadeBy_37 rfl ?_
    refine e_ineg G (pc := 39) dX11_shadeBy_39 ?_
    refine e_goto G (pc := 40) (tgt := 57) dX11_shadeBy_40 (by decide) ?_
    refine e_wk (L' := [some (.ref 48), some (.int a1), none, some (.int a3), some (.int v2), some (.int v4), none, none, none]) (And.intro rfl (And.intro rfl (And.intro rfl (And.intro rfl (And.intro rfl (trivial)))))) ?_
    exact t_X11_shadeBy_B57 G w a1 a3 v2 v4 (-v2) 
set_option maxRecDepth 100000 in
set_option maxHeartbeats 4000000 in
theorem c_X11_shadeBy (w : qW) (a1 : Int32) (a2 : Int32) (a3 : Int32) : q_AC q_vi (some .int) (106) yX11_shadeBy cX11_shadeBy 9 [.ref 48, .int a1, .int a2, .int a3] w (f_X11_shadeBy w a1 a2 a3) := q_met_i (k := 5) (by decide +kernel) rfl rfl rfl (fun _ _ G => t_X11_shadeBy G w a1 a2 a3 )
set_option maxRecDepth 100000 in
set_option maxHeartbeats 4000000 in
theorem t_X11_shadeOf_B36 {E : qE} {Γ : qC} (G : q_Ok E Γ RX11 cX11_shadeOf 6 (107)) (k6 : qW → Int32 → Int32 → Int32 → Int32 → Int32 → Option (Int32 × qW)) (hk6 : ∀ (w : qW) (l1 : Int32) (l2 : Int32) (l3 : Int32) (l4 : Int32) (l5 : Int32), q_Ev E Γ 6 (q_Fi E Γ cX11_shadeOf) 6 [some (.ref 48), some (.int l1), some (.int l2), some (.int l3), some (.int l4), some (.int l5)] [] w (k6 w l1 l2 l3 l4 l5)) (w : qW) (l1 : Int32) (l2 : Int32) (l3 : Int32) (l5 : Int32) (s0 : Int32) (s1 : Int32) : q_Ev E Γ 6 (q_Fi E Γ cX11_shadeOf) 36 [some (.ref 48), some (.int l1), some (.int l2), some (.int l3), none, some (.int l5)] [.int s0, .int s1] w (f_X11_shadeOf_B36 k6 w l1 l2 l3 l5 s0 s1) := by
  unfold f_X11_shadeOf_B36
  refine e_iadd G (pc := 36) dX11_shadeOf_36 ?_
  refine e_ti (fun v1 => ?_)
  refine e_istore G (pc := 37) (L' := [some (.ref 48), some (.int l1), some (.int l2), some (.int l3), some (.int v1), some (.int l5)]) dX11_shadeOf_37 (Nat.le_of_ble_eq_true rfl) rfl ?_
  refine e_iinc G (pc := 39) (x := l5) (v := l5 + 1) (L' := fun v2 => [some (.ref 48), some (.int l1), some (.int l2), some (.int l3), some (.int v1), some (.int v2)]) dX11_shadeOf_39 (Nat.le_of_ble_eq_true rfl) rfl (by rfl) (fun _ => rfl) (fun v2 => ?_)
  refine e_goto G (pc := 42) (tgt := 6) dX11_shadeOf_42 (by decide) ?_
  exact hk6 w l1 l2 l3 v1 v2 
set_option maxRecDepth 100000 in
set_option maxHeartbeats 4000000 in
theorem t_X11_shadeOf_B6 {E : qE} {Γ : qC} (G : q_Ok E Γ RX11 cX11_shadeOf 6 (107)) (k6 : qW → Int32 → Int32 → Int32 → Int32 → Int32 → Option (Int32 × qW)) (hk6 : ∀ (w : qW) (l1 : Int32) (l2 : Int32) (l3 : Int32) (l4 : Int32) (l5 : Int32), q_Ev E Γ 6 (q_Fi E Γ cX11_shadeOf) 6 [some (.ref 48), some (.int l1), some (.int l2), some (.int l3), some (.int l4), some (.int l5)] [] w (k6 w l1 l2 l3 l4 l5)) (w : qW) (l1 : Int32) (l2 : Int32) (l3 : Int32) (l4 : Int32) (l5 : Int32) : q_Ev E Γ 6 (q_Fi E Γ cX11_shadeOf) 6 [some (.ref 48), some (.int l1), some (.int l2), some (.int l3), some (.int l4), some (.int l5)] [] w (f_X11_shadeOf_B6 k6 w l1 l2 l3 l4 l5) := by
  unfold f_X11_shadeOf_B6
  refine e_iload G (pc := 6) dX11_shadeOf_6 rfl ?_
  refine e_bipush G (pc := 8) (v := 8) dX11_shadeOf_8 (by decide) ?_
  refine e_icmp_ge G (pc := 10) (tgt := 45) dX11_shadeOf_10 (by decide) ?_ ?_
  · refine e_iload G (pc := 45) dX11_shadeOf_45 rfl ?_
    refine e_bipush G (pc := 47) (v := 12) dX11_shadeOf_47 (by decide) ?_
    refine e_icmp_le G (pc := 49) (tgt := 57) dX11_shadeOf_49 (by decide) ?_ ?_
    · refine e_iload G (pc := 57) dX11_shadeOf_57 rfl ?_
      exact e_iret dX11_shadeOf_59
    · refine e_bipush G (pc := 52) (v := 12) dX11_shadeOf_52 (by decide) ?_
      refine e_goto G (pc := 54) (tgt := 59) dX11_shadeOf_54 (by decide) ?_
      exact e_iret dX11_shadeOf_59
  · refine e_iload G (pc := 13) dX11_shadeOf_13 rfl ?_
    refine e_iload_n G (pc := 15) dX11_shadeOf_15 rfl rfl ?_
    refine e_iload G (pc := 16) dX11_shadeOf_16 rfl ?_
    refine e_cSi G (pc := 18) (ci := 0) (id := 0) (sl := []) (As := [.int l1, .int l5]) (st := [.int l4]) cs_X11_197 (c_X11_isIn w l1 l5 ) (Nat.le_of_ble_eq_true rfl) rfl (Nat.le_of_ble_eq_true rfl) dX11_shadeOf_18 (fun r1 w2 => ?_)
    refine e_if_eq G (pc := 21) (tgt := 35) dX11_shadeOf_21 (by decide) ?_ ?_
    · refine e_iconst G (pc := 35) (v := 0) dX11_shadeOf_35 (by decide) ?_
      refine e_wk (L' := [some (.ref 48), some (.int l1), some (.int l2), some (.int l3), none, some (.int l5)]) (And.intro rfl (And.intro rfl (And.intro rfl (And.intro rfl (And.intro rfl (trivial)))))) ?_
      exact t_X11_shadeOf_B36 G k6 hk6 w2 l1 l2 l3 l5 0 l4 
    · refine e_aload_n G (pc := 24) dX11_shadeOf_24 rfl rfl ?_
      refine e_iload G (pc := 25) dX11_shadeOf_25 rfl ?_
      refine e_iload_n G (pc := 27) dX11_shadeOf_27 rfl rfl ?_
      refine e_iload_n G (pc := 28) dX11_shadeOf_28 rfl rfl ?_
      refine e_cVi G (pc := 29) (As := [.int l5, .int l2, .int l3]) (st := [.int l4]) cv_X11_200 (c_X11_shadeBy w2 l5 l2 l3 ) sh_48 (Nat.le_of_ble_eq_true rfl) rfl (Nat.le_of_ble_eq_true rfl) dX11_shadeOf_29 (fun r3 w4 => ?_)
      refine e_goto G (pc := 32) (tgt := 36) dX11_shadeOf_32 (by decide) ?_
      refine e_wk (L' := [some (.ref 48), some (.int l1), some (.int l2), some (.int l3), none, some (.int l5)]) (And.intro rfl (And.intro rfl (And.intro rfl (And.intro rfl (And.intro rfl (trivial)))))) ?_
      exact t_X11_shadeOf_B36 G k6 hk6 w4 l1 l2 l3 l5 r3 l4 
set_option maxRecDepth 100000 in
set_option maxHeartbeats 4000000 in
theorem t_X11_shadeOf_R6 {E : qE} {Γ : qC} (G : q_Ok E Γ RX11 cX11_shadeOf 6 (107)) : ∀ (fuel : Nat) (w : qW) (l1 : Int32) (l2 : Int32) (l3 : Int32) (l4 : Int32) (l5 : Int32) , q_Ev E Γ 6 (q_Fi E Γ cX11_shadeOf) 6 [some (.ref 48), some (.int l1), some (.int l2), some (.int l3), some (.int l4), some (.int l5)] [] w (f_X11_shadeOf_R6 fuel w l1 l2 l3 l4 l5) := by
  intro fuel
  induction fuel with
  | zero => intros; exact e_none
  | succ fuel ih =>
    intro w l1 l2 l3 l4 l5 
    exact t_X11_shadeOf_B6 G _ ih w l1 l2 l3 l4 l5 
set_option maxRecDepth 100000 in
set_option maxHeartbeats 4000000 in
theorem t_X11_shadeOf {E : qE} {Γ : qC} (G : q_Ok E Γ RX11 cX11_shadeOf 6 (107)) (w : qW) (a1 : Int32) (a2 : Int32) (a3 : Int32) : q_Ev E Γ 6 (q_Fi E Γ cX11_shadeOf) 0 [some (.ref 48), some (.int a1), some (.int a2), some (.int a3), none, none] [] w (f_X11_shadeOf w a1 a2 a3) := by
  unfold f_X11_shadeOf
  refine e_iconst G (pc := 0) (v := 0) dX11_shadeOf_0 (by decide) ?_
  refine e_istore G (pc := 1) (L' := [some (.ref 48), some (.int a1), some (.int a2), some (.int a3), some (.int 0), none]) dX11_shadeOf_1 (Nat.le_of_ble_eq_true rfl) rfl ?_
  refine e_iconst G (pc := 3) (v := 0) dX11_shadeOf_3 (by decide) ?_
  refine e_istore G (pc := 4) (L' := [some (.ref 48), some (.int a1), some (.int a2), some (.int a3), some (.int 0), some (.int 0)]) dX11_shadeOf_4 (Nat.le_of_ble_eq_true rfl) rfl ?_
  exact t_X11_shadeOf_R6 G  q_fuel w a1 a2 a3 0 0 
set_option maxRecDepth 100000 in
set_option maxHeartbeats 4000000 in
theorem c_X11_shadeOf (w : qW) (a1 : Int32) (a2 : Int32) (a3 : Int32) : q_AC q_vi (some .int) (107) yX11_shadeOf cX11_shadeOf 6 [.ref 48, .int a1, .int a2, .int a3] w (f_X11_shadeOf w a1 a2 a3) := q_met_i (k := 2) (by decide +kernel) rfl rfl rfl (fun _ _ G => t_X11_shadeOf G w a1 a2 a3 )
set_option maxRecDepth 100000 in
set_option maxHeartbeats 4000000 in
theorem t_X11_everybody {E : qE} {Γ : qC} (G : q_Ok E Γ RX11 cX11_everybody 1 (2)) (w : qW) : q_Ev E Γ 1 (q_Fi E Γ cX11_everybody) 0 [some (.ref 48)] [] w (f_X11_everybody w ) := by
  unfold f_X11_everybody
  refine e_iconst G (pc := 0) (v := 1) dX11_everybody_0 (by decide) ?_
  refine e_aload_n G (pc := 1) dX11_everybody_1 rfl rfl ?_
  refine e_getI G (pc := 2) sh_48 rfl lk_X11_75 dX11_everybody_2 ?_
  refine e_ishl G (pc := 5) dX11_everybody_5 ?_
  refine e_iconst G (pc := 6) (v := 1) dX11_everybody_6 (by decide) ?_
  refine e_isub G (pc := 7) dX11_everybody_7 ?_
  exact e_iret dX11_everybody_8
set_option maxRecDepth 100000 in
set_option maxHeartbeats 4000000 in
theorem c_X11_everybody (w : qW) : q_AC q_vi (some .int) (2) yX11_everybody cX11_everybody 1 [.ref 48] w (f_X11_everybody w ) := q_met_i (k := 0) (by decide +kernel) rfl rfl rfl (fun _ _ G => t_X11_everybody G w  )
set_option maxRecDepth 100000 in
set_option maxHeartbeats 4000000 in
theorem t_X11_shade_B42 {E : qE} {Γ : qC} (G : q_Ok E Γ RX11 cX11_shade 3 (108)) (w : qW) (l1 : Int32) (l2 : Int32) : q_Ev E Γ 3 (q_Fi E Γ cX11_shade) 42 [some (.ref 48), some (.int l1), some (.int l2)] [] w (f_X11_shade_B42 w l1 l2) := by
  unfold f_X11_shade_B42
  refine e_iload_n G (pc := 42) dX11_shade_42 rfl rfl ?_
  refine e_if_ge G (pc := 43) (tgt := 65) dX11_shade_43 (by decide) ?_ ?_
  · refine e_aload_n G (pc := 65) dX11_shade_65 rfl rfl ?_
    refine e_iload_n G (pc := 66) dX11_shade_66 rfl rfl ?_
    refine e_iload_n G (pc := 67) dX11_shade_67 rfl rfl ?_
    refine e_bipush G (pc := 68) (v := 100) dX11_shade_68 (by decide) ?_
    refine e_idiv G (pc := 70) dX11_shade_70 (by decide) ?_
    refine e_iload_n G (pc := 71) dX11_shade_71 rfl rfl ?_
    refine e_bipush G (pc := 72) (v := 100) dX11_shade_72 (by decide) ?_
    refine e_irem G (pc := 74) dX11_shade_74 (by decide) ?_
    refine e_cVi G (pc := 75) (As := [.int l2, .int (l1 / 100), .int (q_rem l1 100)]) (st := []) cv_X11_200 (c_X11_shadeBy w l2 (l1 / 100) (q_rem l1 100) ) sh_48 (Nat.le_of_ble_eq_true rfl) rfl (Nat.le_of_ble_eq_true rfl) dX11_shade_75 (fun r1 w2 => ?_)
    exact e_iret dX11_shade_78
  · refine e_aload_n G (pc := 46) dX11_shade_46 rfl rfl ?_
    refine e_aload_n G (pc := 47) dX11_shade_47 rfl rfl ?_
    refine e_cVi G (pc := 48) (As := []) (st := [.ref 48]) cv_X11_207 (c_X11_everybody w  ) sh_48 (Nat.le_of_ble_eq_true rfl) rfl (Nat.le_of_ble_eq_true rfl) dX11_shade_48 (fun r3 w4 => ?_)
    refine e_iload_n G (pc := 51) dX11_shade_51 rfl rfl ?_
    refine e_bipush G (pc := 52) (v := 100) dX11_shade_52 (by decide) ?_
    refine e_idiv G (pc := 54) dX11_shade_54 (by decide) ?_
    refine e_iload_n G (pc := 55) dX11_shade_55 rfl rfl ?_
    refine e_bipush G (pc := 56) (v := 100) dX11_shade_56 (by decide) ?_
    refine e_irem G (pc := 58) dX11_shade_58 (by decide) ?_
    refine e_cVi G (pc := 59) (As := [.int r3, .int (l1 / 100), .int (q_rem l1 100)]) (st := []) cv_X11_210 (c_X11_shadeOf w4 r3 (l1 / 100) (q_rem l1 100) ) sh_48 (Nat.le_of_ble_eq_true rfl) rfl (Nat.le_of_ble_eq_true rfl) dX11_shade_59 (fun r5 w6 => ?_)
    refine e_goto G (pc := 62) (tgt := 78) dX11_shade_62 (by decide) ?_
    exact e_iret dX11_shade_78
set_option maxRecDepth 100000 in
set_option maxHeartbeats 4000000 in
theorem t_X11_shade {E : qE} {Γ : qC} (G : q_Ok E Γ RX11 cX11_shade 3 (108)) (w : qW) (a1 : Int32) (a2 : Int32) : q_Ev E Γ 3 (q_Fi E Γ cX11_shade) 0 [some (.ref 48), some (.int a1), some (.int a2)] [] w (f_X11_shade w a1 a2) := by
  unfold f_X11_shade
  refine e_iload_n G (pc := 0) dX11_shade_0 rfl rfl ?_
  refine e_if_lt G (pc := 1) (tgt := 40) dX11_shade_1 (by decide) ?_ ?_
  · refine e_iconst G (pc := 40) (v := (-1)) dX11_shade_40 (by decide) ?_
    exact e_iret dX11_shade_41
  · refine e_iload_n G (pc := 4) dX11_shade_4 rfl rfl ?_
    refine e_bipush G (pc := 5) (v := 100) dX11_shade_5 (by decide) ?_
    refine e_idiv G (pc := 7) dX11_shade_7 (by decide) ?_
    refine e_i2l G (pc := 8) dX11_shade_8 ?_
    refine e_cSi G (pc := 9) (ci := 0) (id := 0) (sl := []) (As := [.long (Int32.toInt64 (a1 / 100))]) (st := []) cs_X11_89 (c_X11_isCell w (Int32.toInt64 (a1 / 100)) ) (Nat.le_of_ble_eq_true rfl) rfl (Nat.le_of_ble_eq_true rfl) dX11_shade_9 (fun r1 w2 => ?_)
    refine e_if_eq G (pc := 12) (tgt := 40) dX11_shade_12 (by decide) ?_ ?_
    · refine e_iconst G (pc := 40) (v := (-1)) dX11_shade_40 (by decide) ?_
      exact e_iret dX11_shade_41
    · refine e_iload_n G (pc := 15) dX11_shade_15 rfl rfl ?_
      refine e_bipush G (pc := 16) (v := 100) dX11_shade_16 (by decide) ?_
      refine e_irem G (pc := 18) dX11_shade_18 (by decide) ?_
      refine e_i2l G (pc := 19) dX11_shade_19 ?_
      refine e_cSi G (pc := 20) (ci := 0) (id := 0) (sl := []) (As := [.long (Int32.toInt64 (q_rem a1 100))]) (st := []) cs_X11_204 (c_X11_isHour w2 (Int32.toInt64 (q_rem a1 100)) ) (Nat.le_of_ble_eq_true rfl) rfl (Nat.le_of_ble_eq_true rfl) dX11_shade_20 (fun r3 w4 => ?_)
      refine e_if_eq G (pc := 23) (tgt := 40) dX11_shade_23 (by decide) ?_ ?_
      · refine e_iconst G (pc := 40) (v := (-1)) dX11_shade_40 (by decide) ?_
        exact e_iret dX11_shade_41
      · refine e_iload_n G (pc := 26) dX11_shade_26 rfl rfl ?_
        refine e_iconst G (pc := 27) (v := (-1)) dX11_shade_27 (by decide) ?_
        refine e_icmp_eq G (pc := 28) (tgt := 42) dX11_shade_28 (by decide) ?_ ?_
        · exact t_X11_shade_B42 G w4 a1 a2 
        · refine e_aload_n G (pc := 31) dX11_shade_31 rfl rfl ?_
          refine e_iload_n G (pc := 32) dX11_shade_32 rfl rfl ?_
          refine e_i2l G (pc := 33) dX11_shade_33 ?_
          refine e_cVi G (pc := 34) (As := [.long (Int32.toInt64 a2)]) (st := []) cv_X11_116 (c_X11_isMan w4 (Int32.toInt64 a2) ) sh_48 (Nat.le_of_ble_eq_true rfl) rfl (Nat.le_of_ble_eq_true rfl) dX11_shade_34 (fun r5 w6 => ?_)
          refine e_if_ne G (pc := 37) (tgt := 42) dX11_shade_37 (by decide) ?_ ?_
          · exact t_X11_shade_B42 G w6 a1 a2 
          · refine e_iconst G (pc := 40) (v := (-1)) dX11_shade_40 (by decide) ?_
            exact e_iret dX11_shade_41
set_option maxRecDepth 100000 in
set_option maxHeartbeats 4000000 in
theorem c_X11_shade (w : qW) (a1 : Int32) (a2 : Int32) : q_AC q_vi (some .int) (108) yX11_shade cX11_shade 3 [.ref 48, .int a1, .int a2] w (f_X11_shade w a1 a2) := q_met_i (k := 0) (by decide +kernel) rfl rfl rfl (fun _ _ G => t_X11_shade G w a1 a2 )
set_option maxRecDepth 100000 in
set_option maxHeartbeats 4000000 in
theorem t_X11_walk_B95 {E : qE} {Γ : qC} (G : q_Ok E Γ RX11 cX11_walk 8 (108)) (k31 : qW → Int32 → Int32 → Int32 → Int32 → Int32 → Int32 → Option (Int32 × qW)) (hk31 : ∀ (w : qW) (l1 : Int32) (l2 : Int32) (l3 : Int32) (l4 : Int32) (l5 : Int32) (l6 : Int32), q_Ev E Γ 8 (q_Fi E Γ cX11_walk) 31 [some (.ref 48), some (.int l1), some (.int l2), some (.int l3), some (.int l4), some (.int l5), some (.int l6), none] [] w (k31 w l1 l2 l3 l4 l5 l6)) (w : qW) (l1 : Int32) (l2 : Int32) (l3 : Int32) (l4 : Int32) (l6 : Int32) (s0 : Int32) : q_Ev E Γ 8 (q_Fi E Γ cX11_walk) 95 [some (.ref 48), some (.int l1), some (.int l2), some (.int l3), some (.int l4), none, some (.int l6), none] [.int s0] w (f_X11_walk_B95 k31 w l1 l2 l3 l4 l6 s0) := by
  unfold f_X11_walk_B95
  refine e_istore G (pc := 95) (L' := [some (.ref 48), some (.int l1), some (.int l2), some (.int l3), some (.int l4), some (.int s0), some (.int l6), none]) dX11_walk_95 (Nat.le_of_ble_eq_true rfl) rfl ?_
  refine e_iinc G (pc := 97) (x := l6) (v := l6 + 1) (L' := fun v1 => [some (.ref 48), some (.int l1), some (.int l2), some (.int l3), some (.int l4), some (.int s0), some (.int v1), none]) dX11_walk_97 (Nat.le_of_ble_eq_true rfl) rfl (by rfl) (fun _ => rfl) (fun v1 => ?_)
  refine e_goto G (pc := 100) (tgt := 31) dX11_walk_100 (by decide) ?_
  exact hk31 w l1 l2 l3 l4 s0 v1 
set_option maxRecDepth 100000 in
set_option maxHeartbeats 4000000 in
theorem t_X11_walk_B79 {E : qE} {Γ : qC} (G : q_Ok E Γ RX11 cX11_walk 8 (108)) (k31 : qW → Int32 → Int32 → Int32 → Int32 → Int32 → Int32 → Option (Int32 × qW)) (hk31 : ∀ (w : qW) (l1 : Int32) (l2 : Int32) (l3 : Int32) (l4 : Int32) (l5 : Int32) (l6 : Int32), q_Ev E Γ 8 (q_Fi E Γ cX11_walk) 31 [some (.ref 48), some (.int l1), some (.int l2), some (.int l3), some (.int l4), some (.int l5), some (.int l6), none] [] w (k31 w l1 l2 l3 l4 l5 l6)) (w : qW) (l1 : Int32) (l2 : Int32) (l3 : Int32) (l5 : Int32) (l6 : Int32) (l7 : Int32) (s0 : Int32) : q_Ev E Γ 8 (q_Fi E Γ cX11_walk) 79 [some (.ref 48), some (.int l1), some (.int l2), some (.int l3), none, some (.int l5), some (.int l6), some (.int l7)] [.int s0] w (f_X11_walk_B79 k31 w l1 l2 l3 l5 l6 l7 s0) := by
  unfold f_X11_walk_B79
  refine e_istore G (pc := 79) (L' := [some (.ref 48), some (.int l1), some (.int l2), some (.int l3), some (.int s0), some (.int l5), some (.int l6), some (.int l7)]) dX11_walk_79 (Nat.le_of_ble_eq_true rfl) rfl ?_
  refine e_iload G (pc := 81) dX11_walk_81 rfl ?_
  refine e_iload G (pc := 83) dX11_walk_83 rfl ?_
  refine e_icmp_le G (pc := 85) (tgt := 93) dX11_walk_85 (by decide) ?_ ?_
  · refine e_iload G (pc := 93) dX11_walk_93 rfl ?_
    refine e_wk (L' := [some (.ref 48), some (.int l1), some (.int l2), some (.int l3), some (.int s0), none, some (.int l6), none]) (And.intro rfl (And.intro rfl (And.intro rfl (And.intro rfl (And.intro rfl (And.intro rfl (trivial))))))) ?_
    exact t_X11_walk_B95 G k31 hk31 w l1 l2 l3 s0 l6 l5 
  · refine e_iload G (pc := 88) dX11_walk_88 rfl ?_
    refine e_goto G (pc := 90) (tgt := 95) dX11_walk_90 (by decide) ?_
    refine e_wk (L' := [some (.ref 48), some (.int l1), some (.int l2), some (.int l3), some (.int s0), none, some (.int l6), none]) (And.intro rfl (And.intro rfl (And.intro rfl (And.intro rfl (And.intro rfl (And.intro rfl (trivial))))))) ?_
    exact t_X11_walk_B95 G k31 hk31 w l1 l2 l3 s0 l6 l7 
set_option maxRecDepth 100000 in
set_option maxHeartbeats 4000000 in
theorem t_X11_walk_B63 {E : qE} {Γ : qC} (G : q_Ok E Γ RX11 cX11_walk 8 (108)) (k31 : qW → Int32 → Int32 → Int32 → Int32 → Int32 → Int32 → Option (Int32 × qW)) (hk31 : ∀ (w : qW) (l1 : Int32) (l2 : Int32) (l3 : Int32) (l4 : Int32) (l5 : Int32) (l6 : Int32), q_Ev E Γ 8 (q_Fi E Γ cX11_walk) 31 [some (.ref 48), some (.int l1), some (.int l2), some (.int l3), some (.int l4), some (.int l5), some (.int l6), none] [] w (k31 w l1 l2 l3 l4 l5 l6)) (w : qW) (l1 : Int32) (l2 : Int32) (l4 : Int32) (l5 : Int32) (l6 : Int32) (l7 : Int32) (s0 : Int32) (s1 : Int32) : q_Ev E Γ 8 (q_Fi E Γ cX11_walk) 63 [some (.ref 48), some (.int l1), some (.int l2), none, some (.int l4), some (.int l5), some (.int l6), some (.int l7)] [.int s0, .int s1] w (f_X11_walk_B63 k31 w l1 l2 l4 l5 l6 l7 s0 s1) := by
  unfold f_X11_walk_B63
  refine e_iadd G (pc := 63) dX11_walk_63 ?_
  refine e_ti (fun v1 => ?_)
  refine e_istore_n G (pc := 64) (L' := [some (.ref 48), some (.int l1), some (.int l2), some (.int v1), some (.int l4), some (.int l5), some (.int l6), some (.int l7)]) dX11_walk_64 rfl (Nat.le_of_ble_eq_true rfl) rfl ?_
  refine e_iload G (pc := 65) dX11_walk_65 rfl ?_
  refine e_iload G (pc := 67) dX11_walk_67 rfl ?_
  refine e_icmp_le G (pc := 69) (tgt := 77) dX11_walk_69 (by decide) ?_ ?_
  · refine e_iload G (pc := 77) dX11_walk_77 rfl ?_
    refine e_wk (L' := [some (.ref 48), some (.int l1), some (.int l2), some (.int v1), none, some (.int l5), some (.int l6), some (.int l7)]) (And.intro rfl (And.intro rfl (And.intro rfl (And.intro rfl (And.intro rfl (And.intro rfl (And.intro rfl (trivial)))))))) ?_
    exact t_X11_walk_B79 G k31 hk31 w l1 l2 v1 l5 l6 l7 l4 
  · refine e_iload G (pc := 72) dX11_walk_72 rfl ?_
    refine e_goto G (pc := 74) (tgt := 79) dX11_walk_74 (by decide) ?_
    refine e_wk (L' := [some (.ref 48), some (.int l1), some (.int l2), some (.int v1), none, some (.int l5), some (.int l6), some (.int l7)]) (And.intro rfl (And.intro rfl (And.intro rfl (And.intro rfl (And.intro rfl (And.intro rfl (And.intro rfl (trivial)))))))) ?_
    exact t_X11_walk_B79 G k31 hk31 w l1 l2 v1 l5 l6 l7 l6 
set_option maxRecDepth 100000 in
set_option maxHeartbeats 4000000 in
theorem t_X11_walk_B31 {E : qE} {Γ : qC} (G : q_Ok E Γ RX11 cX11_walk 8 (108)) (k31 : qW → Int32 → Int32 → Int32 → Int32 → Int32 → Int32 → Option (Int32 × qW)) (hk31 : ∀ (w : qW) (l1 : Int32) (l2 : Int32) (l3 : Int32) (l4 : Int32) (l5 : Int32) (l6 : Int32), q_Ev E Γ 8 (q_Fi E Γ cX11_walk) 31 [some (.ref 48), some (.int l1), some (.int l2), some (.int l3), some (.int l4), some (.int l5), some (.int l6), none] [] w (k31 w l1 l2 l3 l4 l5 l6)) (w : qW) (l1 : Int32) (l2 : Int32) (l3 : Int32) (l4 : Int32) (l5 : Int32) (l6 : Int32) : q_Ev E Γ 8 (q_Fi E Γ cX11_walk) 31 [some (.ref 48), some (.int l1), some (.int l2), some (.int l3), some (.int l4), some (.int l5), some (.int l6), none] [] w (f_X11_walk_B31 k31 w l1 l2 l3 l4 l5 l6) := by
  unfold f_X11_walk_B31
  refine e_iload G (pc := 31) dX11_walk_31 rfl ?_
  refine e_sipush G (pc := 33) (v := 144) dX11_walk_33 (by decide) ?_
  refine e_icmp_ge G (pc := 36) (tgt := 103) dX11_walk_36 (by decide) ?_ ?_
  · refine e_iload_n G (pc := 103) dX11_walk_103 rfl rfl ?_
    refine e_if_ne G (pc := 104) (tgt := 111) dX11_walk_104 (by decide) ?_ ?_
    · refine e_iload G (pc := 111) dX11_walk_111 rfl ?_
      exact e_iret dX11_walk_113
    · refine e_iload_n G (pc := 107) dX11_walk_107 rfl rfl ?_
      refine e_goto G (pc := 108) (tgt := 113) dX11_walk_108 (by decide) ?_
      exact e_iret dX11_walk_113
  · refine e_aload_n G (pc := 39) dX11_walk_39 rfl rfl ?_
    refine e_aload_n G (pc := 40) dX11_walk_40 rfl rfl ?_
    refine e_cVi G (pc := 41) (As := []) (st := [.ref 48]) cv_X11_207 (c_X11_everybody w  ) sh_48 (Nat.le_of_ble_eq_true rfl) rfl (Nat.le_of_ble_eq_true rfl) dX11_walk_41 (fun r1 w2 => ?_)
    refine e_iload G (pc := 44) dX11_walk_44 rfl ?_
    refine e_iload_n G (pc := 46) dX11_walk_46 rfl rfl ?_
    refine e_cVi G (pc := 47) (As := [.int r1, .int l6, .int l1]) (st := []) cv_X11_210 (c_X11_shadeOf w2 r1 l6 l1 ) sh_48 (Nat.le_of_ble_eq_true rfl) rfl (Nat.le_of_ble_eq_true rfl) dX11_walk_47 (fun r3 w4 => ?_)
    refine e_istore G (pc := 50) (L' := [some (.ref 48), some (.int l1), some (.int l2), some (.int l3), some (.int l4), some (.int l5), some (.int l6), some (.int r3)]) dX11_walk_50 (Nat.le_of_ble_eq_true rfl) rfl ?_
    refine e_iload_n G (pc := 52) dX11_walk_52 rfl rfl ?_
    refine e_iload G (pc := 53) dX11_walk_53 rfl ?_
    refine e_if_le G (pc := 55) (tgt := 62) dX11_walk_55 (by decide) ?_ ?_
    · refine e_iconst G (pc := 62) (v := 0) dX11_walk_62 (by decide) ?_
      refine e_wk (L' := [some (.ref 48), some (.int l1), some (.int l2), none, some (.int l4), some (.int l5), some (.int l6), some (.int r3)]) (And.intro rfl (And.intro rfl (And.intro rfl (And.intro rfl (And.intro rfl (And.intro rfl (And.intro rfl (trivial)))))))) ?_
      exact t_X11_walk_B63 G k31 hk31 w4 l1 l2 l4 l5 l6 r3 0 l3 
    · refine e_iconst G (pc := 58) (v := 1) dX11_walk_58 (by decide) ?_
      refine e_goto G (pc := 59) (tgt := 63) dX11_walk_59 (by decide) ?_
      refine e_wk (L' := [some (.ref 48), some (.int l1), some (.int l2), none, some (.int l4), some (.int l5), some (.int l6), some (.int r3)]) (And.intro rfl (And.intro rfl (And.intro rfl (And.intro rfl (And.intro rfl (And.intro rfl (And.intro rfl (trivial)))))))) ?_
      exact t_X11_walk_B63 G k31 hk31 w4 l1 l2 l4 l5 l6 r3 1 l3 
set_option maxRecDepth 100000 in
set_option maxHeartbeats 4000000 in
theorem t_X11_walk_R31 {E : qE} {Γ : qC} (G : q_Ok E Γ RX11 cX11_walk 8 (108)) : ∀ (fuel : Nat) (w : qW) (l1 : Int32) (l2 : Int32) (l3 : Int32) (l4 : Int32) (l5 : Int32) (l6 : Int32) , q_Ev E Γ 8 (q_Fi E Γ cX11_walk) 31 [some (.ref 48), some (.int l1), some (.int l2), some (.int l3), some (.int l4), some (.int l5), some (.int l6), none] [] w (f_X11_walk_R31 fuel w l1 l2 l3 l4 l5 l6) := by
  intro fuel
  induction fuel with
  | zero => intros; exact e_none
  | succ fuel ih =>
    intro w l1 l2 l3 l4 l5 l6 
    exact t_X11_walk_B31 G _ ih w l1 l2 l3 l4 l5 l6 
set_option maxRecDepth 100000 in
set_option maxHeartbeats 4000000 in
theorem t_X11_walk {E : qE} {Γ : qC} (G : q_Ok E Γ RX11 cX11_walk 8 (108)) (w : qW) (a1 : Int32) (a2 : Int32) : q_Ev E Γ 8 (q_Fi E Γ cX11_walk) 0 [some (.ref 48), some (.int a1), some (.int a2), none, none, none, none, none] [] w (f_X11_walk w a1 a2) := by
  unfold f_X11_walk
  refine e_iload_n G (pc := 0) dX11_walk_0 rfl rfl ?_
  refine e_i2l G (pc := 1) dX11_walk_1 ?_
  refine e_cSi G (pc := 2) (ci := 0) (id := 0) (sl := []) (As := [.long (Int32.toInt64 a1)]) (st := []) cs_X11_204 (c_X11_isHour w (Int32.toInt64 a1) ) (Nat.le_of_ble_eq_true rfl) rfl (Nat.le_of_ble_eq_true rfl) dX11_walk_2 (fun r1 w2 => ?_)
  refine e_if_eq G (pc := 5) (tgt := 18) dX11_walk_5 (by decide) ?_ ?_
  · refine e_iconst G (pc := 18) (v := (-1)) dX11_walk_18 (by decide) ?_
    exact e_iret dX11_walk_19
  · refine e_iload_n G (pc := 8) dX11_walk_8 rfl rfl ?_
    refine e_i2l G (pc := 9) dX11_walk_9 ?_
    refine e_lconst G (pc := 10) (v := 0) dX11_walk_10 (by decide) ?_
    refine e_lconst G (pc := 11) (v := 1) dX11_walk_11 (by decide) ?_
    refine e_cSi G (pc := 12) (ci := 0) (id := 0) (sl := []) (As := [.long (Int32.toInt64 a2), .long 0, .long 1]) (st := []) cs_X11_78 (c_X11_within w2 (Int32.toInt64 a2) 0 1 ) (Nat.le_of_ble_eq_true rfl) rfl (Nat.le_of_ble_eq_true rfl) dX11_walk_12 (fun r3 w4 => ?_)
    refine e_if_ne G (pc := 15) (tgt := 20) dX11_walk_15 (by decide) ?_ ?_
    · refine e_iconst G (pc := 20) (v := 0) dX11_walk_20 (by decide) ?_
      refine e_istore_n G (pc := 21) (L' := [some (.ref 48), some (.int a1), some (.int a2), some (.int 0), none, none, none, none]) dX11_walk_21 rfl (Nat.le_of_ble_eq_true rfl) rfl ?_
      refine e_iconst G (pc := 22) (v := 0) dX11_walk_22 (by decide) ?_
      refine e_istore G (pc := 23) (L' := [some (.ref 48), some (.int a1), some (.int a2), some (.int 0), some (.int 0), none, none, none]) dX11_walk_23 (Nat.le_of_ble_eq_true rfl) rfl ?_
      refine e_iconst G (pc := 25) (v := (-1)) dX11_walk_25 (by decide) ?_
      refine e_istore G (pc := 26) (L' := [some (.ref 48), some (.int a1), some (.int a2), some (.int 0), some (.int 0), some (.int (-1)), none, none]) dX11_walk_26 (Nat.le_of_ble_eq_true rfl) rfl ?_
      refine e_iconst G (pc := 28) (v := 0) dX11_walk_28 (by decide) ?_
      refine e_istore G (pc := 29) (L' := [some (.ref 48), some (.int a1), some (.int a2), some (.int 0), some (.int 0), some (.int (-1)), some (.int 0), none]) dX11_walk_29 (Nat.le_of_ble_eq_true rfl) rfl ?_
      exact t_X11_walk_R31 G  q_fuel w4 a1 a2 0 0 (-1) 0 
    · refine e_iconst G (pc := 18) (v := (-1)) dX11_walk_18 (by decide) ?_
      exact e_iret dX11_walk_19
set_option maxRecDepth 100000 in
set_option maxHeartbeats 4000000 in
theorem c_X11_walk (w : qW) (a1 : Int32) (a2 : Int32) : q_AC q_vi (some .int) (108) yX11_walk cX11_walk 8 [.ref 48, .int a1, .int a2] w (f_X11_walk w a1 a2) := q_met_i (k := 5) (by decide +kernel) rfl rfl rfl (fun _ _ G => t_X11_walk G w a1 a2 )
set_option maxRecDepth 100000 in
set_option maxHeartbeats 4000000 in
theorem t_X11_isServed {E : qE} {Γ : qC} (G : q_Ok E Γ RX11 cX11_isServed 4 (108)) (w : qW) (a1 : Int32) (a2 : Int32) (a3 : Int32) : q_Ev E Γ 4 (q_Fz E Γ cX11_isServed) 0 [some (.ref 48), some (.int a1), some (.int a2), some (.int a3)] [] w (f_X11_isServed w a1 a2 a3) := by
  unfold f_X11_isServed
  refine e_aload_n G (pc := 0) dX11_isServed_0 rfl rfl ?_
  refine e_iload_n G (pc := 1) dX11_isServed_1 rfl rfl ?_
  refine e_aload_n G (pc := 2) dX11_isServed_2 rfl rfl ?_
  refine e_getF G (pc := 3) sh_48 rfl lk_X11_9 dX11_isServed_3 ?_
  refine e_bipush G (pc := 6) (v := 32) dX11_isServed_6 (by decide) ?_
  refine e_iload_n G (pc := 8) dX11_isServed_8 rfl rfl ?_
  refine e_iadd G (pc := 9) dX11_isServed_9 ?_
  refine e_iald G (pc := 10) sh_49 dX11_isServed_10 (fun v1 => ?_)
  refine e_iload_n G (pc := 11) dX11_isServed_11 rfl rfl ?_
  refine e_cVi G (pc := 12) (As := [.int a3, .int v1, .int a2]) (st := []) cv_X11_210 (c_X11_shadeOf w a3 v1 a2 ) sh_48 (Nat.le_of_ble_eq_true rfl) rfl (Nat.le_of_ble_eq_true rfl) dX11_isServed_12 (fun r2 w3 => ?_)
  refine e_aload_n G (pc := 15) dX11_isServed_15 rfl rfl ?_
  refine e_getF G (pc := 16) sh_48 rfl lk_X11_9 dX11_isServed_16 ?_
  refine e_bipush G (pc := 19) (v := 48) dX11_isServed_19 (by decide) ?_
  refine e_iload_n G (pc := 21) dX11_isServed_21 rfl rfl ?_
  refine e_iadd G (pc := 22) dX11_isServed_22 ?_
  refine e_iald G (pc := 23) sh_49 dX11_isServed_23 (fun v4 => ?_)
  refine e_icmp_lt G (pc := 24) (tgt := 31) dX11_isServed_24 (by decide) ?_ ?_
  · refine e_iconst G (pc := 31) (v := 0) dX11_isServed_31 (by decide) ?_
    exact e_zret dX11_isServed_32
  · refine e_iconst G (pc := 27) (v := 1) dX11_isServed_27 (by decide) ?_
    refine e_goto G (pc := 28) (tgt := 32) dX11_isServed_28 (by decide) ?_
    exact e_zret dX11_isServed_32
set_option maxRecDepth 100000 in
set_option maxHeartbeats 4000000 in
theorem c_X11_isServed (w : qW) (a1 : Int32) (a2 : Int32) (a3 : Int32) : q_AC q_vi (some .boolean) (108) yX11_isServed cX11_isServed 4 [.ref 48, .int a1, .int a2, .int a3] w (f_X11_isServed w a1 a2 a3) := q_met_z (k := 0) (by decide +kernel) rfl rfl rfl (fun _ _ G => t_X11_isServed G w a1 a2 a3 )
set_option maxRecDepth 100000 in
set_option maxHeartbeats 4000000 in
theorem t_X11_wants {E : qE} {Γ : qC} (G : q_Ok E Γ RX11 cX11_wants 3 (3)) (w : qW) (a1 : Int32) (a2 : Int32) : q_Ev E Γ 3 (q_Fz E Γ cX11_wants) 0 [some (.ref 48), some (.int a1), some (.int a2)] [] w (f_X11_wants w a1 a2) := by
  unfold f_X11_wants
  refine e_aload_n G (pc := 0) dX11_wants_0 rfl rfl ?_
  refine e_getF G (pc := 1) sh_48 rfl lk_X11_9 dX11_wants_1 ?_
  refine e_bipush G (pc := 4) (v := 40) dX11_wants_4 (by decide) ?_
  refine e_iload_n G (pc := 6) dX11_wants_6 rfl rfl ?_
  refine e_iadd G (pc := 7) dX11_wants_7 ?_
  refine e_iald G (pc := 8) sh_49 dX11_wants_8 (fun v1 => ?_)
  refine e_iload_n G (pc := 9) dX11_wants_9 rfl rfl ?_
  refine e_cSi G (pc := 10) (ci := 0) (id := 0) (sl := []) (As := [.int v1, .int a2]) (st := []) cs_X11_197 (c_X11_isIn w v1 a2 ) (Nat.le_of_ble_eq_true rfl) rfl (Nat.le_of_ble_eq_true rfl) dX11_wants_10 (fun r2 w3 => ?_)
  exact e_zret dX11_wants_13
set_option maxRecDepth 100000 in
set_option maxHeartbeats 4000000 in
theorem c_X11_wants (w : qW) (a1 : Int32) (a2 : Int32) : q_AC q_vi (some .boolean) (3) yX11_wants cX11_wants 3 [.ref 48, .int a1, .int a2] w (f_X11_wants w a1 a2) := q_met_z (k := 0) (by decide +kernel) rfl rfl rfl (fun _ _ G => t_X11_wants G w a1 a2 )
set_option maxRecDepth 100000 in
set_option maxHeartbeats 4000000 in
theorem t_X11_missesOf_B39 {E : qE} {Γ : qC} (G : q_Ok E Γ RX11 cX11_missesOf 5 (109)) (k5 : qW → Int32 → Int32 → Int32 → Int32 → Option (Int32 × qW)) (hk5 : ∀ (w : qW) (l1 : Int32) (l2 : Int32) (l3 : Int32) (l4 : Int32), q_Ev E Γ 5 (q_Fi E Γ cX11_missesOf) 5 [some (.ref 48), some (.int l1), some (.int l2), some (.int l3), some (.int l4)] [] w (k5 w l1 l2 l3 l4)) (w : qW) (l1 : Int32) (l2 : Int32) (l4 : Int32) (s0 : Int32) (s1 : Int32) : q_Ev E Γ 5 (q_Fi E Γ cX11_missesOf) 39 [some (.ref 48), some (.int l1), some (.int l2), none, some (.int l4)] [.int s0, .int s1] w (f_X11_missesOf_B39 k5 w l1 l2 l4 s0 s1) := by
  unfold f_X11_missesOf_B39
  refine e_iadd G (pc := 39) dX11_missesOf_39 ?_
  refine e_ti (fun v1 => ?_)
  refine e_istore_n G (pc := 40) (L' := [some (.ref 48), some (.int l1), some (.int l2), some (.int v1), some (.int l4)]) dX11_missesOf_40 rfl (Nat.le_of_ble_eq_true rfl) rfl ?_
  refine e_iinc G (pc := 41) (x := l4) (v := l4 + 1) (L' := fun v2 => [some (.ref 48), some (.int l1), some (.int l2), some (.int v1), some (.int v2)]) dX11_missesOf_41 (Nat.le_of_ble_eq_true rfl) rfl (by rfl) (fun _ => rfl) (fun v2 => ?_)
  refine e_goto G (pc := 44) (tgt := 5) dX11_missesOf_44 (by decide) ?_
  exact hk5 w l1 l2 v1 v2 
set_option maxRecDepth 100000 in
set_option maxHeartbeats 4000000 in
theorem t_X11_missesOf_B38 {E : qE} {Γ : qC} (G : q_Ok E Γ RX11 cX11_missesOf 5 (109)) (k5 : qW → Int32 → Int32 → Int32 → Int32 → Option (Int32 × qW)) (hk5 : ∀ (w : qW) (l1 : Int32) (l2 : Int32) (l3 : Int32) (l4 : Int32), q_Ev E Γ 5 (q_Fi E Γ cX11_missesOf) 5 [some (.ref 48), some (.int l1), some (.int l2), some (.int l3), some (.int l4)] [] w (k5 w l1 l2 l3 l4)) (w : qW) (l1 : Int32) (l2 : Int32) (l4 : Int32) (s0 : Int32) : q_Ev E Γ 5 (q_Fi E Γ cX11_missesOf) 38 [some (.ref 48), some (.int l1), some (.int l2), none, some (.int l4)] [.int s0] w (f_X11_missesOf_B38 k5 w l1 l2 l4 s0) := by
  unfold f_X11_missesOf_B38
  refine e_iconst G (pc := 38) (v := 0) dX11_missesOf_38 (by decide) ?_
  exact t_X11_missesOf_B39 G k5 hk5 w l1 l2 l4 0 s0 
set_option maxRecDepth 100000 in
set_option maxHeartbeats 4000000 in
theorem t_X11_missesOf_B5 {E : qE} {Γ : qC} (G : q_Ok E Γ RX11 cX11_missesOf 5 (109)) (k5 : qW → Int32 → Int32 → Int32 → Int32 → Option (Int32 × qW)) (hk5 : ∀ (w : qW) (l1 : Int32) (l2 : Int32) (l3 : Int32) (l4 : Int32), q_Ev E Γ 5 (q_Fi E Γ cX11_missesOf) 5 [some (.ref 48), some (.int l1), some (.int l2), some (.int l3), some (.int l4)] [] w (k5 w l1 l2 l3 l4)) (w : qW) (l1 : Int32) (l2 : Int32) (l3 : Int32) (l4 : Int32) : q_Ev E Γ 5 (q_Fi E Γ cX11_missesOf) 5 [some (.ref 48), some (.int l1), some (.int l2), some (.int l3), some (.int l4)] [] w (f_X11_missesOf_B5 k5 w l1 l2 l3 l4) := by
  unfold f_X11_missesOf_B5
  refine e_iload G (pc := 5) dX11_missesOf_5 rfl ?_
  refine e_bipush G (pc := 7) (v := 12) dX11_missesOf_7 (by decide) ?_
  refine e_icmp_ge G (pc := 9) (tgt := 47) dX11_missesOf_9 (by decide) ?_ ?_
  · refine e_iload_n G (pc := 47) dX11_missesOf_47 rfl rfl ?_
    exact e_iret dX11_missesOf_48
  · refine e_iload_n G (pc := 12) dX11_missesOf_12 rfl rfl ?_
    refine e_aload_n G (pc := 13) dX11_missesOf_13 rfl rfl ?_
    refine e_iload_n G (pc := 14) dX11_missesOf_14 rfl rfl ?_
    refine e_iload G (pc := 15) dX11_missesOf_15 rfl ?_
    refine e_cVi G (pc := 17) (As := [.int l1, .int l4]) (st := [.int l3]) cv_X11_213 (c_X11_wants w l1 l4 ) sh_48 (Nat.le_of_ble_eq_true rfl) rfl (Nat.le_of_ble_eq_true rfl) dX11_missesOf_17 (fun r1 w2 => ?_)
    refine e_if_eq G (pc := 20) (tgt := 38) dX11_missesOf_20 (by decide) ?_ ?_
    · refine e_wk (L' := [some (.ref 48), some (.int l1), some (.int l2), none, some (.int l4)]) (And.intro rfl (And.intro rfl (And.intro rfl (And.intro rfl (trivial))))) ?_
      exact t_X11_missesOf_B38 G k5 hk5 w2 l1 l2 l4 l3 
    · refine e_aload_n G (pc := 23) dX11_missesOf_23 rfl rfl ?_
      refine e_iload_n G (pc := 24) dX11_missesOf_24 rfl rfl ?_
      refine e_iload G (pc := 25) dX11_missesOf_25 rfl ?_
      refine e_iload_n G (pc := 27) dX11_missesOf_27 rfl rfl ?_
      refine e_cVi G (pc := 28) (As := [.int l1, .int l4, .int l2]) (st := [.int l3]) cv_X11_216 (c_X11_isServed w2 l1 l4 l2 ) sh_48 (Nat.le_of_ble_eq_true rfl) rfl (Nat.le_of_ble_eq_true rfl) dX11_missesOf_28 (fun r3 w4 => ?_)
      refine e_if_ne G (pc := 31) (tgt := 38) dX11_missesOf_31 (by decide) ?_ ?_
      · refine e_wk (L' := [some (.ref 48), some (.int l1), some (.int l2), none, some (.int l4)]) (And.intro rfl (And.intro rfl (And.intro rfl (And.intro rfl (trivial))))) ?_
        exact t_X11_missesOf_B38 G k5 hk5 w4 l1 l2 l4 l3 
      · refine e_iconst G (pc := 34) (v := 1) dX11_missesOf_34 (by decide) ?_
        refine e_goto G (pc := 35) (tgt := 39) dX11_missesOf_35 (by decide) ?_
        refine e_wk (L' := [some (.ref 48), some (.int l1), some (.int l2), none, some (.int l4)]) (And.intro rfl (And.intro rfl (And.intro rfl (And.intro rfl (trivial))))) ?_
        exact t_X11_missesOf_B39 G k5 hk5 w4 l1 l2 l4 1 l3 
set_option maxRecDepth 100000 in
set_option maxHeartbeats 4000000 in
theorem t_X11_missesOf_R5 {E : qE} {Γ : qC} (G : q_Ok E Γ RX11 cX11_missesOf 5 (109)) : ∀ (fuel : Nat) (w : qW) (l1 : Int32) (l2 : Int32) (l3 : Int32) (l4 : Int32) , q_Ev E Γ 5 (q_Fi E Γ cX11_missesOf) 5 [some (.ref 48), some (.int l1), some (.int l2), some (.int l3), some (.int l4)] [] w (f_X11_missesOf_R5 fuel w l1 l2 l3 l4) := by
  intro fuel
  induction fuel with
  | zero => intros; exact e_none
  | succ fuel ih =>
    intro w l1 l2 l3 l4 
    exact t_X11_missesOf_B5 G _ ih w l1 l2 l3 l4 
set_option maxRecDepth 100000 in
set_option maxHeartbeats 4000000 in
theorem t_X11_missesOf {E : qE} {Γ : qC} (G : q_Ok E Γ RX11 cX11_missesOf 5 (109)) (w : qW) (a1 : Int32) (a2 : Int32) : q_Ev E Γ 5 (q_Fi E Γ cX11_missesOf) 0 [some (.ref 48), some (.int a1), some (.int a2), none, none] [] w (f_X11_missesOf w a1 a2) := by
  unfold f_X11_missesOf
  refine e_iconst G (pc := 0) (v := 0) dX11_missesOf_0 (by decide) ?_
  refine e_istore_n G (pc := 1) (L' := [some (.ref 48), some (.int a1), some (.int a2), some (.int 0), none]) dX11_missesOf_1 rfl (Nat.le_of_ble_eq_true rfl) rfl ?_
  refine e_iconst G (pc := 2) (v := 0) dX11_missesOf_2 (by decide) ?_
  refine e_istore G (pc := 3) (L' := [some (.ref 48), some (.int a1), some (.int a2), some (.int 0), some (.int 0)]) dX11_missesOf_3 (Nat.le_of_ble_eq_true rfl) rfl ?_
  exact t_X11_missesOf_R5 G  q_fuel w a1 a2 0 0 
set_option maxRecDepth 100000 in
set_option maxHeartbeats 4000000 in
theorem c_X11_missesOf (w : qW) (a1 : Int32) (a2 : Int32) : q_AC q_vi (some .int) (109) yX11_missesOf cX11_missesOf 5 [.ref 48, .int a1, .int a2] w (f_X11_missesOf w a1 a2) := q_met_i (k := 2) (by decide +kernel) rfl rfl rfl (fun _ _ G => t_X11_missesOf G w a1 a2 )
set_option maxRecDepth 100000 in
set_option maxHeartbeats 4000000 in
theorem t_X11_missesAll_B4 {E : qE} {Γ : qC} (G : q_Ok E Γ RX11 cX11_missesAll 4 (110)) (k4 : qW → Int32 → Int32 → Int32 → Option (Int32 × qW)) (hk4 : ∀ (w : qW) (l1 : Int32) (l2 : Int32) (l3 : Int32), q_Ev E Γ 4 (q_Fi E Γ cX11_missesAll) 4 [some (.ref 48), some (.int l1), some (.int l2), some (.int l3)] [] w (k4 w l1 l2 l3)) (w : qW) (l1 : Int32) (l2 : Int32) (l3 : Int32) : q_Ev E Γ 4 (q_Fi E Γ cX11_missesAll) 4 [some (.ref 48), some (.int l1), some (.int l2), some (.int l3)] [] w (f_X11_missesAll_B4 k4 w l1 l2 l3) := by
  unfold f_X11_missesAll_B4
  refine e_iload_n G (pc := 4) dX11_missesAll_4 rfl rfl ?_
  refine e_aload_n G (pc := 5) dX11_missesAll_5 rfl rfl ?_
  refine e_getI G (pc := 6) sh_48 rfl lk_X11_82 dX11_missesAll_6 ?_
  refine e_icmp_ge G (pc := 9) (tgt := 27) dX11_missesAll_9 (by decide) ?_ ?_
  · refine e_iload_n G (pc := 27) dX11_missesAll_27 rfl rfl ?_
    exact e_iret dX11_missesAll_28
  · refine e_iload_n G (pc := 12) dX11_missesAll_12 rfl rfl ?_
    refine e_aload_n G (pc := 13) dX11_missesAll_13 rfl rfl ?_
    refine e_iload_n G (pc := 14) dX11_missesAll_14 rfl rfl ?_
    refine e_iload_n G (pc := 15) dX11_missesAll_15 rfl rfl ?_
    refine e_cVi G (pc := 16) (As := [.int l3, .int l1]) (st := [.int l2]) cv_X11_220 (c_X11_missesOf w l3 l1 ) sh_48 (Nat.le_of_ble_eq_true rfl) rfl (Nat.le_of_ble_eq_true rfl) dX11_missesAll_16 (fun r1 w2 => ?_)
    refine e_iadd G (pc := 19) dX11_missesAll_19 ?_
    refine e_ti (fun v3 => ?_)
    refine e_istore_n G (pc := 20) (L' := [some (.ref 48), some (.int l1), some (.int v3), some (.int l3)]) dX11_missesAll_20 rfl (Nat.le_of_ble_eq_true rfl) rfl ?_
    refine e_iinc G (pc := 21) (x := l3) (v := l3 + 1) (L' := fun v4 => [some (.ref 48), some (.int l1), some (.int v3), some (.int v4)]) dX11_missesAll_21 (Nat.le_of_ble_eq_true rfl) rfl (by rfl) (fun _ => rfl) (fun v4 => ?_)
    refine e_goto G (pc := 24) (tgt := 4) dX11_missesAll_24 (by decide) ?_
    exact hk4 w2 l1 v3 v4 
set_option maxRecDepth 100000 in
set_option maxHeartbeats 4000000 in
theorem t_X11_missesAll_R4 {E : qE} {Γ : qC} (G : q_Ok E Γ RX11 cX11_missesAll 4 (110)) : ∀ (fuel : Nat) (w : qW) (l1 : Int32) (l2 : Int32) (l3 : Int32) , q_Ev E Γ 4 (q_Fi E Γ cX11_missesAll) 4 [some (.ref 48), some (.int l1), some (.int l2), some (.int l3)] [] w (f_X11_missesAll_R4 fuel w l1 l2 l3) := by
  intro fuel
  induction fuel with
  | zero => intros; exact e_none
  | succ fuel ih =>
    intro w l1 l2 l3 
    exact t_X11_missesAll_B4 G _ ih w l1 l2 l3 
set_option maxRecDepth 100000 in
set_option maxHeartbeats 4000000 in
theorem t_X11_missesAll {E : qE} {Γ : qC} (G : q_Ok E Γ RX11 cX11_missesAll 4 (110)) (w : qW) (a1 : Int32) : q_Ev E Γ 4 (q_Fi E Γ cX11_missesAll) 0 [some (.ref 48), some (.int a1), none, none] [] w (f_X11_missesAll w a1) := by
  unfold f_X11_missesAll
  refine e_iconst G (pc := 0) (v := 0) dX11_missesAll_0 (by decide) ?_
  refine e_istore_n G (pc := 1) (L' := [some (.ref 48), some (.int a1), some (.int 0), none]) dX11_missesAll_1 rfl (Nat.le_of_ble_eq_true rfl) rfl ?_
  refine e_iconst G (pc := 2) (v := 0) dX11_missesAll_2 (by decide) ?_
  refine e_istore_n G (pc := 3) (L' := [some (.ref 48), some (.int a1), some (.int 0), some (.int 0)]) dX11_missesAll_3 rfl (Nat.le_of_ble_eq_true rfl) rfl ?_
  exact t_X11_missesAll_R4 G  q_fuel w a1 0 0 
set_option maxRecDepth 100000 in
set_option maxHeartbeats 4000000 in
theorem c_X11_missesAll (w : qW) (a1 : Int32) : q_AC q_vi (some .int) (110) yX11_missesAll cX11_missesAll 4 [.ref 48, .int a1] w (f_X11_missesAll w a1) := q_met_i (k := 2) (by decide +kernel) rfl rfl rfl (fun _ _ G => t_X11_missesAll G w a1 )
