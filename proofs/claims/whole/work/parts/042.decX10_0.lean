theorem dX10_init_0 : decode cX10_init 0 = .ok (.aload_n 0, 1) := by decide +kernel
theorem dX10_init_1 : decode cX10_init 1 = .ok (.invokespecial 1, 3) := by decide +kernel
theorem dX10_init_4 : decode cX10_init 4 = .ok (.aload_n 0, 1) := by decide +kernel
theorem dX10_init_5 : decode cX10_init 5 = .ok (.new 7, 3) := by decide +kernel
theorem dX10_init_8 : decode cX10_init 8 = .ok (.dup, 1) := by decide +kernel
theorem dX10_init_9 : decode cX10_init 9 = .ok (.invokespecial 9, 3) := by decide +kernel
theorem dX10_init_12 : decode cX10_init 12 = .ok (.putfield 10, 3) := by decide +kernel
theorem dX10_init_15 : decode cX10_init 15 = .ok (.aload_n 0, 1) := by decide +kernel
theorem dX10_init_16 : decode cX10_init 16 = .ok (.new 16, 3) := by decide +kernel
theorem dX10_init_19 : decode cX10_init 19 = .ok (.dup, 1) := by decide +kernel
theorem dX10_init_20 : decode cX10_init 20 = .ok (.invokespecial 18, 3) := by decide +kernel
theorem dX10_init_23 : decode cX10_init 23 = .ok (.putfield 19, 3) := by decide +kernel
theorem dX10_init_26 : decode cX10_init 26 = .ok (.aload_n 0, 1) := by decide +kernel
theorem dX10_init_27 : decode cX10_init 27 = .ok (.new 23, 3) := by decide +kernel
theorem dX10_init_30 : decode cX10_init 30 = .ok (.dup, 1) := by decide +kernel
theorem dX10_init_31 : decode cX10_init 31 = .ok (.aload_n 0, 1) := by decide +kernel
theorem dX10_init_32 : decode cX10_init 32 = .ok (.getfield 10, 3) := by decide +kernel
theorem dX10_init_35 : decode cX10_init 35 = .ok (.aload_n 0, 1) := by decide +kernel
theorem dX10_init_36 : decode cX10_init 36 = .ok (.getfield 19, 3) := by decide +kernel
theorem dX10_init_39 : decode cX10_init 39 = .ok (.invokespecial 25, 3) := by decide +kernel
theorem dX10_init_42 : decode cX10_init 42 = .ok (.putfield 28, 3) := by decide +kernel
theorem dX10_init_45 : decode cX10_init 45 = .ok (.aload_n 0, 1) := by decide +kernel
theorem dX10_init_46 : decode cX10_init 46 = .ok (.new 32, 3) := by decide +kernel
theorem dX10_init_49 : decode cX10_init 49 = .ok (.dup, 1) := by decide +kernel
theorem dX10_init_50 : decode cX10_init 50 = .ok (.aload_n 0, 1) := by decide +kernel
theorem dX10_init_51 : decode cX10_init 51 = .ok (.getfield 10, 3) := by decide +kernel
theorem dX10_init_54 : decode cX10_init 54 = .ok (.aload_n 0, 1) := by decide +kernel
theorem dX10_init_55 : decode cX10_init 55 = .ok (.getfield 28, 3) := by decide +kernel
theorem dX10_init_58 : decode cX10_init 58 = .ok (.invokespecial 34, 3) := by decide +kernel
theorem dX10_init_61 : decode cX10_init 61 = .ok (.putfield 37, 3) := by decide +kernel
theorem dX10_init_64 : decode cX10_init 64 = .ok (.aload_n 0, 1) := by decide +kernel
theorem dX10_init_65 : decode cX10_init 65 = .ok (.new 41, 3) := by decide +kernel
theorem dX10_init_68 : decode cX10_init 68 = .ok (.dup, 1) := by decide +kernel
theorem dX10_init_69 : decode cX10_init 69 = .ok (.aload_n 0, 1) := by decide +kernel
theorem dX10_init_70 : decode cX10_init 70 = .ok (.getfield 10, 3) := by decide +kernel
theorem dX10_init_73 : decode cX10_init 73 = .ok (.aload_n 0, 1) := by decide +kernel
theorem dX10_init_74 : decode cX10_init 74 = .ok (.getfield 28, 3) := by decide +kernel
theorem dX10_init_77 : decode cX10_init 77 = .ok (.invokespecial 43, 3) := by decide +kernel
theorem dX10_init_80 : decode cX10_init 80 = .ok (.putfield 44, 3) := by decide +kernel
theorem dX10_init_83 : decode cX10_init 83 = .ok (.aload_n 0, 1) := by decide +kernel
theorem dX10_init_84 : decode cX10_init 84 = .ok (.new 48, 3) := by decide +kernel
theorem dX10_init_87 : decode cX10_init 87 = .ok (.dup, 1) := by decide +kernel
theorem dX10_init_88 : decode cX10_init 88 = .ok (.aload_n 0, 1) := by decide +kernel
theorem dX10_init_89 : decode cX10_init 89 = .ok (.getfield 10, 3) := by decide +kernel
theorem dX10_init_92 : decode cX10_init 92 = .ok (.aload_n 0, 1) := by decide +kernel
theorem dX10_init_93 : decode cX10_init 93 = .ok (.getfield 28, 3) := by decide +kernel
theorem dX10_init_96 : decode cX10_init 96 = .ok (.invokespecial 50, 3) := by decide +kernel
theorem dX10_init_99 : decode cX10_init 99 = .ok (.putfield 51, 3) := by decide +kernel
theorem dX10_init_102 : decode cX10_init 102 = .ok (.aload_n 0, 1) := by decide +kernel
theorem dX10_init_103 : decode cX10_init 103 = .ok (.new 55, 3) := by decide +kernel
theorem dX10_init_106 : decode cX10_init 106 = .ok (.dup, 1) := by decide +kernel
theorem dX10_init_107 : decode cX10_init 107 = .ok (.aload_n 0, 1) := by decide +kernel
theorem dX10_init_108 : decode cX10_init 108 = .ok (.getfield 10, 3) := by decide +kernel
theorem dX10_init_111 : decode cX10_init 111 = .ok (.invokespecial 57, 3) := by decide +kernel
theorem dX10_init_114 : decode cX10_init 114 = .ok (.putfield 60, 3) := by decide +kernel
theorem dX10_init_117 : decode cX10_init 117 = .ok (.aload_n 0, 1) := by decide +kernel
theorem dX10_init_118 : decode cX10_init 118 = .ok (.new 64, 3) := by decide +kernel
theorem dX10_init_121 : decode cX10_init 121 = .ok (.dup, 1) := by decide +kernel
theorem dX10_init_122 : decode cX10_init 122 = .ok (.aload_n 0, 1) := by decide +kernel
theorem dX10_init_123 : decode cX10_init 123 = .ok (.getfield 10, 3) := by decide +kernel
theorem dX10_init_126 : decode cX10_init 126 = .ok (.invokespecial 66, 3) := by decide +kernel
theorem dX10_init_129 : decode cX10_init 129 = .ok (.putfield 67, 3) := by decide +kernel
theorem dX10_init_132 : decode cX10_init 132 = .ok (.aload_n 0, 1) := by decide +kernel
theorem dX10_init_133 : decode cX10_init 133 = .ok (.new 71, 3) := by decide +kernel
theorem dX10_init_136 : decode cX10_init 136 = .ok (.dup, 1) := by decide +kernel
theorem dX10_init_137 : decode cX10_init 137 = .ok (.invokespecial 73, 3) := by decide +kernel
theorem dX10_init_140 : decode cX10_init 140 = .ok (.putfield 74, 3) := by decide +kernel
theorem dX10_init_143 : decode cX10_init 143 = .ok (.aload_n 0, 1) := by decide +kernel
theorem dX10_init_144 : decode cX10_init 144 = .ok (.bipush 6, 2) := by decide +kernel
theorem dX10_init_146 : decode cX10_init 146 = .ok (.anewarray 78, 3) := by decide +kernel
theorem dX10_init_149 : decode cX10_init 149 = .ok (.putfield 80, 3) := by decide +kernel
theorem dX10_init_152 : decode cX10_init 152 = .ok (.iconst 0, 1) := by decide +kernel
theorem dX10_init_153 : decode cX10_init 153 = .ok (.istore_n 1, 1) := by decide +kernel
theorem dX10_init_154 : decode cX10_init 154 = .ok (.iload_n 1, 1) := by decide +kernel
theorem dX10_init_155 : decode cX10_init 155 = .ok (.bipush 6, 2) := by decide +kernel
theorem dX10_init_157 : decode cX10_init 157 = .ok (.if_icmp .ge 22, 3) := by decide +kernel
theorem dX10_init_160 : decode cX10_init 160 = .ok (.aload_n 0, 1) := by decide +kernel
theorem dX10_init_161 : decode cX10_init 161 = .ok (.getfield 80, 3) := by decide +kernel
theorem dX10_init_164 : decode cX10_init 164 = .ok (.iload_n 1, 1) := by decide +kernel
theorem dX10_init_165 : decode cX10_init 165 = .ok (.new 78, 3) := by decide +kernel
theorem dX10_init_168 : decode cX10_init 168 = .ok (.dup, 1) := by decide +kernel
theorem dX10_init_169 : decode cX10_init 169 = .ok (.invokespecial 84, 3) := by decide +kernel
theorem dX10_init_172 : decode cX10_init 172 = .ok (.aastore, 1) := by decide +kernel
theorem dX10_init_173 : decode cX10_init 173 = .ok (.iinc 1 1, 3) := by decide +kernel
theorem dX10_init_176 : decode cX10_init 176 = .ok (.goto (-22), 3) := by decide +kernel
theorem dX10_init_179 : decode cX10_init 179 = .ok (.return_, 1) := by decide +kernel
theorem dX10_man_0 : decode cX10_man 0 = .ok (.aload_n 0, 1) := by decide +kernel
theorem dX10_man_1 : decode cX10_man 1 = .ok (.getfield 10, 3) := by decide +kernel
theorem dX10_man_4 : decode cX10_man 4 = .ok (.iconst 0, 1) := by decide +kernel
theorem dX10_man_5 : decode cX10_man 5 = .ok (.iload_n 1, 1) := by decide +kernel
theorem dX10_man_6 : decode cX10_man 6 = .ok (.invokevirtual 85, 3) := by decide +kernel
theorem dX10_man_9 : decode cX10_man 9 = .ok (.ifCond .eq 15, 3) := by decide +kernel
theorem dX10_man_12 : decode cX10_man 12 = .ok (.aload_n 0, 1) := by decide +kernel
theorem dX10_man_13 : decode cX10_man 13 = .ok (.getfield 10, 3) := by decide +kernel
theorem dX10_man_16 : decode cX10_man 16 = .ok (.iconst 1, 1) := by decide +kernel
theorem dX10_man_17 : decode cX10_man 17 = .ok (.iload_n 2, 1) := by decide +kernel
theorem dX10_man_18 : decode cX10_man 18 = .ok (.invokevirtual 85, 3) := by decide +kernel
theorem dX10_man_21 : decode cX10_man 21 = .ok (.ifCond .ne 5, 3) := by decide +kernel
theorem dX10_man_24 : decode cX10_man 24 = .ok (.iconst (-1), 1) := by decide +kernel
theorem dX10_man_25 : decode cX10_man 25 = .ok (.ireturn, 1) := by decide +kernel
theorem dX10_man_26 : decode cX10_man 26 = .ok (.aload_n 0, 1) := by decide +kernel
theorem dX10_man_27 : decode cX10_man 27 = .ok (.getfield 10, 3) := by decide +kernel
theorem dX10_man_30 : decode cX10_man 30 = .ok (.iload_n 1, 1) := by decide +kernel
theorem dX10_man_31 : decode cX10_man 31 = .ok (.iload_n 2, 1) := by decide +kernel
theorem dX10_man_32 : decode cX10_man 32 = .ok (.invokevirtual 89, 3) := by decide +kernel
theorem dX10_man_35 : decode cX10_man 35 = .ok (.ireturn, 1) := by decide +kernel
theorem dX10_sitter_0 : decode cX10_sitter 0 = .ok (.aload_n 0, 1) := by decide +kernel
theorem dX10_sitter_1 : decode cX10_sitter 1 = .ok (.getfield 10, 3) := by decide +kernel
theorem dX10_sitter_4 : decode cX10_sitter 4 = .ok (.iconst 4, 1) := by decide +kernel
theorem dX10_sitter_5 : decode cX10_sitter 5 = .ok (.iload_n 1, 1) := by decide +kernel
theorem dX10_sitter_6 : decode cX10_sitter 6 = .ok (.invokevirtual 85, 3) := by decide +kernel
theorem dX10_sitter_9 : decode cX10_sitter 9 = .ok (.ifCond .eq 15, 3) := by decide +kernel
theorem dX10_sitter_12 : decode cX10_sitter 12 = .ok (.aload_n 0, 1) := by decide +kernel
theorem dX10_sitter_13 : decode cX10_sitter 13 = .ok (.getfield 10, 3) := by decide +kernel
theorem dX10_sitter_16 : decode cX10_sitter 16 = .ok (.iconst 5, 1) := by decide +kernel
theorem dX10_sitter_17 : decode cX10_sitter 17 = .ok (.iload_n 2, 1) := by decide +kernel
theorem dX10_sitter_18 : decode cX10_sitter 18 = .ok (.invokevirtual 85, 3) := by decide +kernel
theorem dX10_sitter_21 : decode cX10_sitter 21 = .ok (.ifCond .ne 5, 3) := by decide +kernel
theorem dX10_sitter_24 : decode cX10_sitter 24 = .ok (.iconst (-1), 1) := by decide +kernel
theorem dX10_sitter_25 : decode cX10_sitter 25 = .ok (.ireturn, 1) := by decide +kernel
theorem dX10_sitter_26 : decode cX10_sitter 26 = .ok (.aload_n 0, 1) := by decide +kernel
theorem dX10_sitter_27 : decode cX10_sitter 27 = .ok (.getfield 10, 3) := by decide +kernel
theorem dX10_sitter_30 : decode cX10_sitter 30 = .ok (.iload_n 1, 1) := by decide +kernel
theorem dX10_sitter_31 : decode cX10_sitter 31 = .ok (.iload_n 2, 1) := by decide +kernel
theorem dX10_sitter_32 : decode cX10_sitter 32 = .ok (.bipush 6, 2) := by decide +kernel
theorem dX10_sitter_34 : decode cX10_sitter 34 = .ok (.invokevirtual 93, 3) := by decide +kernel
theorem dX10_sitter_37 : decode cX10_sitter 37 = .ok (.ireturn, 1) := by decide +kernel
theorem dX10_sitters_0 : decode cX10_sitters 0 = .ok (.iload_n 1, 1) := by decide +kernel
theorem dX10_sitters_1 : decode cX10_sitters 1 = .ok (.invokestatic 97, 3) := by decide +kernel
theorem dX10_sitters_4 : decode cX10_sitters 4 = .ok (.ifCond .eq 14, 3) := by decide +kernel
theorem dX10_sitters_7 : decode cX10_sitters 7 = .ok (.iload_n 3, 1) := by decide +kernel
theorem dX10_sitters_8 : decode cX10_sitters 8 = .ok (.iconst 1, 1) := by decide +kernel
theorem dX10_sitters_9 : decode cX10_sitters 9 = .ok (.if_icmp .lt 9, 3) := by decide +kernel
theorem dX10_sitters_12 : decode cX10_sitters 12 = .ok (.iload_n 3, 1) := by decide +kernel
theorem dX10_sitters_13 : decode cX10_sitters 13 = .ok (.bipush 8, 2) := by decide +kernel
theorem dX10_sitters_15 : decode cX10_sitters 15 = .ok (.if_icmp .le 5, 3) := by decide +kernel
theorem dX10_sitters_18 : decode cX10_sitters 18 = .ok (.iconst (-1), 1) := by decide +kernel
theorem dX10_sitters_19 : decode cX10_sitters 19 = .ok (.ireturn, 1) := by decide +kernel
theorem dX10_sitters_20 : decode cX10_sitters 20 = .ok (.aload_n 0, 1) := by decide +kernel
theorem dX10_sitters_21 : decode cX10_sitters 21 = .ok (.getfield 80, 3) := by decide +kernel
theorem dX10_sitters_24 : decode cX10_sitters 24 = .ok (.iload_n 1, 1) := by decide +kernel
theorem dX10_sitters_25 : decode cX10_sitters 25 = .ok (.aaload, 1) := by decide +kernel
theorem dX10_sitters_26 : decode cX10_sitters 26 = .ok (.astore 4, 2) := by decide +kernel
theorem dX10_sitters_28 : decode cX10_sitters 28 = .ok (.aload 4, 2) := by decide +kernel
theorem dX10_sitters_30 : decode cX10_sitters 30 = .ok (.invokevirtual 101, 3) := by decide +kernel
theorem dX10_sitters_33 : decode cX10_sitters 33 = .ok (.ifCond .eq 5, 3) := by decide +kernel
theorem dX10_sitters_36 : decode cX10_sitters 36 = .ok (.iconst 0, 1) := by decide +kernel
theorem dX10_sitters_37 : decode cX10_sitters 37 = .ok (.ireturn, 1) := by decide +kernel
theorem dX10_sitters_38 : decode cX10_sitters 38 = .ok (.aload 4, 2) := by decide +kernel
theorem dX10_sitters_40 : decode cX10_sitters 40 = .ok (.iconst 1, 1) := by decide +kernel
theorem dX10_sitters_41 : decode cX10_sitters 41 = .ok (.invokevirtual 105, 3) := by decide +kernel
theorem dX10_sitters_44 : decode cX10_sitters 44 = .ok (.ifCond .ne 6, 3) := by decide +kernel
theorem dX10_sitters_47 : decode cX10_sitters 47 = .ok (.bipush (-12), 2) := by decide +kernel
theorem dX10_sitters_49 : decode cX10_sitters 49 = .ok (.ireturn, 1) := by decide +kernel
theorem dX10_sitters_50 : decode cX10_sitters 50 = .ok (.iconst 0, 1) := by decide +kernel
theorem dX10_sitters_51 : decode cX10_sitters 51 = .ok (.istore 5, 2) := by decide +kernel
theorem dX10_sitters_53 : decode cX10_sitters 53 = .ok (.iload 5, 2) := by decide +kernel
theorem dX10_sitters_55 : decode cX10_sitters 55 = .ok (.iload_n 3, 1) := by decide +kernel
theorem dX10_sitters_56 : decode cX10_sitters 56 = .ok (.if_icmp .ge 28, 3) := by decide +kernel
theorem dX10_sitters_59 : decode cX10_sitters 59 = .ok (.aload_n 0, 1) := by decide +kernel
theorem dX10_sitters_60 : decode cX10_sitters 60 = .ok (.aload 4, 2) := by decide +kernel
theorem dX10_sitters_62 : decode cX10_sitters 62 = .ok (.iload_n 2, 1) := by decide +kernel
theorem dX10_sitters_63 : decode cX10_sitters 63 = .ok (.i2l, 1) := by decide +kernel
theorem dX10_sitters_64 : decode cX10_sitters 64 = .ok (.ldc2_w 108, 3) := by decide +kernel
theorem dX10_sitters_67 : decode cX10_sitters 67 = .ok (.iload 5, 2) := by decide +kernel
theorem dX10_sitters_69 : decode cX10_sitters 69 = .ok (.i2l, 1) := by decide +kernel
theorem dX10_sitters_70 : decode cX10_sitters 70 = .ok (.lmul, 1) := by decide +kernel
theorem dX10_sitters_71 : decode cX10_sitters 71 = .ok (.ladd, 1) := by decide +kernel
theorem dX10_sitters_72 : decode cX10_sitters 72 = .ok (.invokevirtual 110, 3) := by decide +kernel
theorem dX10_sitters_75 : decode cX10_sitters 75 = .ok (.ifCond .eq 9, 3) := by decide +kernel
theorem dX10_sitters_78 : decode cX10_sitters 78 = .ok (.iinc 5 1, 3) := by decide +kernel
theorem dX10_sitters_81 : decode cX10_sitters 81 = .ok (.goto (-28), 3) := by decide +kernel
theorem dX10_sitters_84 : decode cX10_sitters 84 = .ok (.iload 5, 2) := by decide +kernel
theorem dX10_sitters_86 : decode cX10_sitters 86 = .ok (.ireturn, 1) := by decide +kernel
theorem dX10_mend_0 : decode cX10_mend 0 = .ok (.aload_n 0, 1) := by decide +kernel
theorem dX10_mend_1 : decode cX10_mend 1 = .ok (.getfield 10, 3) := by decide +kernel
theorem dX10_mend_4 : decode cX10_mend 4 = .ok (.iload_n 1, 1) := by decide +kernel
theorem dX10_mend_5 : decode cX10_mend 5 = .ok (.iload_n 2, 1) := by decide +kernel
theorem dX10_mend_6 : decode cX10_mend 6 = .ok (.invokevirtual 114, 3) := by decide +kernel
theorem dX10_mend_9 : decode cX10_mend 9 = .ok (.ifCond .eq 15, 3) := by decide +kernel
theorem dX10_mend_12 : decode cX10_mend 12 = .ok (.aload_n 0, 1) := by decide +kernel
theorem dX10_mend_13 : decode cX10_mend 13 = .ok (.getfield 10, 3) := by decide +kernel
theorem dX10_mend_16 : decode cX10_mend 16 = .ok (.iload_n 2, 1) := by decide +kernel
theorem dX10_mend_17 : decode cX10_mend 17 = .ok (.iload_n 3, 1) := by decide +kernel
theorem dX10_mend_18 : decode cX10_mend 18 = .ok (.invokevirtual 85, 3) := by decide +kernel
theorem dX10_mend_21 : decode cX10_mend 21 = .ok (.ifCond .ne 5, 3) := by decide +kernel
theorem dX10_mend_24 : decode cX10_mend 24 = .ok (.iconst (-1), 1) := by decide +kernel
theorem dX10_mend_25 : decode cX10_mend 25 = .ok (.ireturn, 1) := by decide +kernel
theorem dX10_mend_26 : decode cX10_mend 26 = .ok (.aload_n 0, 1) := by decide +kernel
theorem dX10_mend_27 : decode cX10_mend 27 = .ok (.getfield 10, 3) := by decide +kernel
theorem dX10_mend_30 : decode cX10_mend 30 = .ok (.iload_n 1, 1) := by decide +kernel
theorem dX10_mend_31 : decode cX10_mend 31 = .ok (.iload_n 2, 1) := by decide +kernel
theorem dX10_mend_32 : decode cX10_mend 32 = .ok (.invokevirtual 117, 3) := by decide +kernel
theorem dX10_mend_35 : decode cX10_mend 35 = .ok (.istore 4, 2) := by decide +kernel
theorem dX10_mend_37 : decode cX10_mend 37 = .ok (.iload 4, 2) := by decide +kernel
theorem dX10_mend_39 : decode cX10_mend 39 = .ok (.iload_n 3, 1) := by decide +kernel
theorem dX10_mend_40 : decode cX10_mend 40 = .ok (.if_icmp .eq 13, 3) := by decide +kernel
theorem dX10_mend_43 : decode cX10_mend 43 = .ok (.aload_n 0, 1) := by decide +kernel
theorem dX10_mend_44 : decode cX10_mend 44 = .ok (.getfield 60, 3) := by decide +kernel
theorem dX10_mend_47 : decode cX10_mend 47 = .ok (.iload_n 1, 1) := by decide +kernel
theorem dX10_mend_48 : decode cX10_mend 48 = .ok (.iload_n 2, 1) := by decide +kernel
theorem dX10_mend_49 : decode cX10_mend 49 = .ok (.iload_n 3, 1) := by decide +kernel
theorem dX10_mend_50 : decode cX10_mend 50 = .ok (.invokevirtual 120, 3) := by decide +kernel
theorem dX10_mend_53 : decode cX10_mend 53 = .ok (.iload 4, 2) := by decide +kernel
theorem dX10_mend_55 : decode cX10_mend 55 = .ok (.ireturn, 1) := by decide +kernel
theorem dX10_of_0 : decode cX10_of 0 = .ok (.aload_n 0, 1) := by decide +kernel
theorem dX10_of_1 : decode cX10_of 1 = .ok (.getfield 10, 3) := by decide +kernel
theorem dX10_of_4 : decode cX10_of 4 = .ok (.iload_n 1, 1) := by decide +kernel
theorem dX10_of_5 : decode cX10_of 5 = .ok (.iload_n 2, 1) := by decide +kernel
theorem dX10_of_6 : decode cX10_of 6 = .ok (.invokevirtual 114, 3) := by decide +kernel
theorem dX10_of_9 : decode cX10_of 9 = .ok (.ifCond .eq 15, 3) := by decide +kernel
theorem dX10_of_12 : decode cX10_of 12 = .ok (.aload_n 0, 1) := by decide +kernel
theorem dX10_of_13 : decode cX10_of 13 = .ok (.getfield 10, 3) := by decide +kernel
theorem dX10_of_16 : decode cX10_of 16 = .ok (.iload_n 1, 1) := by decide +kernel
theorem dX10_of_17 : decode cX10_of 17 = .ok (.iload_n 2, 1) := by decide +kernel
theorem dX10_of_18 : decode cX10_of 18 = .ok (.invokevirtual 117, 3) := by decide +kernel
theorem dX10_of_21 : decode cX10_of 21 = .ok (.goto 4, 3) := by decide +kernel
theorem dX10_of_24 : decode cX10_of 24 = .ok (.iconst (-1), 1) := by decide +kernel
theorem dX10_of_25 : decode cX10_of 25 = .ok (.ireturn, 1) := by decide +kernel
theorem dX10_feed_0 : decode cX10_feed 0 = .ok (.iload_n 1, 1) := by decide +kernel
theorem dX10_feed_1 : decode cX10_feed 1 = .ok (.ifCond .lt 10, 3) := by decide +kernel
theorem dX10_feed_4 : decode cX10_feed 4 = .ok (.iload_n 1, 1) := by decide +kernel
theorem dX10_feed_5 : decode cX10_feed 5 = .ok (.sipush 255, 3) := by decide +kernel
theorem dX10_feed_8 : decode cX10_feed 8 = .ok (.if_icmp .le 5, 3) := by decide +kernel
theorem dX10_feed_11 : decode cX10_feed 11 = .ok (.iconst (-1), 1) := by decide +kernel
theorem dX10_feed_12 : decode cX10_feed 12 = .ok (.ireturn, 1) := by decide +kernel
theorem dX10_feed_13 : decode cX10_feed 13 = .ok (.aload_n 0, 1) := by decide +kernel
theorem dX10_feed_14 : decode cX10_feed 14 = .ok (.getfield 19, 3) := by decide +kernel
theorem dX10_feed_17 : decode cX10_feed 17 = .ok (.iload_n 1, 1) := by decide +kernel
theorem dX10_feed_18 : decode cX10_feed 18 = .ok (.invokevirtual 124, 3) := by decide +kernel
theorem dX10_feed_21 : decode cX10_feed 21 = .ok (.ireturn, 1) := by decide +kernel
theorem dX10_law_0 : decode cX10_law 0 = .ok (.aload_n 0, 1) := by decide +kernel
theorem dX10_law_1 : decode cX10_law 1 = .ok (.getfield 19, 3) := by decide +kernel
theorem dX10_law_4 : decode cX10_law 4 = .ok (.invokevirtual 128, 3) := by decide +kernel
theorem dX10_law_7 : decode cX10_law 7 = .ok (.istore_n 1, 1) := by decide +kernel
theorem dX10_law_8 : decode cX10_law 8 = .ok (.iload_n 1, 1) := by decide +kernel
theorem dX10_law_9 : decode cX10_law 9 = .ok (.ifCond .ge 7, 3) := by decide +kernel
theorem dX10_law_12 : decode cX10_law 12 = .ok (.iconst 1, 1) := by decide +kernel
theorem dX10_law_13 : decode cX10_law 13 = .ok (.goto 7, 3) := by decide +kernel
theorem dX10_law_16 : decode cX10_law 16 = .ok (.bipush (-100), 2) := by decide +kernel
theorem dX10_law_18 : decode cX10_law 18 = .ok (.iload_n 1, 1) := by decide +kernel
theorem dX10_law_19 : decode cX10_law 19 = .ok (.isub, 1) := by decide +kernel
theorem dX10_law_20 : decode cX10_law 20 = .ok (.ireturn, 1) := by decide +kernel
theorem dX10_shade_0 : decode cX10_shade 0 = .ok (.iload_n 1, 1) := by decide +kernel
theorem dX10_shade_1 : decode cX10_shade 1 = .ok (.bipush 100, 2) := by decide +kernel
theorem dX10_shade_3 : decode cX10_shade 3 = .ok (.idiv, 1) := by decide +kernel
theorem dX10_shade_4 : decode cX10_shade 4 = .ok (.istore_n 3, 1) := by decide +kernel
theorem dX10_shade_5 : decode cX10_shade 5 = .ok (.iload_n 1, 1) := by decide +kernel
theorem dX10_shade_6 : decode cX10_shade 6 = .ok (.bipush 100, 2) := by decide +kernel
theorem dX10_shade_8 : decode cX10_shade 8 = .ok (.irem, 1) := by decide +kernel
theorem dX10_shade_9 : decode cX10_shade 9 = .ok (.istore 4, 2) := by decide +kernel
theorem dX10_shade_11 : decode cX10_shade 11 = .ok (.iload_n 1, 1) := by decide +kernel
theorem dX10_shade_12 : decode cX10_shade 12 = .ok (.ifCond .lt 33, 3) := by decide +kernel
theorem dX10_shade_15 : decode cX10_shade 15 = .ok (.iload_n 3, 1) := by decide +kernel
theorem dX10_shade_16 : decode cX10_shade 16 = .ok (.sipush 144, 3) := by decide +kernel
theorem dX10_shade_19 : decode cX10_shade 19 = .ok (.if_icmp .ge 26, 3) := by decide +kernel
theorem dX10_shade_22 : decode cX10_shade 22 = .ok (.iload 4, 2) := by decide +kernel
theorem dX10_shade_24 : decode cX10_shade 24 = .ok (.bipush 12, 2) := by decide +kernel
theorem dX10_shade_26 : decode cX10_shade 26 = .ok (.if_icmp .ge 19, 3) := by decide +kernel
theorem dX10_shade_29 : decode cX10_shade 29 = .ok (.iload_n 2, 1) := by decide +kernel
theorem dX10_shade_30 : decode cX10_shade 30 = .ok (.iconst (-1), 1) := by decide +kernel
theorem dX10_shade_31 : decode cX10_shade 31 = .ok (.if_icmp .lt 14, 3) := by decide +kernel
theorem dX10_shade_34 : decode cX10_shade 34 = .ok (.iload_n 2, 1) := by decide +kernel
theorem dX10_shade_35 : decode cX10_shade 35 = .ok (.aload_n 0, 1) := by decide +kernel
theorem dX10_shade_36 : decode cX10_shade 36 = .ok (.getfield 10, 3) := by decide +kernel
theorem dX10_shade_39 : decode cX10_shade 39 = .ok (.getfield 132, 3) := by decide +kernel
theorem dX10_shade_42 : decode cX10_shade 42 = .ok (.if_icmp .lt 5, 3) := by decide +kernel
theorem dX10_shade_45 : decode cX10_shade 45 = .ok (.iconst (-1), 1) := by decide +kernel
theorem dX10_shade_46 : decode cX10_shade 46 = .ok (.ireturn, 1) := by decide +kernel
theorem dX10_shade_47 : decode cX10_shade 47 = .ok (.iload_n 2, 1) := by decide +kernel
theorem dX10_shade_48 : decode cX10_shade 48 = .ok (.ifCond .ge 21, 3) := by decide +kernel
theorem dX10_shade_51 : decode cX10_shade 51 = .ok (.bipush 12, 2) := by decide +kernel
theorem dX10_shade_53 : decode cX10_shade 53 = .ok (.aload_n 0, 1) := by decide +kernel
theorem dX10_shade_54 : decode cX10_shade 54 = .ok (.getfield 28, 3) := by decide +kernel
theorem dX10_shade_57 : decode cX10_shade 57 = .ok (.iload_n 3, 1) := by decide +kernel
theorem dX10_shade_58 : decode cX10_shade 58 = .ok (.iload 4, 2) := by decide +kernel
theorem dX10_shade_60 : decode cX10_shade 60 = .ok (.invokevirtual 136, 3) := by decide +kernel
theorem dX10_shade_63 : decode cX10_shade 63 = .ok (.invokestatic 139, 3) := by decide +kernel
theorem dX10_shade_66 : decode cX10_shade 66 = .ok (.goto 14, 3) := by decide +kernel
theorem dX10_shade_69 : decode cX10_shade 69 = .ok (.aload_n 0, 1) := by decide +kernel
theorem dX10_shade_70 : decode cX10_shade 70 = .ok (.getfield 28, 3) := by decide +kernel
theorem dX10_shade_73 : decode cX10_shade 73 = .ok (.iload_n 2, 1) := by decide +kernel
theorem dX10_shade_74 : decode cX10_shade 74 = .ok (.iload_n 3, 1) := by decide +kernel
theorem dX10_shade_75 : decode cX10_shade 75 = .ok (.iload 4, 2) := by decide +kernel
theorem dX10_shade_77 : decode cX10_shade 77 = .ok (.invokevirtual 144, 3) := by decide +kernel
theorem dX10_shade_80 : decode cX10_shade 80 = .ok (.ireturn, 1) := by decide +kernel
theorem dX10_walk_0 : decode cX10_walk 0 = .ok (.iload_n 1, 1) := by decide +kernel
theorem dX10_walk_1 : decode cX10_walk 1 = .ok (.invokestatic 147, 3) := by decide +kernel
theorem dX10_walk_4 : decode cX10_walk 4 = .ok (.ifCond .eq 11, 3) := by decide +kernel
theorem dX10_walk_7 : decode cX10_walk 7 = .ok (.iload_n 2, 1) := by decide +kernel
theorem dX10_walk_8 : decode cX10_walk 8 = .ok (.iconst 2, 1) := by decide +kernel
theorem dX10_walk_9 : decode cX10_walk 9 = .ok (.invokestatic 150, 3) := by decide +kernel
theorem dX10_walk_12 : decode cX10_walk 12 = .ok (.ifCond .ne 5, 3) := by decide +kernel
theorem dX10_walk_15 : decode cX10_walk 15 = .ok (.iconst (-1), 1) := by decide +kernel
theorem dX10_walk_16 : decode cX10_walk 16 = .ok (.ireturn, 1) := by decide +kernel
theorem dX10_walk_17 : decode cX10_walk 17 = .ok (.iload_n 2, 1) := by decide +kernel
theorem dX10_walk_18 : decode cX10_walk 18 = .ok (.ifCond .ne 14, 3) := by decide +kernel
theorem dX10_walk_21 : decode cX10_walk 21 = .ok (.aload_n 0, 1) := by decide +kernel
theorem dX10_walk_22 : decode cX10_walk 22 = .ok (.getfield 37, 3) := by decide +kernel
theorem dX10_walk_25 : decode cX10_walk 25 = .ok (.iload_n 1, 1) := by decide +kernel
theorem dX10_walk_26 : decode cX10_walk 26 = .ok (.invokevirtual 153, 3) := by decide +kernel
theorem dX10_walk_29 : decode cX10_walk 29 = .ok (.goto 11, 3) := by decide +kernel
theorem dX10_walk_32 : decode cX10_walk 32 = .ok (.aload_n 0, 1) := by decide +kernel
theorem dX10_walk_33 : decode cX10_walk 33 = .ok (.getfield 37, 3) := by decide +kernel
theorem dX10_walk_36 : decode cX10_walk 36 = .ok (.iload_n 1, 1) := by decide +kernel
theorem dX10_walk_37 : decode cX10_walk 37 = .ok (.invokevirtual 156, 3) := by decide +kernel
theorem dX10_walk_40 : decode cX10_walk 40 = .ok (.ireturn, 1) := by decide +kernel
theorem dX10_served_0 : decode cX10_served 0 = .ok (.aload_n 0, 1) := by decide +kernel
theorem dX10_served_1 : decode cX10_served 1 = .ok (.getfield 10, 3) := by decide +kernel
theorem dX10_served_4 : decode cX10_served 4 = .ok (.iload_n 1, 1) := by decide +kernel
theorem dX10_served_5 : decode cX10_served 5 = .ok (.iconst 4, 1) := by decide +kernel
theorem dX10_served_6 : decode cX10_served 6 = .ok (.invokevirtual 114, 3) := by decide +kernel
theorem dX10_served_9 : decode cX10_served 9 = .ok (.ifCond .eq 11, 3) := by decide +kernel
theorem dX10_served_12 : decode cX10_served 12 = .ok (.iload_n 2, 1) := by decide +kernel
theorem dX10_served_13 : decode cX10_served 13 = .ok (.iconst 2, 1) := by decide +kernel
theorem dX10_served_14 : decode cX10_served 14 = .ok (.invokestatic 150, 3) := by decide +kernel
theorem dX10_served_17 : decode cX10_served 17 = .ok (.ifCond .ne 5, 3) := by decide +kernel
theorem dX10_served_20 : decode cX10_served 20 = .ok (.iconst (-1), 1) := by decide +kernel
theorem dX10_served_21 : decode cX10_served 21 = .ok (.ireturn, 1) := by decide +kernel
theorem dX10_served_22 : decode cX10_served 22 = .ok (.iload_n 2, 1) := by decide +kernel
theorem dX10_served_23 : decode cX10_served 23 = .ok (.ifCond .ne 14, 3) := by decide +kernel
theorem dX10_served_26 : decode cX10_served 26 = .ok (.aload_n 0, 1) := by decide +kernel
theorem dX10_served_27 : decode cX10_served 27 = .ok (.getfield 37, 3) := by decide +kernel
theorem dX10_served_30 : decode cX10_served 30 = .ok (.iload_n 1, 1) := by decide +kernel
theorem dX10_served_31 : decode cX10_served 31 = .ok (.invokevirtual 159, 3) := by decide +kernel
theorem dX10_served_34 : decode cX10_served 34 = .ok (.goto 11, 3) := by decide +kernel
theorem dX10_served_37 : decode cX10_served 37 = .ok (.aload_n 0, 1) := by decide +kernel
theorem dX10_served_38 : decode cX10_served 38 = .ok (.getfield 37, 3) := by decide +kernel
theorem dX10_served_41 : decode cX10_served 41 = .ok (.iload_n 1, 1) := by decide +kernel
theorem dX10_served_42 : decode cX10_served 42 = .ok (.invokevirtual 162, 3) := by decide +kernel
theorem dX10_served_45 : decode cX10_served 45 = .ok (.ireturn, 1) := by decide +kernel
theorem dX10_at_0 : decode cX10_at 0 = .ok (.iload_n 1, 1) := by decide +kernel
theorem dX10_at_1 : decode cX10_at 1 = .ok (.bipush 12, 2) := by decide +kernel
theorem dX10_at_3 : decode cX10_at 3 = .ok (.if_icmp .ne 15, 3) := by decide +kernel
theorem dX10_at_6 : decode cX10_at 6 = .ok (.iload_n 2, 1) := by decide +kernel
theorem dX10_at_7 : decode cX10_at 7 = .ok (.ifCond .ne 11, 3) := by decide +kernel
theorem dX10_at_10 : decode cX10_at 10 = .ok (.aload_n 0, 1) := by decide +kernel
theorem dX10_at_11 : decode cX10_at 11 = .ok (.getfield 37, 3) := by decide +kernel
theorem dX10_at_14 : decode cX10_at 14 = .ok (.invokevirtual 165, 3) := by decide +kernel
theorem dX10_at_17 : decode cX10_at 17 = .ok (.ireturn, 1) := by decide +kernel
theorem dX10_at_18 : decode cX10_at 18 = .ok (.iload_n 1, 1) := by decide +kernel
theorem dX10_at_19 : decode cX10_at 19 = .ok (.invokestatic 147, 3) := by decide +kernel
theorem dX10_at_22 : decode cX10_at 22 = .ok (.ifCond .eq 11, 3) := by decide +kernel
theorem dX10_at_25 : decode cX10_at 25 = .ok (.iload_n 2, 1) := by decide +kernel
theorem dX10_at_26 : decode cX10_at 26 = .ok (.iconst 2, 1) := by decide +kernel
theorem dX10_at_27 : decode cX10_at 27 = .ok (.invokestatic 150, 3) := by decide +kernel
theorem dX10_at_30 : decode cX10_at 30 = .ok (.ifCond .ne 5, 3) := by decide +kernel
theorem dX10_at_33 : decode cX10_at 33 = .ok (.iconst (-1), 1) := by decide +kernel
theorem dX10_at_34 : decode cX10_at 34 = .ok (.ireturn, 1) := by decide +kernel
theorem dX10_at_35 : decode cX10_at 35 = .ok (.iload_n 2, 1) := by decide +kernel
theorem dX10_at_36 : decode cX10_at 36 = .ok (.ifCond .ne 14, 3) := by decide +kernel
theorem dX10_at_39 : decode cX10_at 39 = .ok (.aload_n 0, 1) := by decide +kernel
theorem dX10_at_40 : decode cX10_at 40 = .ok (.getfield 37, 3) := by decide +kernel
theorem dX10_at_43 : decode cX10_at 43 = .ok (.iload_n 1, 1) := by decide +kernel
theorem dX10_at_44 : decode cX10_at 44 = .ok (.invokevirtual 168, 3) := by decide +kernel
theorem dX10_at_47 : decode cX10_at 47 = .ok (.goto 11, 3) := by decide +kernel
theorem dX10_at_50 : decode cX10_at 50 = .ok (.aload_n 0, 1) := by decide +kernel
theorem dX10_at_51 : decode cX10_at 51 = .ok (.getfield 37, 3) := by decide +kernel
theorem dX10_at_54 : decode cX10_at 54 = .ok (.iload_n 1, 1) := by decide +kernel
theorem dX10_at_55 : decode cX10_at 55 = .ok (.invokevirtual 171, 3) := by decide +kernel
theorem dX10_at_58 : decode cX10_at 58 = .ok (.ireturn, 1) := by decide +kernel
theorem dX10_enough_0 : decode cX10_enough 0 = .ok (.iload_n 1, 1) := by decide +kernel
theorem dX10_enough_1 : decode cX10_enough 1 = .ok (.tableswitch 85 0 4 #[35, 46, 54, 62, 77], 35) := by decide +kernel
theorem dX10_enough_36 : decode cX10_enough 36 = .ok (.aload_n 0, 1) := by decide +kernel
theorem dX10_enough_37 : decode cX10_enough 37 = .ok (.getfield 37, 3) := by decide +kernel
theorem dX10_enough_40 : decode cX10_enough 40 = .ok (.invokevirtual 174, 3) := by decide +kernel
theorem dX10_enough_43 : decode cX10_enough 43 = .ok (.invokestatic 177, 3) := by decide +kernel
theorem dX10_enough_46 : decode cX10_enough 46 = .ok (.ireturn, 1) := by decide +kernel
theorem dX10_enough_47 : decode cX10_enough 47 = .ok (.aload_n 0, 1) := by decide +kernel
theorem dX10_enough_48 : decode cX10_enough 48 = .ok (.getfield 37, 3) := by decide +kernel
theorem dX10_enough_51 : decode cX10_enough 51 = .ok (.invokevirtual 174, 3) := by decide +kernel
theorem dX10_enough_54 : decode cX10_enough 54 = .ok (.ireturn, 1) := by decide +kernel
theorem dX10_enough_55 : decode cX10_enough 55 = .ok (.aload_n 0, 1) := by decide +kernel
theorem dX10_enough_56 : decode cX10_enough 56 = .ok (.getfield 37, 3) := by decide +kernel
theorem dX10_enough_59 : decode cX10_enough 59 = .ok (.invokevirtual 182, 3) := by decide +kernel
theorem dX10_enough_62 : decode cX10_enough 62 = .ok (.ireturn, 1) := by decide +kernel
theorem dX10_enough_63 : decode cX10_enough 63 = .ok (.aload_n 0, 1) := by decide +kernel
theorem dX10_enough_64 : decode cX10_enough 64 = .ok (.getfield 10, 3) := by decide +kernel
theorem dX10_enough_67 : decode cX10_enough 67 = .ok (.aload_n 0, 1) := by decide +kernel
theorem dX10_enough_68 : decode cX10_enough 68 = .ok (.getfield 37, 3) := by decide +kernel
theorem dX10_enough_71 : decode cX10_enough 71 = .ok (.invokevirtual 182, 3) := by decide +kernel
theorem dX10_enough_74 : decode cX10_enough 74 = .ok (.invokevirtual 185, 3) := by decide +kernel
theorem dX10_enough_77 : decode cX10_enough 77 = .ok (.ireturn, 1) := by decide +kernel
theorem dX10_enough_78 : decode cX10_enough 78 = .ok (.aload_n 0, 1) := by decide +kernel
theorem dX10_enough_79 : decode cX10_enough 79 = .ok (.getfield 37, 3) := by decide +kernel
theorem dX10_enough_82 : decode cX10_enough 82 = .ok (.invokevirtual 188, 3) := by decide +kernel
theorem dX10_enough_85 : decode cX10_enough 85 = .ok (.ireturn, 1) := by decide +kernel
theorem dX10_enough_86 : decode cX10_enough 86 = .ok (.iconst (-1), 1) := by decide +kernel
theorem dX10_enough_87 : decode cX10_enough 87 = .ok (.ireturn, 1) := by decide +kernel
theorem dX10_roster_0 : decode cX10_roster 0 = .ok (.iload_n 1, 1) := by decide +kernel
theorem dX10_roster_1 : decode cX10_roster 1 = .ok (.bipush 12, 2) := by decide +kernel
theorem dX10_roster_3 : decode cX10_roster 3 = .ok (.if_icmp .ne 11, 3) := by decide +kernel
theorem dX10_roster_6 : decode cX10_roster 6 = .ok (.aload_n 0, 1) := by decide +kernel
theorem dX10_roster_7 : decode cX10_roster 7 = .ok (.getfield 37, 3) := by decide +kernel
theorem dX10_roster_10 : decode cX10_roster 10 = .ok (.invokevirtual 191, 3) := by decide +kernel
theorem dX10_roster_13 : decode cX10_roster 13 = .ok (.ireturn, 1) := by decide +kernel
theorem dX10_roster_14 : decode cX10_roster 14 = .ok (.iload_n 1, 1) := by decide +kernel
theorem dX10_roster_15 : decode cX10_roster 15 = .ok (.invokestatic 147, 3) := by decide +kernel
theorem dX10_roster_18 : decode cX10_roster 18 = .ok (.ifCond .eq 14, 3) := by decide +kernel
theorem dX10_roster_21 : decode cX10_roster 21 = .ok (.aload_n 0, 1) := by decide +kernel
theorem dX10_roster_22 : decode cX10_roster 22 = .ok (.getfield 37, 3) := by decide +kernel
theorem dX10_roster_25 : decode cX10_roster 25 = .ok (.iload_n 1, 1) := by decide +kernel
theorem dX10_roster_26 : decode cX10_roster 26 = .ok (.invokevirtual 194, 3) := by decide +kernel
theorem dX10_roster_29 : decode cX10_roster 29 = .ok (.goto 4, 3) := by decide +kernel
theorem dX10_roster_32 : decode cX10_roster 32 = .ok (.iconst (-1), 1) := by decide +kernel
theorem dX10_roster_33 : decode cX10_roster 33 = .ok (.ireturn, 1) := by decide +kernel
theorem dX10_oneMore_0 : decode cX10_oneMore 0 = .ok (.aload_n 0, 1) := by decide +kernel
theorem dX10_oneMore_1 : decode cX10_oneMore 1 = .ok (.getfield 10, 3) := by decide +kernel
theorem dX10_oneMore_4 : decode cX10_oneMore 4 = .ok (.iconst 1, 1) := by decide +kernel
theorem dX10_oneMore_5 : decode cX10_oneMore 5 = .ok (.iload_n 1, 1) := by decide +kernel
theorem dX10_oneMore_6 : decode cX10_oneMore 6 = .ok (.invokevirtual 85, 3) := by decide +kernel
theorem dX10_oneMore_9 : decode cX10_oneMore 9 = .ok (.ifCond .eq 11, 3) := by decide +kernel
theorem dX10_oneMore_12 : decode cX10_oneMore 12 = .ok (.iload_n 2, 1) := by decide +kernel
theorem dX10_oneMore_13 : decode cX10_oneMore 13 = .ok (.iconst 2, 1) := by decide +kernel
theorem dX10_oneMore_14 : decode cX10_oneMore 14 = .ok (.invokestatic 150, 3) := by decide +kernel
theorem dX10_oneMore_17 : decode cX10_oneMore 17 = .ok (.ifCond .ne 5, 3) := by decide +kernel
theorem dX10_oneMore_20 : decode cX10_oneMore 20 = .ok (.iconst (-1), 1) := by decide +kernel
theorem dX10_oneMore_21 : decode cX10_oneMore 21 = .ok (.ireturn, 1) := by decide +kernel
theorem dX10_oneMore_22 : decode cX10_oneMore 22 = .ok (.aload_n 0, 1) := by decide +kernel
theorem dX10_oneMore_23 : decode cX10_oneMore 23 = .ok (.getfield 37, 3) := by decide +kernel
theorem dX10_oneMore_26 : decode cX10_oneMore 26 = .ok (.iload_n 1, 1) := by decide +kernel
theorem dX10_oneMore_27 : decode cX10_oneMore 27 = .ok (.invokevirtual 197, 3) := by decide +kernel
theorem dX10_oneMore_30 : decode cX10_oneMore 30 = .ok (.istore_n 3, 1) := by decide +kernel
theorem dX10_oneMore_31 : decode cX10_oneMore 31 = .ok (.iload_n 2, 1) := by decide +kernel
theorem dX10_oneMore_32 : decode cX10_oneMore 32 = .ok (.ifCond .ne 7, 3) := by decide +kernel
theorem dX10_oneMore_35 : decode cX10_oneMore 35 = .ok (.iload_n 3, 1) := by decide +kernel
theorem dX10_oneMore_36 : decode cX10_oneMore 36 = .ok (.goto 12, 3) := by decide +kernel
theorem dX10_oneMore_39 : decode cX10_oneMore 39 = .ok (.aload_n 0, 1) := by decide +kernel
theorem dX10_oneMore_40 : decode cX10_oneMore 40 = .ok (.getfield 37, 3) := by decide +kernel
theorem dX10_oneMore_43 : decode cX10_oneMore 43 = .ok (.iload_n 1, 1) := by decide +kernel
theorem dX10_oneMore_44 : decode cX10_oneMore 44 = .ok (.iload_n 3, 1) := by decide +kernel
theorem dX10_oneMore_45 : decode cX10_oneMore 45 = .ok (.invokevirtual 200, 3) := by decide +kernel
theorem dX10_oneMore_48 : decode cX10_oneMore 48 = .ok (.ireturn, 1) := by decide +kernel
theorem dX10_step_0 : decode cX10_step 0 = .ok (.aload_n 0, 1) := by decide +kernel
theorem dX10_step_1 : decode cX10_step 1 = .ok (.getfield 10, 3) := by decide +kernel
theorem dX10_step_4 : decode cX10_step 4 = .ok (.iload_n 1, 1) := by decide +kernel
theorem dX10_step_5 : decode cX10_step 5 = .ok (.iconst 0, 1) := by decide +kernel
theorem dX10_step_6 : decode cX10_step 6 = .ok (.invokevirtual 114, 3) := by decide +kernel
theorem dX10_step_9 : decode cX10_step 9 = .ok (.ifCond .eq 11, 3) := by decide +kernel
theorem dX10_step_12 : decode cX10_step 12 = .ok (.iload_n 2, 1) := by decide +kernel
theorem dX10_step_13 : decode cX10_step 13 = .ok (.iconst 2, 1) := by decide +kernel
theorem dX10_step_14 : decode cX10_step 14 = .ok (.invokestatic 150, 3) := by decide +kernel
theorem dX10_step_17 : decode cX10_step 17 = .ok (.ifCond .ne 5, 3) := by decide +kernel
theorem dX10_step_20 : decode cX10_step 20 = .ok (.iconst (-1), 1) := by decide +kernel
theorem dX10_step_21 : decode cX10_step 21 = .ok (.ireturn, 1) := by decide +kernel
theorem dX10_step_22 : decode cX10_step 22 = .ok (.aload_n 0, 1) := by decide +kernel
theorem dX10_step_23 : decode cX10_step 23 = .ok (.getfield 37, 3) := by decide +kernel
theorem dX10_step_26 : decode cX10_step 26 = .ok (.iload_n 1, 1) := by decide +kernel
theorem dX10_step_27 : decode cX10_step 27 = .ok (.invokevirtual 203, 3) := by decide +kernel
theorem dX10_step_30 : decode cX10_step 30 = .ok (.istore_n 3, 1) := by decide +kernel
theorem dX10_step_31 : decode cX10_step 31 = .ok (.iload_n 2, 1) := by decide +kernel
theorem dX10_step_32 : decode cX10_step 32 = .ok (.ifCond .ne 7, 3) := by decide +kernel
theorem dX10_step_35 : decode cX10_step 35 = .ok (.iload_n 3, 1) := by decide +kernel
theorem dX10_step_36 : decode cX10_step 36 = .ok (.goto 12, 3) := by decide +kernel
theorem dX10_step_39 : decode cX10_step 39 = .ok (.aload_n 0, 1) := by decide +kernel
theorem dX10_step_40 : decode cX10_step 40 = .ok (.getfield 37, 3) := by decide +kernel
theorem dX10_step_43 : decode cX10_step 43 = .ok (.iload_n 1, 1) := by decide +kernel
theorem dX10_step_44 : decode cX10_step 44 = .ok (.iload_n 3, 1) := by decide +kernel
theorem dX10_step_45 : decode cX10_step 45 = .ok (.invokevirtual 206, 3) := by decide +kernel
theorem dX10_step_48 : decode cX10_step 48 = .ok (.ireturn, 1) := by decide +kernel
theorem dX10_judge_0 : decode cX10_judge 0 = .ok (.iload_n 1, 1) := by decide +kernel
theorem dX10_judge_1 : decode cX10_judge 1 = .ok (.invokestatic 97, 3) := by decide +kernel
theorem dX10_judge_4 : decode cX10_judge 4 = .ok (.ifCond .eq 10, 3) := by decide +kernel
theorem dX10_judge_7 : decode cX10_judge 7 = .ok (.iload_n 2, 1) := by decide +kernel
theorem dX10_judge_8 : decode cX10_judge 8 = .ok (.invokestatic 147, 3) := by decide +kernel
theorem dX10_judge_11 : decode cX10_judge 11 = .ok (.ifCond .ne 5, 3) := by decide +kernel
theorem dX10_judge_14 : decode cX10_judge 14 = .ok (.iconst (-1), 1) := by decide +kernel
theorem dX10_judge_15 : decode cX10_judge 15 = .ok (.ireturn, 1) := by decide +kernel
theorem dX10_judge_16 : decode cX10_judge 16 = .ok (.aload_n 0, 1) := by decide +kernel
theorem dX10_judge_17 : decode cX10_judge 17 = .ok (.getfield 80, 3) := by decide +kernel
theorem dX10_judge_20 : decode cX10_judge 20 = .ok (.iload_n 1, 1) := by decide +kernel
theorem dX10_judge_21 : decode cX10_judge 21 = .ok (.aaload, 1) := by decide +kernel
theorem dX10_judge_22 : decode cX10_judge 22 = .ok (.iconst 0, 1) := by decide +kernel
theorem dX10_judge_23 : decode cX10_judge 23 = .ok (.invokevirtual 209, 3) := by decide +kernel
theorem dX10_judge_26 : decode cX10_judge 26 = .ok (.istore_n 3, 1) := by decide +kernel
theorem dX10_judge_27 : decode cX10_judge 27 = .ok (.iload_n 3, 1) := by decide +kernel
theorem dX10_judge_28 : decode cX10_judge 28 = .ok (.ifCond .eq 5, 3) := by decide +kernel
theorem dX10_judge_31 : decode cX10_judge 31 = .ok (.iload_n 3, 1) := by decide +kernel
theorem dX10_judge_32 : decode cX10_judge 32 = .ok (.ireturn, 1) := by decide +kernel
theorem dX10_judge_33 : decode cX10_judge 33 = .ok (.aload_n 0, 1) := by decide +kernel
theorem dX10_judge_34 : decode cX10_judge 34 = .ok (.getfield 44, 3) := by decide +kernel
theorem dX10_judge_37 : decode cX10_judge 37 = .ok (.aload_n 0, 1) := by decide +kernel
theorem dX10_judge_38 : decode cX10_judge 38 = .ok (.getfield 80, 3) := by decide +kernel
theorem dX10_judge_41 : decode cX10_judge 41 = .ok (.iload_n 1, 1) := by decide +kernel
theorem dX10_judge_42 : decode cX10_judge 42 = .ok (.aaload, 1) := by decide +kernel
theorem dX10_judge_43 : decode cX10_judge 43 = .ok (.invokevirtual 212, 3) := by decide +kernel
theorem dX10_judge_46 : decode cX10_judge 46 = .ok (.aload_n 0, 1) := by decide +kernel
theorem dX10_judge_47 : decode cX10_judge 47 = .ok (.getfield 44, 3) := by decide +kernel
theorem dX10_judge_50 : decode cX10_judge 50 = .ok (.iload_n 2, 1) := by decide +kernel
theorem dX10_judge_51 : decode cX10_judge 51 = .ok (.invokevirtual 216, 3) := by decide +kernel
theorem dX10_judge_54 : decode cX10_judge 54 = .ok (.ireturn, 1) := by decide +kernel
theorem dX10_stood_0 : decode cX10_stood 0 = .ok (.iload_n 2, 1) := by decide +kernel
theorem dX10_stood_1 : decode cX10_stood 1 = .ok (.bipush 100, 2) := by decide +kernel
theorem dX10_stood_3 : decode cX10_stood 3 = .ok (.idiv, 1) := by decide +kernel
theorem dX10_stood_4 : decode cX10_stood 4 = .ok (.istore 4, 2) := by decide +kernel
theorem dX10_stood_6 : decode cX10_stood 6 = .ok (.iload_n 2, 1) := by decide +kernel
theorem dX10_stood_7 : decode cX10_stood 7 = .ok (.bipush 100, 2) := by decide +kernel
theorem dX10_stood_9 : decode cX10_stood 9 = .ok (.irem, 1) := by decide +kernel
theorem dX10_stood_10 : decode cX10_stood 10 = .ok (.istore 5, 2) := by decide +kernel
theorem dX10_stood_12 : decode cX10_stood 12 = .ok (.iload_n 1, 1) := by decide +kernel
theorem dX10_stood_13 : decode cX10_stood 13 = .ok (.invokestatic 97, 3) := by decide +kernel
theorem dX10_stood_16 : decode cX10_stood 16 = .ok (.ifCond .eq 35, 3) := by decide +kernel
theorem dX10_stood_19 : decode cX10_stood 19 = .ok (.iload_n 2, 1) := by decide +kernel
theorem dX10_stood_20 : decode cX10_stood 20 = .ok (.ifCond .lt 31, 3) := by decide +kernel
theorem dX10_stood_23 : decode cX10_stood 23 = .ok (.iload 4, 2) := by decide +kernel
theorem dX10_stood_25 : decode cX10_stood 25 = .ok (.aload_n 0, 1) := by decide +kernel
theorem dX10_stood_26 : decode cX10_stood 26 = .ok (.getfield 10, 3) := by decide +kernel
theorem dX10_stood_29 : decode cX10_stood 29 = .ok (.getfield 132, 3) := by decide +kernel
theorem dX10_stood_32 : decode cX10_stood 32 = .ok (.if_icmp .ge 19, 3) := by decide +kernel
theorem dX10_stood_35 : decode cX10_stood 35 = .ok (.iload 5, 2) := by decide +kernel
theorem dX10_stood_37 : decode cX10_stood 37 = .ok (.invokestatic 147, 3) := by decide +kernel
theorem dX10_stood_40 : decode cX10_stood 40 = .ok (.ifCond .eq 11, 3) := by decide +kernel
theorem dX10_stood_43 : decode cX10_stood 43 = .ok (.iload_n 3, 1) := by decide +kernel
theorem dX10_stood_44 : decode cX10_stood 44 = .ok (.iconst 3, 1) := by decide +kernel
theorem dX10_stood_45 : decode cX10_stood 45 = .ok (.invokestatic 150, 3) := by decide +kernel
theorem dX10_stood_48 : decode cX10_stood 48 = .ok (.ifCond .ne 5, 3) := by decide +kernel
theorem dX10_stood_51 : decode cX10_stood 51 = .ok (.iconst (-1), 1) := by decide +kernel
theorem dX10_stood_52 : decode cX10_stood 52 = .ok (.ireturn, 1) := by decide +kernel
theorem dX10_stood_53 : decode cX10_stood 53 = .ok (.aload_n 0, 1) := by decide +kernel
theorem dX10_stood_54 : decode cX10_stood 54 = .ok (.getfield 80, 3) := by decide +kernel
theorem dX10_stood_57 : decode cX10_stood 57 = .ok (.iload_n 1, 1) := by decide +kernel
theorem dX10_stood_58 : decode cX10_stood 58 = .ok (.aaload, 1) := by decide +kernel
theorem dX10_stood_59 : decode cX10_stood 59 = .ok (.iconst 0, 1) := by decide +kernel
theorem dX10_stood_60 : decode cX10_stood 60 = .ok (.invokevirtual 209, 3) := by decide +kernel
theorem dX10_stood_63 : decode cX10_stood 63 = .ok (.istore 6, 2) := by decide +kernel
theorem dX10_stood_65 : decode cX10_stood 65 = .ok (.iload 6, 2) := by decide +kernel
theorem dX10_stood_67 : decode cX10_stood 67 = .ok (.ifCond .eq 6, 3) := by decide +kernel
theorem dX10_stood_70 : decode cX10_stood 70 = .ok (.iload 6, 2) := by decide +kernel
theorem dX10_stood_72 : decode cX10_stood 72 = .ok (.ireturn, 1) := by decide +kernel
theorem dX10_stood_73 : decode cX10_stood 73 = .ok (.aload_n 0, 1) := by decide +kernel
theorem dX10_stood_74 : decode cX10_stood 74 = .ok (.getfield 44, 3) := by decide +kernel
theorem dX10_stood_77 : decode cX10_stood 77 = .ok (.aload_n 0, 1) := by decide +kernel
theorem dX10_stood_78 : decode cX10_stood 78 = .ok (.getfield 80, 3) := by decide +kernel
theorem dX10_stood_81 : decode cX10_stood 81 = .ok (.iload_n 1, 1) := by decide +kernel
theorem dX10_stood_82 : decode cX10_stood 82 = .ok (.aaload, 1) := by decide +kernel
theorem dX10_stood_83 : decode cX10_stood 83 = .ok (.invokevirtual 212, 3) := by decide +kernel
theorem dX10_stood_86 : decode cX10_stood 86 = .ok (.aload_n 0, 1) := by decide +kernel
theorem dX10_stood_87 : decode cX10_stood 87 = .ok (.getfield 44, 3) := by decide +kernel
theorem dX10_stood_90 : decode cX10_stood 90 = .ok (.iload 4, 2) := by decide +kernel
theorem dX10_stood_92 : decode cX10_stood 92 = .ok (.iload 5, 2) := by decide +kernel
theorem dX10_stood_94 : decode cX10_stood 94 = .ok (.invokevirtual 219, 3) := by decide +kernel
theorem dX10_stood_97 : decode cX10_stood 97 = .ok (.iload_n 3, 1) := by decide +kernel
theorem dX10_stood_98 : decode cX10_stood 98 = .ok (.lookupswitch 42 #[(0, 26), (1, 34)], 26) := by decide +kernel
theorem dX10_stood_124 : decode cX10_stood 124 = .ok (.aload_n 0, 1) := by decide +kernel
theorem dX10_stood_125 : decode cX10_stood 125 = .ok (.getfield 44, 3) := by decide +kernel
theorem dX10_stood_128 : decode cX10_stood 128 = .ok (.invokevirtual 223, 3) := by decide +kernel
theorem dX10_stood_131 : decode cX10_stood 131 = .ok (.ireturn, 1) := by decide +kernel
theorem dX10_stood_132 : decode cX10_stood 132 = .ok (.aload_n 0, 1) := by decide +kernel
theorem dX10_stood_133 : decode cX10_stood 133 = .ok (.getfield 44, 3) := by decide +kernel
theorem dX10_stood_136 : decode cX10_stood 136 = .ok (.invokevirtual 226, 3) := by decide +kernel
theorem dX10_stood_139 : decode cX10_stood 139 = .ok (.ireturn, 1) := by decide +kernel
theorem dX10_stood_140 : decode cX10_stood 140 = .ok (.aload_n 0, 1) := by decide +kernel
theorem dX10_stood_141 : decode cX10_stood 141 = .ok (.getfield 44, 3) := by decide +kernel
theorem dX10_stood_144 : decode cX10_stood 144 = .ok (.invokevirtual 229, 3) := by decide +kernel
theorem dX10_stood_147 : decode cX10_stood 147 = .ok (.ireturn, 1) := by decide +kernel
theorem dX10_who_0 : decode cX10_who 0 = .ok (.iload_n 1, 1) := by decide +kernel
theorem dX10_who_1 : decode cX10_who 1 = .ok (.invokestatic 97, 3) := by decide +kernel
theorem dX10_who_4 : decode cX10_who 4 = .ok (.ifCond .eq 18, 3) := by decide +kernel
theorem dX10_who_7 : decode cX10_who 7 = .ok (.iload_n 2, 1) := by decide +kernel
theorem dX10_who_8 : decode cX10_who 8 = .ok (.invokestatic 147, 3) := by decide +kernel
theorem dX10_who_11 : decode cX10_who 11 = .ok (.ifCond .eq 11, 3) := by decide +kernel
theorem dX10_who_14 : decode cX10_who 14 = .ok (.iload_n 3, 1) := by decide +kernel
theorem dX10_who_15 : decode cX10_who 15 = .ok (.iconst 3, 1) := by decide +kernel
theorem dX10_who_16 : decode cX10_who 16 = .ok (.invokestatic 150, 3) := by decide +kernel
theorem dX10_who_19 : decode cX10_who 19 = .ok (.ifCond .ne 5, 3) := by decide +kernel
theorem dX10_who_22 : decode cX10_who 22 = .ok (.iconst (-1), 1) := by decide +kernel
theorem dX10_who_23 : decode cX10_who 23 = .ok (.ireturn, 1) := by decide +kernel
theorem dX10_who_24 : decode cX10_who 24 = .ok (.aload_n 0, 1) := by decide +kernel
theorem dX10_who_25 : decode cX10_who 25 = .ok (.getfield 80, 3) := by decide +kernel
theorem dX10_who_28 : decode cX10_who 28 = .ok (.iload_n 1, 1) := by decide +kernel
theorem dX10_who_29 : decode cX10_who 29 = .ok (.aaload, 1) := by decide +kernel
theorem dX10_who_30 : decode cX10_who 30 = .ok (.iconst 0, 1) := by decide +kernel
theorem dX10_who_31 : decode cX10_who 31 = .ok (.invokevirtual 209, 3) := by decide +kernel
theorem dX10_who_34 : decode cX10_who 34 = .ok (.istore 4, 2) := by decide +kernel
theorem dX10_who_36 : decode cX10_who 36 = .ok (.iload 4, 2) := by decide +kernel
theorem dX10_who_38 : decode cX10_who 38 = .ok (.ifCond .eq 6, 3) := by decide +kernel
theorem dX10_who_41 : decode cX10_who 41 = .ok (.iload 4, 2) := by decide +kernel
theorem dX10_who_43 : decode cX10_who 43 = .ok (.ireturn, 1) := by decide +kernel
theorem dX10_who_44 : decode cX10_who 44 = .ok (.aload_n 0, 1) := by decide +kernel
theorem dX10_who_45 : decode cX10_who 45 = .ok (.getfield 44, 3) := by decide +kernel
theorem dX10_who_48 : decode cX10_who 48 = .ok (.aload_n 0, 1) := by decide +kernel
theorem dX10_who_49 : decode cX10_who 49 = .ok (.getfield 80, 3) := by decide +kernel
theorem dX10_who_52 : decode cX10_who 52 = .ok (.iload_n 1, 1) := by decide +kernel
theorem dX10_who_53 : decode cX10_who 53 = .ok (.aaload, 1) := by decide +kernel
theorem dX10_who_54 : decode cX10_who 54 = .ok (.invokevirtual 212, 3) := by decide +kernel
theorem dX10_who_57 : decode cX10_who 57 = .ok (.aload_n 0, 1) := by decide +kernel
theorem dX10_who_58 : decode cX10_who 58 = .ok (.getfield 44, 3) := by decide +kernel
theorem dX10_who_61 : decode cX10_who 61 = .ok (.iload_n 2, 1) := by decide +kernel
theorem dX10_who_62 : decode cX10_who 62 = .ok (.invokevirtual 232, 3) := by decide +kernel
theorem dX10_who_65 : decode cX10_who 65 = .ok (.iload_n 3, 1) := by decide +kernel
theorem dX10_who_66 : decode cX10_who 66 = .ok (.lookupswitch 42 #[(0, 26), (1, 34)], 26) := by decide +kernel
theorem dX10_who_92 : decode cX10_who 92 = .ok (.aload_n 0, 1) := by decide +kernel
theorem dX10_who_93 : decode cX10_who 93 = .ok (.getfield 44, 3) := by decide +kernel
theorem dX10_who_96 : decode cX10_who 96 = .ok (.invokevirtual 236, 3) := by decide +kernel
theorem dX10_who_99 : decode cX10_who 99 = .ok (.ireturn, 1) := by decide +kernel
theorem dX10_who_100 : decode cX10_who 100 = .ok (.aload_n 0, 1) := by decide +kernel
theorem dX10_who_101 : decode cX10_who 101 = .ok (.getfield 44, 3) := by decide +kernel
theorem dX10_who_104 : decode cX10_who 104 = .ok (.invokevirtual 239, 3) := by decide +kernel
theorem dX10_who_107 : decode cX10_who 107 = .ok (.ireturn, 1) := by decide +kernel
theorem dX10_who_108 : decode cX10_who 108 = .ok (.aload_n 0, 1) := by decide +kernel
theorem dX10_who_109 : decode cX10_who 109 = .ok (.getfield 44, 3) := by decide +kernel
theorem dX10_who_112 : decode cX10_who 112 = .ok (.invokevirtual 242, 3) := by decide +kernel
theorem dX10_who_115 : decode cX10_who 115 = .ok (.ireturn, 1) := by decide +kernel
theorem dX10_wish_0 : decode cX10_wish 0 = .ok (.iload_n 1, 1) := by decide +kernel
theorem dX10_wish_1 : decode cX10_wish 1 = .ok (.invokestatic 97, 3) := by decide +kernel
theorem dX10_wish_4 : decode cX10_wish 4 = .ok (.ifCond .eq 11, 3) := by decide +kernel
theorem dX10_wish_7 : decode cX10_wish 7 = .ok (.iload_n 2, 1) := by decide +kernel
theorem dX10_wish_8 : decode cX10_wish 8 = .ok (.iconst 2, 1) := by decide +kernel
theorem dX10_wish_9 : decode cX10_wish 9 = .ok (.invokestatic 150, 3) := by decide +kernel
theorem dX10_wish_12 : decode cX10_wish 12 = .ok (.ifCond .ne 5, 3) := by decide +kernel
theorem dX10_wish_15 : decode cX10_wish 15 = .ok (.iconst (-1), 1) := by decide +kernel
theorem dX10_wish_16 : decode cX10_wish 16 = .ok (.ireturn, 1) := by decide +kernel
theorem dX10_wish_17 : decode cX10_wish 17 = .ok (.aload_n 0, 1) := by decide +kernel
theorem dX10_wish_18 : decode cX10_wish 18 = .ok (.getfield 80, 3) := by decide +kernel
theorem dX10_wish_21 : decode cX10_wish 21 = .ok (.iload_n 1, 1) := by decide +kernel
theorem dX10_wish_22 : decode cX10_wish 22 = .ok (.aaload, 1) := by decide +kernel
theorem dX10_wish_23 : decode cX10_wish 23 = .ok (.iconst 1, 1) := by decide +kernel
theorem dX10_wish_24 : decode cX10_wish 24 = .ok (.invokevirtual 209, 3) := by decide +kernel
theorem dX10_wish_27 : decode cX10_wish 27 = .ok (.istore_n 3, 1) := by decide +kernel
theorem dX10_wish_28 : decode cX10_wish 28 = .ok (.iload_n 3, 1) := by decide +kernel
theorem dX10_wish_29 : decode cX10_wish 29 = .ok (.ifCond .eq 5, 3) := by decide +kernel
theorem dX10_wish_32 : decode cX10_wish 32 = .ok (.iload_n 3, 1) := by decide +kernel
theorem dX10_wish_33 : decode cX10_wish 33 = .ok (.ireturn, 1) := by decide +kernel
theorem dX10_wish_34 : decode cX10_wish 34 = .ok (.aload_n 0, 1) := by decide +kernel
theorem dX10_wish_35 : decode cX10_wish 35 = .ok (.getfield 44, 3) := by decide +kernel
theorem dX10_wish_38 : decode cX10_wish 38 = .ok (.aload_n 0, 1) := by decide +kernel
theorem dX10_wish_39 : decode cX10_wish 39 = .ok (.getfield 80, 3) := by decide +kernel
theorem dX10_wish_42 : decode cX10_wish 42 = .ok (.iload_n 1, 1) := by decide +kernel
theorem dX10_wish_43 : decode cX10_wish 43 = .ok (.aaload, 1) := by decide +kernel
theorem dX10_wish_44 : decode cX10_wish 44 = .ok (.iload_n 2, 1) := by decide +kernel
theorem dX10_wish_45 : decode cX10_wish 45 = .ok (.ifCond .ne 7, 3) := by decide +kernel
theorem dX10_wish_48 : decode cX10_wish 48 = .ok (.iconst 1, 1) := by decide +kernel
theorem dX10_wish_49 : decode cX10_wish 49 = .ok (.goto 4, 3) := by decide +kernel
theorem dX10_wish_52 : decode cX10_wish 52 = .ok (.iconst 0, 1) := by decide +kernel
theorem dX10_wish_53 : decode cX10_wish 53 = .ok (.invokevirtual 245, 3) := by decide +kernel
theorem dX10_wish_56 : decode cX10_wish 56 = .ok (.ireturn, 1) := by decide +kernel
theorem dX10_share_0 : decode cX10_share 0 = .ok (.iload_n 1, 1) := by decide +kernel
theorem dX10_share_1 : decode cX10_share 1 = .ok (.bipush 100, 2) := by decide +kernel
theorem dX10_share_3 : decode cX10_share 3 = .ok (.idiv, 1) := by decide +kernel
theorem dX10_share_4 : decode cX10_share 4 = .ok (.istore_n 3, 1) := by decide +kernel
theorem dX10_share_5 : decode cX10_share 5 = .ok (.iload_n 1, 1) := by decide +kernel
theorem dX10_share_6 : decode cX10_share 6 = .ok (.bipush 100, 2) := by decide +kernel
theorem dX10_share_8 : decode cX10_share 8 = .ok (.irem, 1) := by decide +kernel
theorem dX10_share_9 : decode cX10_share 9 = .ok (.istore 4, 2) := by decide +kernel
theorem dX10_share_11 : decode cX10_share 11 = .ok (.iload_n 1, 1) := by decide +kernel
theorem dX10_share_12 : decode cX10_share 12 = .ok (.ifCond .lt 33, 3) := by decide +kernel
theorem dX10_share_15 : decode cX10_share 15 = .ok (.iload_n 3, 1) := by decide +kernel
theorem dX10_share_16 : decode cX10_share 16 = .ok (.aload_n 0, 1) := by decide +kernel
theorem dX10_share_17 : decode cX10_share 17 = .ok (.getfield 10, 3) := by decide +kernel
theorem dX10_share_20 : decode cX10_share 20 = .ok (.getfield 132, 3) := by decide +kernel
theorem dX10_share_23 : decode cX10_share 23 = .ok (.if_icmp .ge 22, 3) := by decide +kernel
theorem dX10_share_26 : decode cX10_share 26 = .ok (.iload 4, 2) := by decide +kernel
theorem dX10_share_28 : decode cX10_share 28 = .ok (.invokestatic 147, 3) := by decide +kernel
theorem dX10_share_31 : decode cX10_share 31 = .ok (.ifCond .eq 14, 3) := by decide +kernel
theorem dX10_share_34 : decode cX10_share 34 = .ok (.iload_n 2, 1) := by decide +kernel
theorem dX10_share_35 : decode cX10_share 35 = .ok (.ifCond .lt 10, 3) := by decide +kernel
theorem dX10_share_38 : decode cX10_share 38 = .ok (.iload_n 2, 1) := by decide +kernel
theorem dX10_share_39 : decode cX10_share 39 = .ok (.sipush 9999, 3) := by decide +kernel
theorem dX10_share_42 : decode cX10_share 42 = .ok (.if_icmp .le 5, 3) := by decide +kernel
theorem dX10_share_45 : decode cX10_share 45 = .ok (.iconst (-1), 1) := by decide +kernel
theorem dX10_share_46 : decode cX10_share 46 = .ok (.ireturn, 1) := by decide +kernel
theorem dX10_share_47 : decode cX10_share 47 = .ok (.aload_n 0, 1) := by decide +kernel
theorem dX10_share_48 : decode cX10_share 48 = .ok (.getfield 37, 3) := by decide +kernel
theorem dX10_share_51 : decode cX10_share 51 = .ok (.iload_n 3, 1) := by decide +kernel
theorem dX10_share_52 : decode cX10_share 52 = .ok (.iload 4, 2) := by decide +kernel
theorem dX10_share_54 : decode cX10_share 54 = .ok (.iload_n 2, 1) := by decide +kernel
theorem dX10_share_55 : decode cX10_share 55 = .ok (.invokevirtual 249, 3) := by decide +kernel
theorem dX10_share_58 : decode cX10_share 58 = .ok (.ireturn, 1) := by decide +kernel
theorem dX10_late_0 : decode cX10_late 0 = .ok (.aload_n 0, 1) := by decide +kernel
theorem dX10_late_1 : decode cX10_late 1 = .ok (.getfield 10, 3) := by decide +kernel
theorem dX10_late_4 : decode cX10_late 4 = .ok (.iload_n 1, 1) := by decide +kernel
theorem dX10_late_5 : decode cX10_late 5 = .ok (.iconst 4, 1) := by decide +kernel
theorem dX10_late_6 : decode cX10_late 6 = .ok (.invokevirtual 114, 3) := by decide +kernel
theorem dX10_late_9 : decode cX10_late 9 = .ok (.ifCond .eq 10, 3) := by decide +kernel
theorem dX10_late_12 : decode cX10_late 12 = .ok (.iload_n 2, 1) := by decide +kernel
theorem dX10_late_13 : decode cX10_late 13 = .ok (.invokestatic 147, 3) := by decide +kernel
theorem dX10_late_16 : decode cX10_late 16 = .ok (.ifCond .ne 5, 3) := by decide +kernel
theorem dX10_late_19 : decode cX10_late 19 = .ok (.iconst (-1), 1) := by decide +kernel
theorem dX10_late_20 : decode cX10_late 20 = .ok (.ireturn, 1) := by decide +kernel
theorem dX10_late_21 : decode cX10_late 21 = .ok (.aload_n 0, 1) := by decide +kernel
theorem dX10_late_22 : decode cX10_late 22 = .ok (.getfield 37, 3) := by decide +kernel
theorem dX10_late_25 : decode cX10_late 25 = .ok (.iload_n 1, 1) := by decide +kernel
theorem dX10_late_26 : decode cX10_late 26 = .ok (.iload_n 2, 1) := by decide +kernel
theorem dX10_late_27 : decode cX10_late 27 = .ok (.invokevirtual 252, 3) := by decide +kernel
theorem dX10_late_30 : decode cX10_late 30 = .ok (.ireturn, 1) := by decide +kernel
theorem dX10_byTurns_0 : decode cX10_byTurns 0 = .ok (.iload_n 1, 1) := by decide +kernel
theorem dX10_byTurns_1 : decode cX10_byTurns 1 = .ok (.bipush 10, 2) := by decide +kernel
theorem dX10_byTurns_3 : decode cX10_byTurns 3 = .ok (.idiv, 1) := by decide +kernel
theorem dX10_byTurns_4 : decode cX10_byTurns 4 = .ok (.istore 4, 2) := by decide +kernel
theorem dX10_byTurns_6 : decode cX10_byTurns 6 = .ok (.iload_n 1, 1) := by decide +kernel
theorem dX10_byTurns_7 : decode cX10_byTurns 7 = .ok (.bipush 10, 2) := by decide +kernel
theorem dX10_byTurns_9 : decode cX10_byTurns 9 = .ok (.irem, 1) := by decide +kernel
theorem dX10_byTurns_10 : decode cX10_byTurns 10 = .ok (.istore 5, 2) := by decide +kernel
theorem dX10_byTurns_12 : decode cX10_byTurns 12 = .ok (.iload_n 2, 1) := by decide +kernel
theorem dX10_byTurns_13 : decode cX10_byTurns 13 = .ok (.bipush 10, 2) := by decide +kernel
theorem dX10_byTurns_15 : decode cX10_byTurns 15 = .ok (.idiv, 1) := by decide +kernel
theorem dX10_byTurns_16 : decode cX10_byTurns 16 = .ok (.istore 6, 2) := by decide +kernel
theorem dX10_byTurns_18 : decode cX10_byTurns 18 = .ok (.iload_n 2, 1) := by decide +kernel
theorem dX10_byTurns_19 : decode cX10_byTurns 19 = .ok (.bipush 10, 2) := by decide +kernel
theorem dX10_byTurns_21 : decode cX10_byTurns 21 = .ok (.irem, 1) := by decide +kernel
theorem dX10_byTurns_22 : decode cX10_byTurns 22 = .ok (.istore 7, 2) := by decide +kernel
theorem dX10_byTurns_24 : decode cX10_byTurns 24 = .ok (.iload_n 1, 1) := by decide +kernel
theorem dX10_byTurns_25 : decode cX10_byTurns 25 = .ok (.ifCond .lt 35, 3) := by decide +kernel
theorem dX10_byTurns_28 : decode cX10_byTurns 28 = .ok (.iload 4, 2) := by decide +kernel
theorem dX10_byTurns_30 : decode cX10_byTurns 30 = .ok (.aload_n 0, 1) := by decide +kernel
theorem dX10_byTurns_31 : decode cX10_byTurns 31 = .ok (.getfield 10, 3) := by decide +kernel
theorem dX10_byTurns_34 : decode cX10_byTurns 34 = .ok (.getfield 132, 3) := by decide +kernel
theorem dX10_byTurns_37 : decode cX10_byTurns 37 = .ok (.if_icmp .ge 23, 3) := by decide +kernel
theorem dX10_byTurns_40 : decode cX10_byTurns 40 = .ok (.iload 5, 2) := by decide +kernel
theorem dX10_byTurns_42 : decode cX10_byTurns 42 = .ok (.aload_n 0, 1) := by decide +kernel
theorem dX10_byTurns_43 : decode cX10_byTurns 43 = .ok (.getfield 10, 3) := by decide +kernel
theorem dX10_byTurns_46 : decode cX10_byTurns 46 = .ok (.getfield 255, 3) := by decide +kernel
theorem dX10_byTurns_49 : decode cX10_byTurns 49 = .ok (.if_icmp .ge 11, 3) := by decide +kernel
theorem dX10_byTurns_52 : decode cX10_byTurns 52 = .ok (.iload_n 3, 1) := by decide +kernel
theorem dX10_byTurns_53 : decode cX10_byTurns 53 = .ok (.iconst 2, 1) := by decide +kernel
theorem dX10_byTurns_54 : decode cX10_byTurns 54 = .ok (.invokestatic 150, 3) := by decide +kernel
theorem dX10_byTurns_57 : decode cX10_byTurns 57 = .ok (.ifCond .ne 5, 3) := by decide +kernel
theorem dX10_byTurns_60 : decode cX10_byTurns 60 = .ok (.iconst (-1), 1) := by decide +kernel
theorem dX10_byTurns_61 : decode cX10_byTurns 61 = .ok (.ireturn, 1) := by decide +kernel
theorem dX10_byTurns_62 : decode cX10_byTurns 62 = .ok (.iload_n 2, 1) := by decide +kernel
theorem dX10_byTurns_63 : decode cX10_byTurns 63 = .ok (.ifCond .lt 22, 3) := by decide +kernel
theorem dX10_byTurns_66 : decode cX10_byTurns 66 = .ok (.iload 6, 2) := by decide +kernel
theorem dX10_byTurns_68 : decode cX10_byTurns 68 = .ok (.bipush 12, 2) := by decide +kernel
theorem dX10_byTurns_70 : decode cX10_byTurns 70 = .ok (.if_icmp .ge 15, 3) := by decide +kernel
theorem dX10_byTurns_73 : decode cX10_byTurns 73 = .ok (.iload 7, 2) := by decide +kernel
theorem dX10_byTurns_75 : decode cX10_byTurns 75 = .ok (.iconst 1, 1) := by decide +kernel
theorem dX10_byTurns_76 : decode cX10_byTurns 76 = .ok (.if_icmp .lt 9, 3) := by decide +kernel
theorem dX10_byTurns_79 : decode cX10_byTurns 79 = .ok (.iload 7, 2) := by decide +kernel
theorem dX10_byTurns_81 : decode cX10_byTurns 81 = .ok (.iconst 4, 1) := by decide +kernel
theorem dX10_byTurns_82 : decode cX10_byTurns 82 = .ok (.if_icmp .le 5, 3) := by decide +kernel
theorem dX10_byTurns_85 : decode cX10_byTurns 85 = .ok (.iconst (-1), 1) := by decide +kernel
theorem dX10_byTurns_86 : decode cX10_byTurns 86 = .ok (.ireturn, 1) := by decide +kernel
theorem dX10_byTurns_87 : decode cX10_byTurns 87 = .ok (.aload_n 0, 1) := by decide +kernel
theorem dX10_byTurns_88 : decode cX10_byTurns 88 = .ok (.getfield 51, 3) := by decide +kernel
theorem dX10_byTurns_91 : decode cX10_byTurns 91 = .ok (.iload 4, 2) := by decide +kernel
theorem dX10_byTurns_93 : decode cX10_byTurns 93 = .ok (.iload 5, 2) := by decide +kernel
theorem dX10_byTurns_95 : decode cX10_byTurns 95 = .ok (.iload 6, 2) := by decide +kernel
theorem dX10_byTurns_97 : decode cX10_byTurns 97 = .ok (.iload 7, 2) := by decide +kernel
theorem dX10_byTurns_99 : decode cX10_byTurns 99 = .ok (.invokevirtual 258, 3) := by decide +kernel
theorem dX10_byTurns_102 : decode cX10_byTurns 102 = .ok (.istore 8, 2) := by decide +kernel
theorem dX10_byTurns_104 : decode cX10_byTurns 104 = .ok (.iload_n 3, 1) := by decide +kernel
theorem dX10_byTurns_105 : decode cX10_byTurns 105 = .ok (.ifCond .ne 14, 3) := by decide +kernel
theorem dX10_byTurns_108 : decode cX10_byTurns 108 = .ok (.iload 8, 2) := by decide +kernel
theorem dX10_byTurns_110 : decode cX10_byTurns 110 = .ok (.ifCond .ge 7, 3) := by decide +kernel
theorem dX10_byTurns_113 : decode cX10_byTurns 113 = .ok (.iconst 0, 1) := by decide +kernel
theorem dX10_byTurns_114 : decode cX10_byTurns 114 = .ok (.goto 4, 3) := by decide +kernel
theorem dX10_byTurns_117 : decode cX10_byTurns 117 = .ok (.iconst 1, 1) := by decide +kernel
theorem dX10_byTurns_118 : decode cX10_byTurns 118 = .ok (.ireturn, 1) := by decide +kernel
theorem dX10_byTurns_119 : decode cX10_byTurns 119 = .ok (.iload 8, 2) := by decide +kernel
theorem dX10_byTurns_121 : decode cX10_byTurns 121 = .ok (.ifCond .ge 7, 3) := by decide +kernel
theorem dX10_byTurns_124 : decode cX10_byTurns 124 = .ok (.iconst 4, 1) := by decide +kernel
theorem dX10_byTurns_125 : decode cX10_byTurns 125 = .ok (.goto 5, 3) := by decide +kernel
theorem dX10_byTurns_128 : decode cX10_byTurns 128 = .ok (.iload 8, 2) := by decide +kernel
theorem dX10_byTurns_130 : decode cX10_byTurns 130 = .ok (.ireturn, 1) := by decide +kernel
theorem dX10_drawn_0 : decode cX10_drawn 0 = .ok (.iload_n 2, 1) := by decide +kernel
theorem dX10_drawn_1 : decode cX10_drawn 1 = .ok (.bipush 100, 2) := by decide +kernel
theorem dX10_drawn_3 : decode cX10_drawn 3 = .ok (.idiv, 1) := by decide +kernel
theorem dX10_drawn_4 : decode cX10_drawn 4 = .ok (.istore 4, 2) := by decide +kernel
theorem dX10_drawn_6 : decode cX10_drawn 6 = .ok (.iload_n 2, 1) := by decide +kernel
theorem dX10_drawn_7 : decode cX10_drawn 7 = .ok (.bipush 100, 2) := by decide +kernel
theorem dX10_drawn_9 : decode cX10_drawn 9 = .ok (.irem, 1) := by decide +kernel
theorem dX10_drawn_10 : decode cX10_drawn 10 = .ok (.istore 5, 2) := by decide +kernel
theorem dX10_drawn_12 : decode cX10_drawn 12 = .ok (.iload_n 2, 1) := by decide +kernel
theorem dX10_drawn_13 : decode cX10_drawn 13 = .ok (.ifCond .lt 39, 3) := by decide +kernel
theorem dX10_drawn_16 : decode cX10_drawn 16 = .ok (.iload 4, 2) := by decide +kernel
theorem dX10_drawn_18 : decode cX10_drawn 18 = .ok (.iconst 1, 1) := by decide +kernel
theorem dX10_drawn_19 : decode cX10_drawn 19 = .ok (.if_icmp .lt 33, 3) := by decide +kernel
theorem dX10_drawn_22 : decode cX10_drawn 22 = .ok (.iload 4, 2) := by decide +kernel
theorem dX10_drawn_24 : decode cX10_drawn 24 = .ok (.bipush 30, 2) := by decide +kernel
theorem dX10_drawn_26 : decode cX10_drawn 26 = .ok (.if_icmp .gt 26, 3) := by decide +kernel
theorem dX10_drawn_29 : decode cX10_drawn 29 = .ok (.iload 5, 2) := by decide +kernel
theorem dX10_drawn_31 : decode cX10_drawn 31 = .ok (.bipush 12, 2) := by decide +kernel
theorem dX10_drawn_33 : decode cX10_drawn 33 = .ok (.if_icmp .gt 19, 3) := by decide +kernel
theorem dX10_drawn_36 : decode cX10_drawn 36 = .ok (.iload_n 3, 1) := by decide +kernel
theorem dX10_drawn_37 : decode cX10_drawn 37 = .ok (.iconst (-1), 1) := by decide +kernel
theorem dX10_drawn_38 : decode cX10_drawn 38 = .ok (.if_icmp .lt 14, 3) := by decide +kernel
theorem dX10_drawn_41 : decode cX10_drawn 41 = .ok (.iload_n 3, 1) := by decide +kernel
theorem dX10_drawn_42 : decode cX10_drawn 42 = .ok (.aload_n 0, 1) := by decide +kernel
theorem dX10_drawn_43 : decode cX10_drawn 43 = .ok (.getfield 10, 3) := by decide +kernel
theorem dX10_drawn_46 : decode cX10_drawn 46 = .ok (.getfield 255, 3) := by decide +kernel
theorem dX10_drawn_49 : decode cX10_drawn 49 = .ok (.if_icmp .lt 5, 3) := by decide +kernel
theorem dX10_drawn_52 : decode cX10_drawn 52 = .ok (.iconst (-1), 1) := by decide +kernel
theorem dX10_drawn_53 : decode cX10_drawn 53 = .ok (.ireturn, 1) := by decide +kernel
theorem dX10_drawn_54 : decode cX10_drawn 54 = .ok (.aload_n 0, 1) := by decide +kernel
theorem dX10_drawn_55 : decode cX10_drawn 55 = .ok (.getfield 37, 3) := by decide +kernel
theorem dX10_drawn_58 : decode cX10_drawn 58 = .ok (.iload_n 1, 1) := by decide +kernel
theorem dX10_drawn_59 : decode cX10_drawn 59 = .ok (.iload 4, 2) := by decide +kernel
theorem dX10_drawn_61 : decode cX10_drawn 61 = .ok (.iload 5, 2) := by decide +kernel
theorem dX10_drawn_63 : decode cX10_drawn 63 = .ok (.iload_n 3, 1) := by decide +kernel
theorem dX10_drawn_64 : decode cX10_drawn 64 = .ok (.invokevirtual 262, 3) := by decide +kernel
theorem dX10_drawn_67 : decode cX10_drawn 67 = .ok (.ireturn, 1) := by decide +kernel
theorem dX10_passes_0 : decode cX10_passes 0 = .ok (.aload_n 0, 1) := by decide +kernel
theorem dX10_passes_1 : decode cX10_passes 1 = .ok (.getfield 37, 3) := by decide +kernel
theorem dX10_passes_4 : decode cX10_passes 4 = .ok (.aload_n 0, 1) := by decide +kernel
theorem dX10_passes_5 : decode cX10_passes 5 = .ok (.getfield 67, 3) := by decide +kernel
theorem dX10_passes_8 : decode cX10_passes 8 = .ok (.invokevirtual 265, 3) := by decide +kernel
theorem dX10_passes_11 : decode cX10_passes 11 = .ok (.invokevirtual 171, 3) := by decide +kernel
theorem dX10_passes_14 : decode cX10_passes 14 = .ok (.invokestatic 177, 3) := by decide +kernel
theorem dX10_passes_17 : decode cX10_passes 17 = .ok (.istore_n 1, 1) := by decide +kernel
theorem dX10_passes_18 : decode cX10_passes 18 = .ok (.aload_n 0, 1) := by decide +kernel
theorem dX10_passes_19 : decode cX10_passes 19 = .ok (.getfield 67, 3) := by decide +kernel
theorem dX10_passes_22 : decode cX10_passes 22 = .ok (.iload_n 1, 1) := by decide +kernel
theorem dX10_passes_23 : decode cX10_passes 23 = .ok (.invokevirtual 268, 3) := by decide +kernel
theorem dX10_passes_26 : decode cX10_passes 26 = .ok (.iload_n 1, 1) := by decide +kernel
theorem dX10_passes_27 : decode cX10_passes 27 = .ok (.ireturn, 1) := by decide +kernel
theorem dX10_steps_0 : decode cX10_steps 0 = .ok (.aload_n 0, 1) := by decide +kernel
theorem dX10_steps_1 : decode cX10_steps 1 = .ok (.getfield 10, 3) := by decide +kernel
theorem dX10_steps_4 : decode cX10_steps 4 = .ok (.iload_n 1, 1) := by decide +kernel
theorem dX10_steps_5 : decode cX10_steps 5 = .ok (.iconst 0, 1) := by decide +kernel
theorem dX10_steps_6 : decode cX10_steps 6 = .ok (.invokevirtual 114, 3) := by decide +kernel
theorem dX10_steps_9 : decode cX10_steps 9 = .ok (.ifCond .eq 11, 3) := by decide +kernel
theorem dX10_steps_12 : decode cX10_steps 12 = .ok (.iload_n 2, 1) := by decide +kernel
theorem dX10_steps_13 : decode cX10_steps 13 = .ok (.iconst 4, 1) := by decide +kernel
theorem dX10_steps_14 : decode cX10_steps 14 = .ok (.invokestatic 150, 3) := by decide +kernel
theorem dX10_steps_17 : decode cX10_steps 17 = .ok (.ifCond .ne 5, 3) := by decide +kernel
theorem dX10_steps_20 : decode cX10_steps 20 = .ok (.iconst (-1), 1) := by decide +kernel
theorem dX10_steps_21 : decode cX10_steps 21 = .ok (.ireturn, 1) := by decide +kernel
theorem dX10_steps_22 : decode cX10_steps 22 = .ok (.aload_n 0, 1) := by decide +kernel
theorem dX10_steps_23 : decode cX10_steps 23 = .ok (.getfield 67, 3) := by decide +kernel
theorem dX10_steps_26 : decode cX10_steps 26 = .ok (.iload_n 1, 1) := by decide +kernel
theorem dX10_steps_27 : decode cX10_steps 27 = .ok (.iload_n 2, 1) := by decide +kernel
theorem dX10_steps_28 : decode cX10_steps 28 = .ok (.invokevirtual 271, 3) := by decide +kernel
theorem dX10_steps_31 : decode cX10_steps 31 = .ok (.ireturn, 1) := by decide +kernel
theorem dX10_bird_0 : decode cX10_bird 0 = .ok (.aload_n 0, 1) := by decide +kernel
theorem dX10_bird_1 : decode cX10_bird 1 = .ok (.getfield 10, 3) := by decide +kernel
theorem dX10_bird_4 : decode cX10_bird 4 = .ok (.iload_n 1, 1) := by decide +kernel
theorem dX10_bird_5 : decode cX10_bird 5 = .ok (.iconst 0, 1) := by decide +kernel
theorem dX10_bird_6 : decode cX10_bird 6 = .ok (.invokevirtual 114, 3) := by decide +kernel
theorem dX10_bird_9 : decode cX10_bird 9 = .ok (.ifCond .eq 14, 3) := by decide +kernel
theorem dX10_bird_12 : decode cX10_bird 12 = .ok (.aload_n 0, 1) := by decide +kernel
theorem dX10_bird_13 : decode cX10_bird 13 = .ok (.getfield 67, 3) := by decide +kernel
theorem dX10_bird_16 : decode cX10_bird 16 = .ok (.iload_n 1, 1) := by decide +kernel
theorem dX10_bird_17 : decode cX10_bird 17 = .ok (.invokevirtual 274, 3) := by decide +kernel
theorem dX10_bird_20 : decode cX10_bird 20 = .ok (.goto 4, 3) := by decide +kernel
theorem dX10_bird_23 : decode cX10_bird 23 = .ok (.iconst (-1), 1) := by decide +kernel
theorem dX10_bird_24 : decode cX10_bird 24 = .ok (.ireturn, 1) := by decide +kernel
theorem dX10_goes_0 : decode cX10_goes 0 = .ok (.aload_n 0, 1) := by decide +kernel
theorem dX10_goes_1 : decode cX10_goes 1 = .ok (.getfield 10, 3) := by decide +kernel
theorem dX10_goes_4 : decode cX10_goes 4 = .ok (.iload_n 1, 1) := by decide +kernel
theorem dX10_goes_5 : decode cX10_goes 5 = .ok (.iconst 4, 1) := by decide +kernel
theorem dX10_goes_6 : decode cX10_goes 6 = .ok (.invokevirtual 114, 3) := by decide +kernel
theorem dX10_goes_9 : decode cX10_goes 9 = .ok (.ifCond .eq 15, 3) := by decide +kernel
theorem dX10_goes_12 : decode cX10_goes 12 = .ok (.aload_n 0, 1) := by decide +kernel
theorem dX10_goes_13 : decode cX10_goes 13 = .ok (.getfield 10, 3) := by decide +kernel
theorem dX10_goes_16 : decode cX10_goes 16 = .ok (.iconst 4, 1) := by decide +kernel
theorem dX10_goes_17 : decode cX10_goes 17 = .ok (.iload_n 2, 1) := by decide +kernel
theorem dX10_goes_18 : decode cX10_goes 18 = .ok (.invokevirtual 85, 3) := by decide +kernel
theorem dX10_goes_21 : decode cX10_goes 21 = .ok (.ifCond .ne 5, 3) := by decide +kernel
theorem dX10_goes_24 : decode cX10_goes 24 = .ok (.iconst (-1), 1) := by decide +kernel
theorem dX10_goes_25 : decode cX10_goes 25 = .ok (.ireturn, 1) := by decide +kernel
theorem dX10_goes_26 : decode cX10_goes 26 = .ok (.aload_n 0, 1) := by decide +kernel
theorem dX10_goes_27 : decode cX10_goes 27 = .ok (.getfield 10, 3) := by decide +kernel
theorem dX10_goes_30 : decode cX10_goes 30 = .ok (.iload_n 1, 1) := by decide +kernel
theorem dX10_goes_31 : decode cX10_goes 31 = .ok (.iconst 4, 1) := by decide +kernel
theorem dX10_goes_32 : decode cX10_goes 32 = .ok (.invokevirtual 117, 3) := by decide +kernel
theorem dX10_goes_35 : decode cX10_goes 35 = .ok (.istore_n 3, 1) := by decide +kernel
theorem dX10_goes_36 : decode cX10_goes 36 = .ok (.aload_n 0, 1) := by decide +kernel
theorem dX10_goes_37 : decode cX10_goes 37 = .ok (.getfield 10, 3) := by decide +kernel
theorem dX10_goes_40 : decode cX10_goes 40 = .ok (.iload_n 1, 1) := by decide +kernel
theorem dX10_goes_41 : decode cX10_goes 41 = .ok (.iconst 4, 1) := by decide +kernel
theorem dX10_goes_42 : decode cX10_goes 42 = .ok (.iload_n 2, 1) := by decide +kernel
theorem dX10_goes_43 : decode cX10_goes 43 = .ok (.invokevirtual 277, 3) := by decide +kernel
theorem dX10_goes_46 : decode cX10_goes 46 = .ok (.iload_n 3, 1) := by decide +kernel
theorem dX10_goes_47 : decode cX10_goes 47 = .ok (.ireturn, 1) := by decide +kernel
theorem dX10_led_0 : decode cX10_led 0 = .ok (.iload_n 1, 1) := by decide +kernel
theorem dX10_led_1 : decode cX10_led 1 = .ok (.bipush 6, 2) := by decide +kernel
theorem dX10_led_3 : decode cX10_led 3 = .ok (.invokestatic 150, 3) := by decide +kernel
theorem dX10_led_6 : decode cX10_led 6 = .ok (.ifCond .eq 14, 3) := by decide +kernel
theorem dX10_led_9 : decode cX10_led 9 = .ok (.aload_n 0, 1) := by decide +kernel
theorem dX10_led_10 : decode cX10_led 10 = .ok (.getfield 67, 3) := by decide +kernel
theorem dX10_led_13 : decode cX10_led 13 = .ok (.iload_n 1, 1) := by decide +kernel
theorem dX10_led_14 : decode cX10_led 14 = .ok (.invokevirtual 280, 3) := by decide +kernel
theorem dX10_led_17 : decode cX10_led 17 = .ok (.goto 4, 3) := by decide +kernel
theorem dX10_led_20 : decode cX10_led 20 = .ok (.iconst (-1), 1) := by decide +kernel
theorem dX10_led_21 : decode cX10_led 21 = .ok (.ireturn, 1) := by decide +kernel
theorem dX10_image_0 : decode cX10_image 0 = .ok (.aload_n 0, 1) := by decide +kernel
theorem dX10_image_1 : decode cX10_image 1 = .ok (.getfield 67, 3) := by decide +kernel
theorem dX10_image_4 : decode cX10_image 4 = .ok (.invokevirtual 283, 3) := by decide +kernel
theorem dX10_image_7 : decode cX10_image 7 = .ok (.ireturn, 1) := by decide +kernel
theorem dX10_back_0 : decode cX10_back 0 = .ok (.aload_n 0, 1) := by decide +kernel
theorem dX10_back_1 : decode cX10_back 1 = .ok (.getfield 67, 3) := by decide +kernel
theorem dX10_back_4 : decode cX10_back 4 = .ok (.invokevirtual 286, 3) := by decide +kernel
theorem dX10_back_7 : decode cX10_back 7 = .ok (.ireturn, 1) := by decide +kernel
theorem dX10_undo_0 : decode cX10_undo 0 = .ok (.aload_n 0, 1) := by decide +kernel
theorem dX10_undo_1 : decode cX10_undo 1 = .ok (.getfield 60, 3) := by decide +kernel
theorem dX10_undo_4 : decode cX10_undo 4 = .ok (.invokevirtual 289, 3) := by decide +kernel
theorem dX10_undo_7 : decode cX10_undo 7 = .ok (.ireturn, 1) := by decide +kernel
theorem dX10_redo_0 : decode cX10_redo 0 = .ok (.aload_n 0, 1) := by decide +kernel
theorem dX10_redo_1 : decode cX10_redo 1 = .ok (.getfield 60, 3) := by decide +kernel
theorem dX10_redo_4 : decode cX10_redo 4 = .ok (.invokevirtual 292, 3) := by decide +kernel
theorem dX10_redo_7 : decode cX10_redo 7 = .ok (.ireturn, 1) := by decide +kernel
theorem dX10_body_0 : decode cX10_body 0 = .ok (.iload_n 1, 1) := by decide +kernel
theorem dX10_body_1 : decode cX10_body 1 = .ok (.bipush 8, 2) := by decide +kernel
theorem dX10_body_3 : decode cX10_body 3 = .ok (.invokestatic 150, 3) := by decide +kernel
theorem dX10_body_6 : decode cX10_body 6 = .ok (.ifCond .eq 14, 3) := by decide +kernel
theorem dX10_body_9 : decode cX10_body 9 = .ok (.aload_n 0, 1) := by decide +kernel
theorem dX10_body_10 : decode cX10_body 10 = .ok (.getfield 74, 3) := by decide +kernel
theorem dX10_body_13 : decode cX10_body 13 = .ok (.iload_n 1, 1) := by decide +kernel
theorem dX10_body_14 : decode cX10_body 14 = .ok (.invokevirtual 295, 3) := by decide +kernel
theorem dX10_body_17 : decode cX10_body 17 = .ok (.goto 4, 3) := by decide +kernel
theorem dX10_body_20 : decode cX10_body 20 = .ok (.iconst (-1), 1) := by decide +kernel
theorem dX10_body_21 : decode cX10_body 21 = .ok (.ireturn, 1) := by decide +kernel
theorem dX10_act_0 : decode cX10_act 0 = .ok (.aload_n 0, 1) := by decide +kernel
theorem dX10_act_1 : decode cX10_act 1 = .ok (.getfield 74, 3) := by decide +kernel
theorem dX10_act_4 : decode cX10_act 4 = .ok (.iload_n 1, 1) := by decide +kernel
theorem dX10_act_5 : decode cX10_act 5 = .ok (.iload_n 2, 1) := by decide +kernel
theorem dX10_act_6 : decode cX10_act 6 = .ok (.iload_n 3, 1) := by decide +kernel
theorem dX10_act_7 : decode cX10_act 7 = .ok (.invokevirtual 298, 3) := by decide +kernel
theorem dX10_act_10 : decode cX10_act 10 = .ok (.ireturn, 1) := by decide +kernel
theorem dX10_trace_0 : decode cX10_trace 0 = .ok (.aload_n 0, 1) := by decide +kernel
theorem dX10_trace_1 : decode cX10_trace 1 = .ok (.getfield 74, 3) := by decide +kernel
theorem dX10_trace_4 : decode cX10_trace 4 = .ok (.iload_n 1, 1) := by decide +kernel
theorem dX10_trace_5 : decode cX10_trace 5 = .ok (.invokevirtual 301, 3) := by decide +kernel
theorem dX10_trace_8 : decode cX10_trace 8 = .ok (.ireturn, 1) := by decide +kernel
theorem dX10_keep_0 : decode cX10_keep 0 = .ok (.iload_n 1, 1) := by decide +kernel
theorem dX10_keep_1 : decode cX10_keep 1 = .ok (.invokestatic 97, 3) := by decide +kernel
theorem dX10_keep_4 : decode cX10_keep 4 = .ok (.ifCond .eq 19, 3) := by decide +kernel
theorem dX10_keep_7 : decode cX10_keep 7 = .ok (.iload_n 2, 1) := by decide +kernel
theorem dX10_keep_8 : decode cX10_keep 8 = .ok (.iconst (-1), 1) := by decide +kernel
theorem dX10_keep_9 : decode cX10_keep 9 = .ok (.if_icmp .lt 14, 3) := by decide +kernel
theorem dX10_keep_12 : decode cX10_keep 12 = .ok (.iload_n 2, 1) := by decide +kernel
theorem dX10_keep_13 : decode cX10_keep 13 = .ok (.aload_n 0, 1) := by decide +kernel
theorem dX10_keep_14 : decode cX10_keep 14 = .ok (.getfield 74, 3) := by decide +kernel
theorem dX10_keep_17 : decode cX10_keep 17 = .ok (.getfield 304, 3) := by decide +kernel
theorem dX10_keep_20 : decode cX10_keep 20 = .ok (.if_icmp .lt 5, 3) := by decide +kernel
theorem dX10_keep_23 : decode cX10_keep 23 = .ok (.iconst (-1), 1) := by decide +kernel
theorem dX10_keep_24 : decode cX10_keep 24 = .ok (.ireturn, 1) := by decide +kernel
theorem dX10_keep_25 : decode cX10_keep 25 = .ok (.aload_n 0, 1) := by decide +kernel
theorem dX10_keep_26 : decode cX10_keep 26 = .ok (.getfield 80, 3) := by decide +kernel
theorem dX10_keep_29 : decode cX10_keep 29 = .ok (.iload_n 1, 1) := by decide +kernel
theorem dX10_keep_30 : decode cX10_keep 30 = .ok (.aaload, 1) := by decide +kernel
theorem dX10_keep_31 : decode cX10_keep 31 = .ok (.iload_n 2, 1) := by decide +kernel
theorem dX10_keep_32 : decode cX10_keep 32 = .ok (.invokevirtual 307, 3) := by decide +kernel
theorem dX10_keep_35 : decode cX10_keep 35 = .ok (.iconst 1, 1) := by decide +kernel
theorem dX10_keep_36 : decode cX10_keep 36 = .ok (.ireturn, 1) := by decide +kernel
theorem dX10_row_0 : decode cX10_row 0 = .ok (.iload_n 1, 1) := by decide +kernel
theorem dX10_row_1 : decode cX10_row 1 = .ok (.invokestatic 97, 3) := by decide +kernel
theorem dX10_row_4 : decode cX10_row 4 = .ok (.ifCond .eq 17, 3) := by decide +kernel
theorem dX10_row_7 : decode cX10_row 7 = .ok (.iload_n 2, 1) := by decide +kernel
theorem dX10_row_8 : decode cX10_row 8 = .ok (.iconst 5, 1) := by decide +kernel
theorem dX10_row_9 : decode cX10_row 9 = .ok (.invokestatic 150, 3) := by decide +kernel
theorem dX10_row_12 : decode cX10_row 12 = .ok (.ifCond .eq 9, 3) := by decide +kernel
theorem dX10_row_15 : decode cX10_row 15 = .ok (.iload_n 3, 1) := by decide +kernel
theorem dX10_row_16 : decode cX10_row 16 = .ok (.bipush 60, 2) := by decide +kernel
theorem dX10_row_18 : decode cX10_row 18 = .ok (.if_icmp .le 5, 3) := by decide +kernel
theorem dX10_row_21 : decode cX10_row 21 = .ok (.iconst (-1), 1) := by decide +kernel
theorem dX10_row_22 : decode cX10_row 22 = .ok (.ireturn, 1) := by decide +kernel
theorem dX10_row_23 : decode cX10_row 23 = .ok (.iload_n 3, 1) := by decide +kernel
theorem dX10_row_24 : decode cX10_row 24 = .ok (.ifCond .ge 6, 3) := by decide +kernel
theorem dX10_row_27 : decode cX10_row 27 = .ok (.bipush (-14), 2) := by decide +kernel
theorem dX10_row_29 : decode cX10_row 29 = .ok (.ireturn, 1) := by decide +kernel
theorem dX10_row_30 : decode cX10_row 30 = .ok (.aload_n 0, 1) := by decide +kernel
theorem dX10_row_31 : decode cX10_row 31 = .ok (.getfield 80, 3) := by decide +kernel
theorem dX10_row_34 : decode cX10_row 34 = .ok (.iload_n 1, 1) := by decide +kernel
theorem dX10_row_35 : decode cX10_row 35 = .ok (.aaload, 1) := by decide +kernel
theorem dX10_row_36 : decode cX10_row 36 = .ok (.iload_n 2, 1) := by decide +kernel
theorem dX10_row_37 : decode cX10_row 37 = .ok (.iload_n 3, 1) := by decide +kernel
theorem dX10_row_38 : decode cX10_row 38 = .ok (.invokevirtual 310, 3) := by decide +kernel
theorem dX10_row_41 : decode cX10_row 41 = .ok (.iconst 1, 1) := by decide +kernel
theorem dX10_row_42 : decode cX10_row 42 = .ok (.ireturn, 1) := by decide +kernel
theorem dX10_put_0 : decode cX10_put 0 = .ok (.iload_n 1, 1) := by decide +kernel
theorem dX10_put_1 : decode cX10_put 1 = .ok (.invokestatic 97, 3) := by decide +kernel
theorem dX10_put_4 : decode cX10_put 4 = .ok (.ifCond .ne 5, 3) := by decide +kernel
theorem dX10_put_7 : decode cX10_put 7 = .ok (.iconst (-1), 1) := by decide +kernel
theorem dX10_put_8 : decode cX10_put 8 = .ok (.ireturn, 1) := by decide +kernel
theorem dX10_put_9 : decode cX10_put 9 = .ok (.aload_n 0, 1) := by decide +kernel
theorem dX10_put_10 : decode cX10_put 10 = .ok (.getfield 80, 3) := by decide +kernel
theorem dX10_put_13 : decode cX10_put 13 = .ok (.iload_n 1, 1) := by decide +kernel
theorem dX10_put_14 : decode cX10_put 14 = .ok (.aaload, 1) := by decide +kernel
theorem dX10_put_15 : decode cX10_put 15 = .ok (.iload_n 2, 1) := by decide +kernel
theorem dX10_put_16 : decode cX10_put 16 = .ok (.invokevirtual 313, 3) := by decide +kernel
theorem dX10_put_19 : decode cX10_put 19 = .ok (.istore 5, 2) := by decide +kernel
theorem dX10_put_21 : decode cX10_put 21 = .ok (.iload 5, 2) := by decide +kernel
theorem dX10_put_23 : decode cX10_put 23 = .ok (.ifCond .eq 6, 3) := by decide +kernel
theorem dX10_put_26 : decode cX10_put 26 = .ok (.iload 5, 2) := by decide +kernel
theorem dX10_put_28 : decode cX10_put 28 = .ok (.ireturn, 1) := by decide +kernel
theorem dX10_put_29 : decode cX10_put 29 = .ok (.aload_n 0, 1) := by decide +kernel
theorem dX10_put_30 : decode cX10_put 30 = .ok (.getfield 80, 3) := by decide +kernel
theorem dX10_put_33 : decode cX10_put 33 = .ok (.iload_n 1, 1) := by decide +kernel
theorem dX10_put_34 : decode cX10_put 34 = .ok (.aaload, 1) := by decide +kernel
theorem dX10_put_35 : decode cX10_put 35 = .ok (.iload_n 2, 1) := by decide +kernel
theorem dX10_put_36 : decode cX10_put 36 = .ok (.lload_n 3, 1) := by decide +kernel
theorem dX10_put_37 : decode cX10_put 37 = .ok (.invokevirtual 316, 3) := by decide +kernel
theorem dX10_put_40 : decode cX10_put 40 = .ok (.iconst 1, 1) := by decide +kernel
theorem dX10_put_41 : decode cX10_put 41 = .ok (.ireturn, 1) := by decide +kernel
theorem dX10_element_0 : decode cX10_element 0 = .ok (.iload_n 1, 1) := by decide +kernel
theorem dX10_element_1 : decode cX10_element 1 = .ok (.invokestatic 97, 3) := by decide +kernel
theorem dX10_element_4 : decode cX10_element 4 = .ok (.ifCond .eq 16, 3) := by decide +kernel
theorem dX10_element_7 : decode cX10_element 7 = .ok (.aload_n 0, 1) := by decide +kernel
theorem dX10_element_8 : decode cX10_element 8 = .ok (.getfield 80, 3) := by decide +kernel
theorem dX10_element_11 : decode cX10_element 11 = .ok (.iload_n 1, 1) := by decide +kernel
theorem dX10_element_12 : decode cX10_element 12 = .ok (.aaload, 1) := by decide +kernel
theorem dX10_element_13 : decode cX10_element 13 = .ok (.iload_n 2, 1) := by decide +kernel
theorem dX10_element_14 : decode cX10_element 14 = .ok (.invokevirtual 313, 3) := by decide +kernel
theorem dX10_element_17 : decode cX10_element 17 = .ok (.ifCond .eq 7, 3) := by decide +kernel
theorem dX10_element_20 : decode cX10_element 20 = .ok (.ldc2_w 321, 3) := by decide +kernel
theorem dX10_element_23 : decode cX10_element 23 = .ok (.lreturn, 1) := by decide +kernel
theorem dX10_element_24 : decode cX10_element 24 = .ok (.aload_n 0, 1) := by decide +kernel
theorem dX10_element_25 : decode cX10_element 25 = .ok (.getfield 80, 3) := by decide +kernel
theorem dX10_element_28 : decode cX10_element 28 = .ok (.iload_n 1, 1) := by decide +kernel
theorem dX10_element_29 : decode cX10_element 29 = .ok (.aaload, 1) := by decide +kernel
theorem dX10_element_30 : decode cX10_element 30 = .ok (.iload_n 2, 1) := by decide +kernel
theorem dX10_element_31 : decode cX10_element 31 = .ok (.invokevirtual 323, 3) := by decide +kernel
theorem dX10_element_34 : decode cX10_element 34 = .ok (.lreturn, 1) := by decide +kernel
theorem dX10_shift_0 : decode cX10_shift 0 = .ok (.iload_n 1, 1) := by decide +kernel
theorem dX10_shift_1 : decode cX10_shift 1 = .ok (.invokestatic 97, 3) := by decide +kernel
theorem dX10_shift_4 : decode cX10_shift 4 = .ok (.ifCond .eq 10, 3) := by decide +kernel
theorem dX10_shift_7 : decode cX10_shift 7 = .ok (.iload_n 3, 1) := by decide +kernel
theorem dX10_shift_8 : decode cX10_shift 8 = .ok (.invokestatic 97, 3) := by decide +kernel
theorem dX10_shift_11 : decode cX10_shift 11 = .ok (.ifCond .ne 5, 3) := by decide +kernel
theorem dX10_shift_14 : decode cX10_shift 14 = .ok (.iconst (-1), 1) := by decide +kernel
theorem dX10_shift_15 : decode cX10_shift 15 = .ok (.ireturn, 1) := by decide +kernel
theorem dX10_shift_16 : decode cX10_shift 16 = .ok (.aload_n 0, 1) := by decide +kernel
theorem dX10_shift_17 : decode cX10_shift 17 = .ok (.getfield 80, 3) := by decide +kernel
theorem dX10_shift_20 : decode cX10_shift 20 = .ok (.iload_n 1, 1) := by decide +kernel
theorem dX10_shift_21 : decode cX10_shift 21 = .ok (.aaload, 1) := by decide +kernel
theorem dX10_shift_22 : decode cX10_shift 22 = .ok (.iload_n 2, 1) := by decide +kernel
theorem dX10_shift_23 : decode cX10_shift 23 = .ok (.aload_n 0, 1) := by decide +kernel
theorem dX10_shift_24 : decode cX10_shift 24 = .ok (.getfield 80, 3) := by decide +kernel
theorem dX10_shift_27 : decode cX10_shift 27 = .ok (.iload_n 3, 1) := by decide +kernel
theorem dX10_shift_28 : decode cX10_shift 28 = .ok (.aaload, 1) := by decide +kernel
theorem dX10_shift_29 : decode cX10_shift 29 = .ok (.iload 4, 2) := by decide +kernel
theorem dX10_shift_31 : decode cX10_shift 31 = .ok (.iload 5, 2) := by decide +kernel
theorem dX10_shift_33 : decode cX10_shift 33 = .ok (.invokevirtual 326, 3) := by decide +kernel
theorem dX10_shift_36 : decode cX10_shift 36 = .ok (.ireturn, 1) := by decide +kernel
theorem dX10_taken_0 : decode cX10_taken 0 = .ok (.iload_n 1, 1) := by decide +kernel
theorem dX10_taken_1 : decode cX10_taken 1 = .ok (.invokestatic 97, 3) := by decide +kernel
theorem dX10_taken_4 : decode cX10_taken 4 = .ok (.ifCond .eq 12, 3) := by decide +kernel
theorem dX10_taken_7 : decode cX10_taken 7 = .ok (.iload_n 2, 1) := by decide +kernel
theorem dX10_taken_8 : decode cX10_taken 8 = .ok (.bipush 8, 2) := by decide +kernel
theorem dX10_taken_10 : decode cX10_taken 10 = .ok (.invokestatic 150, 3) := by decide +kernel
theorem dX10_taken_13 : decode cX10_taken 13 = .ok (.ifCond .ne 5, 3) := by decide +kernel
theorem dX10_taken_16 : decode cX10_taken 16 = .ok (.iconst (-1), 1) := by decide +kernel
theorem dX10_taken_17 : decode cX10_taken 17 = .ok (.ireturn, 1) := by decide +kernel
theorem dX10_taken_18 : decode cX10_taken 18 = .ok (.aload_n 0, 1) := by decide +kernel
theorem dX10_taken_19 : decode cX10_taken 19 = .ok (.getfield 80, 3) := by decide +kernel
theorem dX10_taken_22 : decode cX10_taken 22 = .ok (.iload_n 1, 1) := by decide +kernel
theorem dX10_taken_23 : decode cX10_taken 23 = .ok (.aaload, 1) := by decide +kernel
theorem dX10_taken_24 : decode cX10_taken 24 = .ok (.astore_n 3, 1) := by decide +kernel
theorem dX10_taken_25 : decode cX10_taken 25 = .ok (.aload_n 3, 1) := by decide +kernel
theorem dX10_taken_26 : decode cX10_taken 26 = .ok (.invokevirtual 101, 3) := by decide +kernel
theorem dX10_taken_29 : decode cX10_taken 29 = .ok (.ifCond .eq 6, 3) := by decide +kernel
theorem dX10_taken_32 : decode cX10_taken 32 = .ok (.bipush (-11), 2) := by decide +kernel
theorem dX10_taken_34 : decode cX10_taken 34 = .ok (.ireturn, 1) := by decide +kernel
theorem dX10_taken_35 : decode cX10_taken 35 = .ok (.aload_n 0, 1) := by decide +kernel
theorem dX10_taken_36 : decode cX10_taken 36 = .ok (.getfield 74, 3) := by decide +kernel
theorem dX10_taken_39 : decode cX10_taken 39 = .ok (.aload_n 3, 1) := by decide +kernel
theorem dX10_taken_40 : decode cX10_taken 40 = .ok (.invokevirtual 330, 3) := by decide +kernel
theorem dX10_taken_43 : decode cX10_taken 43 = .ok (.invokevirtual 333, 3) := by decide +kernel
theorem dX10_taken_46 : decode cX10_taken 46 = .ok (.istore 4, 2) := by decide +kernel
theorem dX10_taken_48 : decode cX10_taken 48 = .ok (.aload_n 0, 1) := by decide +kernel
theorem dX10_taken_49 : decode cX10_taken 49 = .ok (.getfield 74, 3) := by decide +kernel
theorem dX10_taken_52 : decode cX10_taken 52 = .ok (.iload 4, 2) := by decide +kernel
theorem dX10_taken_54 : decode cX10_taken 54 = .ok (.iload_n 2, 1) := by decide +kernel
theorem dX10_taken_55 : decode cX10_taken 55 = .ok (.invokevirtual 336, 3) := by decide +kernel
theorem dX10_taken_58 : decode cX10_taken 58 = .ok (.ifCond .eq 8, 3) := by decide +kernel
theorem dX10_taken_61 : decode cX10_taken 61 = .ok (.iload 4, 2) := by decide +kernel
theorem dX10_taken_63 : decode cX10_taken 63 = .ok (.goto 5, 3) := by decide +kernel
theorem dX10_taken_66 : decode cX10_taken 66 = .ok (.bipush (-12), 2) := by decide +kernel
theorem dX10_taken_68 : decode cX10_taken 68 = .ok (.ireturn, 1) := by decide +kernel
theorem dX10_count_0 : decode cX10_count 0 = .ok (.iload_n 1, 1) := by decide +kernel
theorem dX10_count_1 : decode cX10_count 1 = .ok (.tableswitch 87 0 5 #[39, 47, 55, 63, 71, 79], 39) := by decide +kernel
theorem dX10_count_40 : decode cX10_count 40 = .ok (.aload_n 0, 1) := by decide +kernel
theorem dX10_count_41 : decode cX10_count 41 = .ok (.getfield 10, 3) := by decide +kernel
theorem dX10_count_44 : decode cX10_count 44 = .ok (.getfield 132, 3) := by decide +kernel
theorem dX10_count_47 : decode cX10_count 47 = .ok (.ireturn, 1) := by decide +kernel
theorem dX10_count_48 : decode cX10_count 48 = .ok (.aload_n 0, 1) := by decide +kernel
theorem dX10_count_49 : decode cX10_count 49 = .ok (.getfield 10, 3) := by decide +kernel
theorem dX10_count_52 : decode cX10_count 52 = .ok (.getfield 255, 3) := by decide +kernel
theorem dX10_count_55 : decode cX10_count 55 = .ok (.ireturn, 1) := by decide +kernel
theorem dX10_count_56 : decode cX10_count 56 = .ok (.aload_n 0, 1) := by decide +kernel
theorem dX10_count_57 : decode cX10_count 57 = .ok (.getfield 19, 3) := by decide +kernel
theorem dX10_count_60 : decode cX10_count 60 = .ok (.getfield 339, 3) := by decide +kernel
theorem dX10_count_63 : decode cX10_count 63 = .ok (.ireturn, 1) := by decide +kernel
theorem dX10_count_64 : decode cX10_count 64 = .ok (.aload_n 0, 1) := by decide +kernel
theorem dX10_count_65 : decode cX10_count 65 = .ok (.getfield 60, 3) := by decide +kernel
theorem dX10_count_68 : decode cX10_count 68 = .ok (.getfield 342, 3) := by decide +kernel
theorem dX10_count_71 : decode cX10_count 71 = .ok (.ireturn, 1) := by decide +kernel
theorem dX10_count_72 : decode cX10_count 72 = .ok (.aload_n 0, 1) := by decide +kernel
theorem dX10_count_73 : decode cX10_count 73 = .ok (.getfield 74, 3) := by decide +kernel
theorem dX10_count_76 : decode cX10_count 76 = .ok (.getfield 304, 3) := by decide +kernel
theorem dX10_count_79 : decode cX10_count 79 = .ok (.ireturn, 1) := by decide +kernel
theorem dX10_count_80 : decode cX10_count 80 = .ok (.aload_n 0, 1) := by decide +kernel
theorem dX10_count_81 : decode cX10_count 81 = .ok (.getfield 74, 3) := by decide +kernel
theorem dX10_count_84 : decode cX10_count 84 = .ok (.getfield 345, 3) := by decide +kernel
theorem dX10_count_87 : decode cX10_count 87 = .ok (.ireturn, 1) := by decide +kernel
theorem dX10_count_88 : decode cX10_count 88 = .ok (.iconst (-1), 1) := by decide +kernel
theorem dX10_count_89 : decode cX10_count 89 = .ok (.ireturn, 1) := by decide +kernel
theorem dX10_isHour_0 : decode cX10_isHour 0 = .ok (.iload_n 0, 1) := by decide +kernel
theorem dX10_isHour_1 : decode cX10_isHour 1 = .ok (.ifCond .lt 13, 3) := by decide +kernel
theorem dX10_isHour_4 : decode cX10_isHour 4 = .ok (.iload_n 0, 1) := by decide +kernel
theorem dX10_isHour_5 : decode cX10_isHour 5 = .ok (.bipush 12, 2) := by decide +kernel
theorem dX10_isHour_7 : decode cX10_isHour 7 = .ok (.if_icmp .ge 7, 3) := by decide +kernel
theorem dX10_isHour_10 : decode cX10_isHour 10 = .ok (.iconst 1, 1) := by decide +kernel
theorem dX10_isHour_11 : decode cX10_isHour 11 = .ok (.goto 4, 3) := by decide +kernel
theorem dX10_isHour_14 : decode cX10_isHour 14 = .ok (.iconst 0, 1) := by decide +kernel
theorem dX10_isHour_15 : decode cX10_isHour 15 = .ok (.ireturn, 1) := by decide +kernel
theorem dX10_isShelf_0 : decode cX10_isShelf 0 = .ok (.iload_n 0, 1) := by decide +kernel
theorem dX10_isShelf_1 : decode cX10_isShelf 1 = .ok (.ifCond .lt 13, 3) := by decide +kernel
theorem dX10_isShelf_4 : decode cX10_isShelf 4 = .ok (.iload_n 0, 1) := by decide +kernel
