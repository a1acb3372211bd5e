theorem dX9_init_0 : decode cX9_init 0 = .ok (.aload_n 0, 1) := by decide +kernel
theorem dX9_init_1 : decode cX9_init 1 = .ok (.invokespecial 3, 3) := by decide +kernel
theorem dX9_init_4 : decode cX9_init 4 = .ok (.aload_n 0, 1) := by decide +kernel
theorem dX9_init_5 : decode cX9_init 5 = .ok (.sipush 1728, 3) := by decide +kernel
theorem dX9_init_8 : decode cX9_init 8 = .ok (.newarray .int, 2) := by decide +kernel
theorem dX9_init_10 : decode cX9_init 10 = .ok (.putfield 9, 3) := by decide +kernel
theorem dX9_init_13 : decode cX9_init 13 = .ok (.aload_n 0, 1) := by decide +kernel
theorem dX9_init_14 : decode cX9_init 14 = .ok (.sipush 1728, 3) := by decide +kernel
theorem dX9_init_17 : decode cX9_init 17 = .ok (.newarray .int, 2) := by decide +kernel
theorem dX9_init_19 : decode cX9_init 19 = .ok (.putfield 15, 3) := by decide +kernel
theorem dX9_init_22 : decode cX9_init 22 = .ok (.aload_n 0, 1) := by decide +kernel
theorem dX9_init_23 : decode cX9_init 23 = .ok (.aload_n 1, 1) := by decide +kernel
theorem dX9_init_24 : decode cX9_init 24 = .ok (.putfield 18, 3) := by decide +kernel
theorem dX9_init_27 : decode cX9_init 27 = .ok (.aload_n 0, 1) := by decide +kernel
theorem dX9_init_28 : decode cX9_init 28 = .ok (.aload_n 2, 1) := by decide +kernel
theorem dX9_init_29 : decode cX9_init 29 = .ok (.putfield 22, 3) := by decide +kernel
theorem dX9_init_32 : decode cX9_init 32 = .ok (.return_, 1) := by decide +kernel
theorem dX9_winningStep_0 : decode cX9_winningStep 0 = .ok (.aload_n 0, 1) := by decide +kernel
theorem dX9_winningStep_1 : decode cX9_winningStep 1 = .ok (.getfield 18, 3) := by decide +kernel
theorem dX9_winningStep_4 : decode cX9_winningStep 4 = .ok (.iload_n 1, 1) := by decide +kernel
theorem dX9_winningStep_5 : decode cX9_winningStep 5 = .ok (.iconst 0, 1) := by decide +kernel
theorem dX9_winningStep_6 : decode cX9_winningStep 6 = .ok (.invokevirtual 26, 3) := by decide +kernel
theorem dX9_winningStep_9 : decode cX9_winningStep 9 = .ok (.istore 5, 2) := by decide +kernel
theorem dX9_winningStep_11 : decode cX9_winningStep 11 = .ok (.aload_n 0, 1) := by decide +kernel
theorem dX9_winningStep_12 : decode cX9_winningStep 12 = .ok (.getfield 18, 3) := by decide +kernel
theorem dX9_winningStep_15 : decode cX9_winningStep 15 = .ok (.iload_n 2, 1) := by decide +kernel
theorem dX9_winningStep_16 : decode cX9_winningStep 16 = .ok (.iconst 4, 1) := by decide +kernel
theorem dX9_winningStep_17 : decode cX9_winningStep 17 = .ok (.invokevirtual 26, 3) := by decide +kernel
theorem dX9_winningStep_20 : decode cX9_winningStep 20 = .ok (.istore 6, 2) := by decide +kernel
theorem dX9_winningStep_22 : decode cX9_winningStep 22 = .ok (.iload 4, 2) := by decide +kernel
theorem dX9_winningStep_24 : decode cX9_winningStep 24 = .ok (.iconst 1, 1) := by decide +kernel
theorem dX9_winningStep_25 : decode cX9_winningStep 25 = .ok (.iadd, 1) := by decide +kernel
theorem dX9_winningStep_26 : decode cX9_winningStep 26 = .ok (.iconst 2, 1) := by decide +kernel
theorem dX9_winningStep_27 : decode cX9_winningStep 27 = .ok (.idiv, 1) := by decide +kernel
theorem dX9_winningStep_28 : decode cX9_winningStep 28 = .ok (.istore 7, 2) := by decide +kernel
theorem dX9_winningStep_30 : decode cX9_winningStep 30 = .ok (.aload_n 0, 1) := by decide +kernel
theorem dX9_winningStep_31 : decode cX9_winningStep 31 = .ok (.iload_n 1, 1) := by decide +kernel
theorem dX9_winningStep_32 : decode cX9_winningStep 32 = .ok (.iload_n 2, 1) := by decide +kernel
theorem dX9_winningStep_33 : decode cX9_winningStep 33 = .ok (.iload_n 3, 1) := by decide +kernel
theorem dX9_winningStep_34 : decode cX9_winningStep 34 = .ok (.iload 7, 2) := by decide +kernel
theorem dX9_winningStep_36 : decode cX9_winningStep 36 = .ok (.invokevirtual 32, 3) := by decide +kernel
theorem dX9_winningStep_39 : decode cX9_winningStep 39 = .ok (.iload 4, 2) := by decide +kernel
theorem dX9_winningStep_41 : decode cX9_winningStep 41 = .ok (.iconst 1, 1) := by decide +kernel
theorem dX9_winningStep_42 : decode cX9_winningStep 42 = .ok (.isub, 1) := by decide +kernel
theorem dX9_winningStep_43 : decode cX9_winningStep 43 = .ok (.istore 8, 2) := by decide +kernel
theorem dX9_winningStep_45 : decode cX9_winningStep 45 = .ok (.iload 8, 2) := by decide +kernel
theorem dX9_winningStep_47 : decode cX9_winningStep 47 = .ok (.ifCond .le 55, 3) := by decide +kernel
theorem dX9_winningStep_50 : decode cX9_winningStep 50 = .ok (.iload 8, 2) := by decide +kernel
theorem dX9_winningStep_52 : decode cX9_winningStep 52 = .ok (.iconst 2, 1) := by decide +kernel
theorem dX9_winningStep_53 : decode cX9_winningStep 53 = .ok (.irem, 1) := by decide +kernel
theorem dX9_winningStep_54 : decode cX9_winningStep 54 = .ok (.ifCond .ne 14, 3) := by decide +kernel
theorem dX9_winningStep_57 : decode cX9_winningStep 57 = .ok (.aload_n 0, 1) := by decide +kernel
theorem dX9_winningStep_58 : decode cX9_winningStep 58 = .ok (.iload 5, 2) := by decide +kernel
theorem dX9_winningStep_60 : decode cX9_winningStep 60 = .ok (.iload 7, 2) := by decide +kernel
theorem dX9_winningStep_62 : decode cX9_winningStep 62 = .ok (.invokevirtual 36, 3) := by decide +kernel
theorem dX9_winningStep_65 : decode cX9_winningStep 65 = .ok (.goto 11, 3) := by decide +kernel
theorem dX9_winningStep_68 : decode cX9_winningStep 68 = .ok (.aload_n 0, 1) := by decide +kernel
theorem dX9_winningStep_69 : decode cX9_winningStep 69 = .ok (.iload 5, 2) := by decide +kernel
theorem dX9_winningStep_71 : decode cX9_winningStep 71 = .ok (.iload 7, 2) := by decide +kernel
theorem dX9_winningStep_73 : decode cX9_winningStep 73 = .ok (.invokevirtual 40, 3) := by decide +kernel
theorem dX9_winningStep_76 : decode cX9_winningStep 76 = .ok (.aload_n 0, 1) := by decide +kernel
theorem dX9_winningStep_77 : decode cX9_winningStep 77 = .ok (.getfield 9, 3) := by decide +kernel
theorem dX9_winningStep_80 : decode cX9_winningStep 80 = .ok (.astore 9, 2) := by decide +kernel
theorem dX9_winningStep_82 : decode cX9_winningStep 82 = .ok (.aload_n 0, 1) := by decide +kernel
theorem dX9_winningStep_83 : decode cX9_winningStep 83 = .ok (.aload_n 0, 1) := by decide +kernel
theorem dX9_winningStep_84 : decode cX9_winningStep 84 = .ok (.getfield 15, 3) := by decide +kernel
theorem dX9_winningStep_87 : decode cX9_winningStep 87 = .ok (.putfield 9, 3) := by decide +kernel
theorem dX9_winningStep_90 : decode cX9_winningStep 90 = .ok (.aload_n 0, 1) := by decide +kernel
theorem dX9_winningStep_91 : decode cX9_winningStep 91 = .ok (.aload 9, 2) := by decide +kernel
theorem dX9_winningStep_93 : decode cX9_winningStep 93 = .ok (.putfield 15, 3) := by decide +kernel
theorem dX9_winningStep_96 : decode cX9_winningStep 96 = .ok (.iinc 8 (-1), 3) := by decide +kernel
theorem dX9_winningStep_99 : decode cX9_winningStep 99 = .ok (.goto (-54), 3) := by decide +kernel
theorem dX9_winningStep_102 : decode cX9_winningStep 102 = .ok (.getstatic 43, 3) := by decide +kernel
theorem dX9_winningStep_105 : decode cX9_winningStep 105 = .ok (.astore 8, 2) := by decide +kernel
theorem dX9_winningStep_107 : decode cX9_winningStep 107 = .ok (.aload 8, 2) := by decide +kernel
theorem dX9_winningStep_109 : decode cX9_winningStep 109 = .ok (.arraylength, 1) := by decide +kernel
theorem dX9_winningStep_110 : decode cX9_winningStep 110 = .ok (.istore 9, 2) := by decide +kernel
theorem dX9_winningStep_112 : decode cX9_winningStep 112 = .ok (.iconst 0, 1) := by decide +kernel
theorem dX9_winningStep_113 : decode cX9_winningStep 113 = .ok (.istore 10, 2) := by decide +kernel
theorem dX9_winningStep_115 : decode cX9_winningStep 115 = .ok (.iload 10, 2) := by decide +kernel
theorem dX9_winningStep_117 : decode cX9_winningStep 117 = .ok (.iload 9, 2) := by decide +kernel
theorem dX9_winningStep_119 : decode cX9_winningStep 119 = .ok (.if_icmp .ge 60, 3) := by decide +kernel
theorem dX9_winningStep_122 : decode cX9_winningStep 122 = .ok (.aload 8, 2) := by decide +kernel
theorem dX9_winningStep_124 : decode cX9_winningStep 124 = .ok (.iload 10, 2) := by decide +kernel
theorem dX9_winningStep_126 : decode cX9_winningStep 126 = .ok (.iaload, 1) := by decide +kernel
theorem dX9_winningStep_127 : decode cX9_winningStep 127 = .ok (.istore 11, 2) := by decide +kernel
theorem dX9_winningStep_129 : decode cX9_winningStep 129 = .ok (.iload 5, 2) := by decide +kernel
theorem dX9_winningStep_131 : decode cX9_winningStep 131 = .ok (.iload 11, 2) := by decide +kernel
theorem dX9_winningStep_133 : decode cX9_winningStep 133 = .ok (.invokestatic 46, 3) := by decide +kernel
theorem dX9_winningStep_136 : decode cX9_winningStep 136 = .ok (.istore 12, 2) := by decide +kernel
theorem dX9_winningStep_138 : decode cX9_winningStep 138 = .ok (.iload 12, 2) := by decide +kernel
theorem dX9_winningStep_140 : decode cX9_winningStep 140 = .ok (.ifCond .lt 33, 3) := by decide +kernel
theorem dX9_winningStep_143 : decode cX9_winningStep 143 = .ok (.aload_n 0, 1) := by decide +kernel
theorem dX9_winningStep_144 : decode cX9_winningStep 144 = .ok (.getfield 9, 3) := by decide +kernel
theorem dX9_winningStep_147 : decode cX9_winningStep 147 = .ok (.bipush 12, 2) := by decide +kernel
theorem dX9_winningStep_149 : decode cX9_winningStep 149 = .ok (.iload 12, 2) := by decide +kernel
theorem dX9_winningStep_151 : decode cX9_winningStep 151 = .ok (.imul, 1) := by decide +kernel
theorem dX9_winningStep_152 : decode cX9_winningStep 152 = .ok (.iload 6, 2) := by decide +kernel
theorem dX9_winningStep_154 : decode cX9_winningStep 154 = .ok (.bipush 12, 2) := by decide +kernel
theorem dX9_winningStep_156 : decode cX9_winningStep 156 = .ok (.idiv, 1) := by decide +kernel
theorem dX9_winningStep_157 : decode cX9_winningStep 157 = .ok (.iadd, 1) := by decide +kernel
theorem dX9_winningStep_158 : decode cX9_winningStep 158 = .ok (.iaload, 1) := by decide +kernel
theorem dX9_winningStep_159 : decode cX9_winningStep 159 = .ok (.iload 6, 2) := by decide +kernel
theorem dX9_winningStep_161 : decode cX9_winningStep 161 = .ok (.bipush 12, 2) := by decide +kernel
theorem dX9_winningStep_163 : decode cX9_winningStep 163 = .ok (.irem, 1) := by decide +kernel
theorem dX9_winningStep_164 : decode cX9_winningStep 164 = .ok (.ishr, 1) := by decide +kernel
theorem dX9_winningStep_165 : decode cX9_winningStep 165 = .ok (.iconst 1, 1) := by decide +kernel
theorem dX9_winningStep_166 : decode cX9_winningStep 166 = .ok (.iand, 1) := by decide +kernel
theorem dX9_winningStep_167 : decode cX9_winningStep 167 = .ok (.ifCond .eq 6, 3) := by decide +kernel
theorem dX9_winningStep_170 : decode cX9_winningStep 170 = .ok (.iload 11, 2) := by decide +kernel
theorem dX9_winningStep_172 : decode cX9_winningStep 172 = .ok (.ireturn, 1) := by decide +kernel
theorem dX9_winningStep_173 : decode cX9_winningStep 173 = .ok (.iinc 10 1, 3) := by decide +kernel
theorem dX9_winningStep_176 : decode cX9_winningStep 176 = .ok (.goto (-61), 3) := by decide +kernel
theorem dX9_winningStep_179 : decode cX9_winningStep 179 = .ok (.iconst (-1), 1) := by decide +kernel
theorem dX9_winningStep_180 : decode cX9_winningStep 180 = .ok (.ireturn, 1) := by decide +kernel
theorem dX9_lastPlaces_0 : decode cX9_lastPlaces 0 = .ok (.aload_n 0, 1) := by decide +kernel
theorem dX9_lastPlaces_1 : decode cX9_lastPlaces 1 = .ok (.getfield 9, 3) := by decide +kernel
theorem dX9_lastPlaces_4 : decode cX9_lastPlaces 4 = .ok (.iconst 0, 1) := by decide +kernel
theorem dX9_lastPlaces_5 : decode cX9_lastPlaces 5 = .ok (.invokestatic 49, 3) := by decide +kernel
theorem dX9_lastPlaces_8 : decode cX9_lastPlaces 8 = .ok (.iconst 0, 1) := by decide +kernel
theorem dX9_lastPlaces_9 : decode cX9_lastPlaces 9 = .ok (.istore 5, 2) := by decide +kernel
theorem dX9_lastPlaces_11 : decode cX9_lastPlaces 11 = .ok (.iload 5, 2) := by decide +kernel
theorem dX9_lastPlaces_13 : decode cX9_lastPlaces 13 = .ok (.sipush 144, 3) := by decide +kernel
theorem dX9_lastPlaces_16 : decode cX9_lastPlaces 16 = .ok (.if_icmp .ge 75, 3) := by decide +kernel
theorem dX9_lastPlaces_19 : decode cX9_lastPlaces 19 = .ok (.iload 5, 2) := by decide +kernel
theorem dX9_lastPlaces_21 : decode cX9_lastPlaces 21 = .ok (.aload_n 0, 1) := by decide +kernel
theorem dX9_lastPlaces_22 : decode cX9_lastPlaces 22 = .ok (.getfield 18, 3) := by decide +kernel
theorem dX9_lastPlaces_25 : decode cX9_lastPlaces 25 = .ok (.iload_n 2, 1) := by decide +kernel
theorem dX9_lastPlaces_26 : decode cX9_lastPlaces 26 = .ok (.iconst 4, 1) := by decide +kernel
theorem dX9_lastPlaces_27 : decode cX9_lastPlaces 27 = .ok (.invokevirtual 26, 3) := by decide +kernel
theorem dX9_lastPlaces_30 : decode cX9_lastPlaces 30 = .ok (.invokestatic 55, 3) := by decide +kernel
theorem dX9_lastPlaces_33 : decode cX9_lastPlaces 33 = .ok (.iload 4, 2) := by decide +kernel
theorem dX9_lastPlaces_35 : decode cX9_lastPlaces 35 = .ok (.if_icmp .gt 50, 3) := by decide +kernel
theorem dX9_lastPlaces_38 : decode cX9_lastPlaces 38 = .ok (.aload_n 0, 1) := by decide +kernel
theorem dX9_lastPlaces_39 : decode cX9_lastPlaces 39 = .ok (.getfield 22, 3) := by decide +kernel
theorem dX9_lastPlaces_42 : decode cX9_lastPlaces 42 = .ok (.iload 5, 2) := by decide +kernel
theorem dX9_lastPlaces_44 : decode cX9_lastPlaces 44 = .ok (.iload_n 3, 1) := by decide +kernel
theorem dX9_lastPlaces_45 : decode cX9_lastPlaces 45 = .ok (.invokevirtual 58, 3) := by decide +kernel
theorem dX9_lastPlaces_48 : decode cX9_lastPlaces 48 = .ok (.aload_n 0, 1) := by decide +kernel
theorem dX9_lastPlaces_49 : decode cX9_lastPlaces 49 = .ok (.getfield 22, 3) := by decide +kernel
theorem dX9_lastPlaces_52 : decode cX9_lastPlaces 52 = .ok (.iload_n 1, 1) := by decide +kernel
theorem dX9_lastPlaces_53 : decode cX9_lastPlaces 53 = .ok (.iload 5, 2) := by decide +kernel
theorem dX9_lastPlaces_55 : decode cX9_lastPlaces 55 = .ok (.iload_n 3, 1) := by decide +kernel
theorem dX9_lastPlaces_56 : decode cX9_lastPlaces 56 = .ok (.invokevirtual 63, 3) := by decide +kernel
theorem dX9_lastPlaces_59 : decode cX9_lastPlaces 59 = .ok (.isub, 1) := by decide +kernel
theorem dX9_lastPlaces_60 : decode cX9_lastPlaces 60 = .ok (.istore 6, 2) := by decide +kernel
theorem dX9_lastPlaces_62 : decode cX9_lastPlaces 62 = .ok (.aload_n 0, 1) := by decide +kernel
theorem dX9_lastPlaces_63 : decode cX9_lastPlaces 63 = .ok (.iload_n 1, 1) := by decide +kernel
theorem dX9_lastPlaces_64 : decode cX9_lastPlaces 64 = .ok (.iload 5, 2) := by decide +kernel
theorem dX9_lastPlaces_66 : decode cX9_lastPlaces 66 = .ok (.iload_n 3, 1) := by decide +kernel
theorem dX9_lastPlaces_67 : decode cX9_lastPlaces 67 = .ok (.iload 4, 2) := by decide +kernel
theorem dX9_lastPlaces_69 : decode cX9_lastPlaces 69 = .ok (.aload_n 0, 1) := by decide +kernel
theorem dX9_lastPlaces_70 : decode cX9_lastPlaces 70 = .ok (.getfield 18, 3) := by decide +kernel
theorem dX9_lastPlaces_73 : decode cX9_lastPlaces 73 = .ok (.iload_n 2, 1) := by decide +kernel
theorem dX9_lastPlaces_74 : decode cX9_lastPlaces 74 = .ok (.bipush 6, 2) := by decide +kernel
theorem dX9_lastPlaces_76 : decode cX9_lastPlaces 76 = .ok (.invokevirtual 26, 3) := by decide +kernel
theorem dX9_lastPlaces_79 : decode cX9_lastPlaces 79 = .ok (.iload 6, 2) := by decide +kernel
theorem dX9_lastPlaces_81 : decode cX9_lastPlaces 81 = .ok (.isub, 1) := by decide +kernel
theorem dX9_lastPlaces_82 : decode cX9_lastPlaces 82 = .ok (.invokevirtual 67, 3) := by decide +kernel
theorem dX9_lastPlaces_85 : decode cX9_lastPlaces 85 = .ok (.iinc 5 1, 3) := by decide +kernel
theorem dX9_lastPlaces_88 : decode cX9_lastPlaces 88 = .ok (.goto (-77), 3) := by decide +kernel
theorem dX9_lastPlaces_91 : decode cX9_lastPlaces 91 = .ok (.return_, 1) := by decide +kernel
theorem dX9_markSeat_0 : decode cX9_markSeat 0 = .ok (.aload_n 0, 1) := by decide +kernel
theorem dX9_markSeat_1 : decode cX9_markSeat 1 = .ok (.getfield 18, 3) := by decide +kernel
theorem dX9_markSeat_4 : decode cX9_markSeat 4 = .ok (.iload_n 1, 1) := by decide +kernel
theorem dX9_markSeat_5 : decode cX9_markSeat 5 = .ok (.iconst 0, 1) := by decide +kernel
theorem dX9_markSeat_6 : decode cX9_markSeat 6 = .ok (.invokevirtual 26, 3) := by decide +kernel
theorem dX9_markSeat_9 : decode cX9_markSeat 9 = .ok (.istore 6, 2) := by decide +kernel
theorem dX9_markSeat_11 : decode cX9_markSeat 11 = .ok (.aload_n 0, 1) := by decide +kernel
theorem dX9_markSeat_12 : decode cX9_markSeat 12 = .ok (.getfield 18, 3) := by decide +kernel
theorem dX9_markSeat_15 : decode cX9_markSeat 15 = .ok (.iload_n 1, 1) := by decide +kernel
theorem dX9_markSeat_16 : decode cX9_markSeat 16 = .ok (.iconst 1, 1) := by decide +kernel
theorem dX9_markSeat_17 : decode cX9_markSeat 17 = .ok (.invokevirtual 26, 3) := by decide +kernel
theorem dX9_markSeat_20 : decode cX9_markSeat 20 = .ok (.istore 7, 2) := by decide +kernel
theorem dX9_markSeat_22 : decode cX9_markSeat 22 = .ok (.iconst 0, 1) := by decide +kernel
theorem dX9_markSeat_23 : decode cX9_markSeat 23 = .ok (.istore 8, 2) := by decide +kernel
theorem dX9_markSeat_25 : decode cX9_markSeat 25 = .ok (.iload 8, 2) := by decide +kernel
theorem dX9_markSeat_27 : decode cX9_markSeat 27 = .ok (.sipush 144, 3) := by decide +kernel
theorem dX9_markSeat_30 : decode cX9_markSeat 30 = .ok (.if_icmp .ge 64, 3) := by decide +kernel
theorem dX9_markSeat_33 : decode cX9_markSeat 33 = .ok (.iload 8, 2) := by decide +kernel
theorem dX9_markSeat_35 : decode cX9_markSeat 35 = .ok (.iload 6, 2) := by decide +kernel
theorem dX9_markSeat_37 : decode cX9_markSeat 37 = .ok (.invokestatic 55, 3) := by decide +kernel
theorem dX9_markSeat_40 : decode cX9_markSeat 40 = .ok (.iload 4, 2) := by decide +kernel
theorem dX9_markSeat_42 : decode cX9_markSeat 42 = .ok (.if_icmp .gt 46, 3) := by decide +kernel
theorem dX9_markSeat_45 : decode cX9_markSeat 45 = .ok (.aload_n 0, 1) := by decide +kernel
theorem dX9_markSeat_46 : decode cX9_markSeat 46 = .ok (.getfield 22, 3) := by decide +kernel
theorem dX9_markSeat_49 : decode cX9_markSeat 49 = .ok (.iload_n 1, 1) := by decide +kernel
theorem dX9_markSeat_50 : decode cX9_markSeat 50 = .ok (.iload 8, 2) := by decide +kernel
theorem dX9_markSeat_52 : decode cX9_markSeat 52 = .ok (.iload 7, 2) := by decide +kernel
theorem dX9_markSeat_54 : decode cX9_markSeat 54 = .ok (.iload_n 2, 1) := by decide +kernel
theorem dX9_markSeat_55 : decode cX9_markSeat 55 = .ok (.iload_n 3, 1) := by decide +kernel
theorem dX9_markSeat_56 : decode cX9_markSeat 56 = .ok (.invokevirtual 71, 3) := by decide +kernel
theorem dX9_markSeat_59 : decode cX9_markSeat 59 = .ok (.iload 5, 2) := by decide +kernel
theorem dX9_markSeat_61 : decode cX9_markSeat 61 = .ok (.if_icmp .lt 27, 3) := by decide +kernel
theorem dX9_markSeat_64 : decode cX9_markSeat 64 = .ok (.aload_n 0, 1) := by decide +kernel
theorem dX9_markSeat_65 : decode cX9_markSeat 65 = .ok (.getfield 9, 3) := by decide +kernel
theorem dX9_markSeat_68 : decode cX9_markSeat 68 = .ok (.bipush 12, 2) := by decide +kernel
theorem dX9_markSeat_70 : decode cX9_markSeat 70 = .ok (.iload 8, 2) := by decide +kernel
theorem dX9_markSeat_72 : decode cX9_markSeat 72 = .ok (.imul, 1) := by decide +kernel
theorem dX9_markSeat_73 : decode cX9_markSeat 73 = .ok (.iload_n 2, 1) := by decide +kernel
theorem dX9_markSeat_74 : decode cX9_markSeat 74 = .ok (.bipush 12, 2) := by decide +kernel
theorem dX9_markSeat_76 : decode cX9_markSeat 76 = .ok (.idiv, 1) := by decide +kernel
theorem dX9_markSeat_77 : decode cX9_markSeat 77 = .ok (.iadd, 1) := by decide +kernel
theorem dX9_markSeat_78 : decode cX9_markSeat 78 = .ok (.dup2, 1) := by decide +kernel
theorem dX9_markSeat_79 : decode cX9_markSeat 79 = .ok (.iaload, 1) := by decide +kernel
theorem dX9_markSeat_80 : decode cX9_markSeat 80 = .ok (.iconst 1, 1) := by decide +kernel
theorem dX9_markSeat_81 : decode cX9_markSeat 81 = .ok (.iload_n 2, 1) := by decide +kernel
theorem dX9_markSeat_82 : decode cX9_markSeat 82 = .ok (.bipush 12, 2) := by decide +kernel
theorem dX9_markSeat_84 : decode cX9_markSeat 84 = .ok (.irem, 1) := by decide +kernel
theorem dX9_markSeat_85 : decode cX9_markSeat 85 = .ok (.ishl, 1) := by decide +kernel
theorem dX9_markSeat_86 : decode cX9_markSeat 86 = .ok (.ior, 1) := by decide +kernel
theorem dX9_markSeat_87 : decode cX9_markSeat 87 = .ok (.iastore, 1) := by decide +kernel
theorem dX9_markSeat_88 : decode cX9_markSeat 88 = .ok (.iinc 8 1, 3) := by decide +kernel
theorem dX9_markSeat_91 : decode cX9_markSeat 91 = .ok (.goto (-66), 3) := by decide +kernel
theorem dX9_markSeat_94 : decode cX9_markSeat 94 = .ok (.return_, 1) := by decide +kernel
theorem dX9_sitterMoves_0 : decode cX9_sitterMoves 0 = .ok (.iconst 0, 1) := by decide +kernel
theorem dX9_sitterMoves_1 : decode cX9_sitterMoves 1 = .ok (.istore_n 3, 1) := by decide +kernel
theorem dX9_sitterMoves_2 : decode cX9_sitterMoves 2 = .ok (.iload_n 3, 1) := by decide +kernel
theorem dX9_sitterMoves_3 : decode cX9_sitterMoves 3 = .ok (.sipush 144, 3) := by decide +kernel
theorem dX9_sitterMoves_6 : decode cX9_sitterMoves 6 = .ok (.if_icmp .ge 151, 3) := by decide +kernel
theorem dX9_sitterMoves_9 : decode cX9_sitterMoves 9 = .ok (.iload_n 3, 1) := by decide +kernel
theorem dX9_sitterMoves_10 : decode cX9_sitterMoves 10 = .ok (.iload_n 1, 1) := by decide +kernel
theorem dX9_sitterMoves_11 : decode cX9_sitterMoves 11 = .ok (.invokestatic 55, 3) := by decide +kernel
theorem dX9_sitterMoves_14 : decode cX9_sitterMoves 14 = .ok (.iload_n 2, 1) := by decide +kernel
theorem dX9_sitterMoves_15 : decode cX9_sitterMoves 15 = .ok (.if_icmp .le 6, 3) := by decide +kernel
theorem dX9_sitterMoves_18 : decode cX9_sitterMoves 18 = .ok (.goto 133, 3) := by decide +kernel
theorem dX9_sitterMoves_21 : decode cX9_sitterMoves 21 = .ok (.iconst 0, 1) := by decide +kernel
theorem dX9_sitterMoves_22 : decode cX9_sitterMoves 22 = .ok (.istore 4, 2) := by decide +kernel
theorem dX9_sitterMoves_24 : decode cX9_sitterMoves 24 = .ok (.iload 4, 2) := by decide +kernel
theorem dX9_sitterMoves_26 : decode cX9_sitterMoves 26 = .ok (.bipush 12, 2) := by decide +kernel
theorem dX9_sitterMoves_28 : decode cX9_sitterMoves 28 = .ok (.if_icmp .ge 123, 3) := by decide +kernel
theorem dX9_sitterMoves_31 : decode cX9_sitterMoves 31 = .ok (.aload_n 0, 1) := by decide +kernel
theorem dX9_sitterMoves_32 : decode cX9_sitterMoves 32 = .ok (.getfield 9, 3) := by decide +kernel
theorem dX9_sitterMoves_35 : decode cX9_sitterMoves 35 = .ok (.bipush 12, 2) := by decide +kernel
theorem dX9_sitterMoves_37 : decode cX9_sitterMoves 37 = .ok (.iload_n 3, 1) := by decide +kernel
theorem dX9_sitterMoves_38 : decode cX9_sitterMoves 38 = .ok (.imul, 1) := by decide +kernel
theorem dX9_sitterMoves_39 : decode cX9_sitterMoves 39 = .ok (.iload 4, 2) := by decide +kernel
theorem dX9_sitterMoves_41 : decode cX9_sitterMoves 41 = .ok (.iadd, 1) := by decide +kernel
theorem dX9_sitterMoves_42 : decode cX9_sitterMoves 42 = .ok (.iaload, 1) := by decide +kernel
theorem dX9_sitterMoves_43 : decode cX9_sitterMoves 43 = .ok (.istore 5, 2) := by decide +kernel
theorem dX9_sitterMoves_45 : decode cX9_sitterMoves 45 = .ok (.iload 5, 2) := by decide +kernel
theorem dX9_sitterMoves_47 : decode cX9_sitterMoves 47 = .ok (.iconst 1, 1) := by decide +kernel
theorem dX9_sitterMoves_48 : decode cX9_sitterMoves 48 = .ok (.ishl, 1) := by decide +kernel
theorem dX9_sitterMoves_49 : decode cX9_sitterMoves 49 = .ok (.iconst 1, 1) := by decide +kernel
theorem dX9_sitterMoves_50 : decode cX9_sitterMoves 50 = .ok (.ior, 1) := by decide +kernel
theorem dX9_sitterMoves_51 : decode cX9_sitterMoves 51 = .ok (.istore 6, 2) := by decide +kernel
theorem dX9_sitterMoves_53 : decode cX9_sitterMoves 53 = .ok (.iload 5, 2) := by decide +kernel
theorem dX9_sitterMoves_55 : decode cX9_sitterMoves 55 = .ok (.iconst 1, 1) := by decide +kernel
theorem dX9_sitterMoves_56 : decode cX9_sitterMoves 56 = .ok (.ishr, 1) := by decide +kernel
theorem dX9_sitterMoves_57 : decode cX9_sitterMoves 57 = .ok (.sipush 2048, 3) := by decide +kernel
theorem dX9_sitterMoves_60 : decode cX9_sitterMoves 60 = .ok (.ior, 1) := by decide +kernel
theorem dX9_sitterMoves_61 : decode cX9_sitterMoves 61 = .ok (.istore 7, 2) := by decide +kernel
theorem dX9_sitterMoves_63 : decode cX9_sitterMoves 63 = .ok (.iload 4, 2) := by decide +kernel
theorem dX9_sitterMoves_65 : decode cX9_sitterMoves 65 = .ok (.ifCond .le 20, 3) := by decide +kernel
theorem dX9_sitterMoves_68 : decode cX9_sitterMoves 68 = .ok (.aload_n 0, 1) := by decide +kernel
theorem dX9_sitterMoves_69 : decode cX9_sitterMoves 69 = .ok (.getfield 9, 3) := by decide +kernel
theorem dX9_sitterMoves_72 : decode cX9_sitterMoves 72 = .ok (.bipush 12, 2) := by decide +kernel
theorem dX9_sitterMoves_74 : decode cX9_sitterMoves 74 = .ok (.iload_n 3, 1) := by decide +kernel
theorem dX9_sitterMoves_75 : decode cX9_sitterMoves 75 = .ok (.imul, 1) := by decide +kernel
theorem dX9_sitterMoves_76 : decode cX9_sitterMoves 76 = .ok (.iload 4, 2) := by decide +kernel
theorem dX9_sitterMoves_78 : decode cX9_sitterMoves 78 = .ok (.iadd, 1) := by decide +kernel
theorem dX9_sitterMoves_79 : decode cX9_sitterMoves 79 = .ok (.iconst 1, 1) := by decide +kernel
theorem dX9_sitterMoves_80 : decode cX9_sitterMoves 80 = .ok (.isub, 1) := by decide +kernel
theorem dX9_sitterMoves_81 : decode cX9_sitterMoves 81 = .ok (.iaload, 1) := by decide +kernel
theorem dX9_sitterMoves_82 : decode cX9_sitterMoves 82 = .ok (.goto 6, 3) := by decide +kernel
theorem dX9_sitterMoves_85 : decode cX9_sitterMoves 85 = .ok (.sipush 4095, 3) := by decide +kernel
theorem dX9_sitterMoves_88 : decode cX9_sitterMoves 88 = .ok (.istore 8, 2) := by decide +kernel
theorem dX9_sitterMoves_90 : decode cX9_sitterMoves 90 = .ok (.iload 4, 2) := by decide +kernel
theorem dX9_sitterMoves_92 : decode cX9_sitterMoves 92 = .ok (.bipush 11, 2) := by decide +kernel
theorem dX9_sitterMoves_94 : decode cX9_sitterMoves 94 = .ok (.if_icmp .ge 20, 3) := by decide +kernel
theorem dX9_sitterMoves_97 : decode cX9_sitterMoves 97 = .ok (.aload_n 0, 1) := by decide +kernel
theorem dX9_sitterMoves_98 : decode cX9_sitterMoves 98 = .ok (.getfield 9, 3) := by decide +kernel
theorem dX9_sitterMoves_101 : decode cX9_sitterMoves 101 = .ok (.bipush 12, 2) := by decide +kernel
theorem dX9_sitterMoves_103 : decode cX9_sitterMoves 103 = .ok (.iload_n 3, 1) := by decide +kernel
theorem dX9_sitterMoves_104 : decode cX9_sitterMoves 104 = .ok (.imul, 1) := by decide +kernel
theorem dX9_sitterMoves_105 : decode cX9_sitterMoves 105 = .ok (.iload 4, 2) := by decide +kernel
theorem dX9_sitterMoves_107 : decode cX9_sitterMoves 107 = .ok (.iadd, 1) := by decide +kernel
theorem dX9_sitterMoves_108 : decode cX9_sitterMoves 108 = .ok (.iconst 1, 1) := by decide +kernel
theorem dX9_sitterMoves_109 : decode cX9_sitterMoves 109 = .ok (.iadd, 1) := by decide +kernel
theorem dX9_sitterMoves_110 : decode cX9_sitterMoves 110 = .ok (.iaload, 1) := by decide +kernel
theorem dX9_sitterMoves_111 : decode cX9_sitterMoves 111 = .ok (.goto 6, 3) := by decide +kernel
theorem dX9_sitterMoves_114 : decode cX9_sitterMoves 114 = .ok (.sipush 4095, 3) := by decide +kernel
theorem dX9_sitterMoves_117 : decode cX9_sitterMoves 117 = .ok (.istore 9, 2) := by decide +kernel
theorem dX9_sitterMoves_119 : decode cX9_sitterMoves 119 = .ok (.aload_n 0, 1) := by decide +kernel
theorem dX9_sitterMoves_120 : decode cX9_sitterMoves 120 = .ok (.getfield 15, 3) := by decide +kernel
theorem dX9_sitterMoves_123 : decode cX9_sitterMoves 123 = .ok (.bipush 12, 2) := by decide +kernel
theorem dX9_sitterMoves_125 : decode cX9_sitterMoves 125 = .ok (.iload_n 3, 1) := by decide +kernel
theorem dX9_sitterMoves_126 : decode cX9_sitterMoves 126 = .ok (.imul, 1) := by decide +kernel
theorem dX9_sitterMoves_127 : decode cX9_sitterMoves 127 = .ok (.iload 4, 2) := by decide +kernel
theorem dX9_sitterMoves_129 : decode cX9_sitterMoves 129 = .ok (.iadd, 1) := by decide +kernel
theorem dX9_sitterMoves_130 : decode cX9_sitterMoves 130 = .ok (.iload 5, 2) := by decide +kernel
theorem dX9_sitterMoves_132 : decode cX9_sitterMoves 132 = .ok (.iload 6, 2) := by decide +kernel
theorem dX9_sitterMoves_134 : decode cX9_sitterMoves 134 = .ok (.iand, 1) := by decide +kernel
theorem dX9_sitterMoves_135 : decode cX9_sitterMoves 135 = .ok (.iload 7, 2) := by decide +kernel
theorem dX9_sitterMoves_137 : decode cX9_sitterMoves 137 = .ok (.iand, 1) := by decide +kernel
theorem dX9_sitterMoves_138 : decode cX9_sitterMoves 138 = .ok (.iload 8, 2) := by decide +kernel
theorem dX9_sitterMoves_140 : decode cX9_sitterMoves 140 = .ok (.iand, 1) := by decide +kernel
theorem dX9_sitterMoves_141 : decode cX9_sitterMoves 141 = .ok (.iload 9, 2) := by decide +kernel
theorem dX9_sitterMoves_143 : decode cX9_sitterMoves 143 = .ok (.iand, 1) := by decide +kernel
theorem dX9_sitterMoves_144 : decode cX9_sitterMoves 144 = .ok (.iastore, 1) := by decide +kernel
theorem dX9_sitterMoves_145 : decode cX9_sitterMoves 145 = .ok (.iinc 4 1, 3) := by decide +kernel
theorem dX9_sitterMoves_148 : decode cX9_sitterMoves 148 = .ok (.goto (-124), 3) := by decide +kernel
theorem dX9_sitterMoves_151 : decode cX9_sitterMoves 151 = .ok (.iinc 3 1, 3) := by decide +kernel
theorem dX9_sitterMoves_154 : decode cX9_sitterMoves 154 = .ok (.goto (-152), 3) := by decide +kernel
theorem dX9_sitterMoves_157 : decode cX9_sitterMoves 157 = .ok (.return_, 1) := by decide +kernel
theorem dX9_manMoves_0 : decode cX9_manMoves 0 = .ok (.iconst 0, 1) := by decide +kernel
theorem dX9_manMoves_1 : decode cX9_manMoves 1 = .ok (.istore_n 3, 1) := by decide +kernel
theorem dX9_manMoves_2 : decode cX9_manMoves 2 = .ok (.iload_n 3, 1) := by decide +kernel
theorem dX9_manMoves_3 : decode cX9_manMoves 3 = .ok (.sipush 144, 3) := by decide +kernel
theorem dX9_manMoves_6 : decode cX9_manMoves 6 = .ok (.if_icmp .ge 110, 3) := by decide +kernel
theorem dX9_manMoves_9 : decode cX9_manMoves 9 = .ok (.iload_n 3, 1) := by decide +kernel
theorem dX9_manMoves_10 : decode cX9_manMoves 10 = .ok (.iload_n 1, 1) := by decide +kernel
theorem dX9_manMoves_11 : decode cX9_manMoves 11 = .ok (.invokestatic 55, 3) := by decide +kernel
theorem dX9_manMoves_14 : decode cX9_manMoves 14 = .ok (.iload_n 2, 1) := by decide +kernel
theorem dX9_manMoves_15 : decode cX9_manMoves 15 = .ok (.if_icmp .le 6, 3) := by decide +kernel
theorem dX9_manMoves_18 : decode cX9_manMoves 18 = .ok (.goto 92, 3) := by decide +kernel
theorem dX9_manMoves_21 : decode cX9_manMoves 21 = .ok (.iconst 0, 1) := by decide +kernel
theorem dX9_manMoves_22 : decode cX9_manMoves 22 = .ok (.istore 4, 2) := by decide +kernel
theorem dX9_manMoves_24 : decode cX9_manMoves 24 = .ok (.iload 4, 2) := by decide +kernel
theorem dX9_manMoves_26 : decode cX9_manMoves 26 = .ok (.bipush 12, 2) := by decide +kernel
theorem dX9_manMoves_28 : decode cX9_manMoves 28 = .ok (.if_icmp .ge 82, 3) := by decide +kernel
theorem dX9_manMoves_31 : decode cX9_manMoves 31 = .ok (.iconst 0, 1) := by decide +kernel
theorem dX9_manMoves_32 : decode cX9_manMoves 32 = .ok (.istore 5, 2) := by decide +kernel
theorem dX9_manMoves_34 : decode cX9_manMoves 34 = .ok (.iconst 0, 1) := by decide +kernel
theorem dX9_manMoves_35 : decode cX9_manMoves 35 = .ok (.istore 6, 2) := by decide +kernel
theorem dX9_manMoves_37 : decode cX9_manMoves 37 = .ok (.iload 6, 2) := by decide +kernel
theorem dX9_manMoves_39 : decode cX9_manMoves 39 = .ok (.iconst 4, 1) := by decide +kernel
theorem dX9_manMoves_40 : decode cX9_manMoves 40 = .ok (.if_icmp .gt 50, 3) := by decide +kernel
theorem dX9_manMoves_43 : decode cX9_manMoves 43 = .ok (.iload_n 3, 1) := by decide +kernel
theorem dX9_manMoves_44 : decode cX9_manMoves 44 = .ok (.iload 6, 2) := by decide +kernel
theorem dX9_manMoves_46 : decode cX9_manMoves 46 = .ok (.invokestatic 46, 3) := by decide +kernel
theorem dX9_manMoves_49 : decode cX9_manMoves 49 = .ok (.istore 7, 2) := by decide +kernel
theorem dX9_manMoves_51 : decode cX9_manMoves 51 = .ok (.iload 7, 2) := by decide +kernel
theorem dX9_manMoves_53 : decode cX9_manMoves 53 = .ok (.ifCond .lt 31, 3) := by decide +kernel
theorem dX9_manMoves_56 : decode cX9_manMoves 56 = .ok (.iload 7, 2) := by decide +kernel
theorem dX9_manMoves_58 : decode cX9_manMoves 58 = .ok (.iload_n 1, 1) := by decide +kernel
theorem dX9_manMoves_59 : decode cX9_manMoves 59 = .ok (.invokestatic 55, 3) := by decide +kernel
theorem dX9_manMoves_62 : decode cX9_manMoves 62 = .ok (.iload_n 2, 1) := by decide +kernel
theorem dX9_manMoves_63 : decode cX9_manMoves 63 = .ok (.if_icmp .gt 21, 3) := by decide +kernel
theorem dX9_manMoves_66 : decode cX9_manMoves 66 = .ok (.iload 5, 2) := by decide +kernel
theorem dX9_manMoves_68 : decode cX9_manMoves 68 = .ok (.aload_n 0, 1) := by decide +kernel
theorem dX9_manMoves_69 : decode cX9_manMoves 69 = .ok (.getfield 9, 3) := by decide +kernel
theorem dX9_manMoves_72 : decode cX9_manMoves 72 = .ok (.bipush 12, 2) := by decide +kernel
theorem dX9_manMoves_74 : decode cX9_manMoves 74 = .ok (.iload 7, 2) := by decide +kernel
theorem dX9_manMoves_76 : decode cX9_manMoves 76 = .ok (.imul, 1) := by decide +kernel
theorem dX9_manMoves_77 : decode cX9_manMoves 77 = .ok (.iload 4, 2) := by decide +kernel
theorem dX9_manMoves_79 : decode cX9_manMoves 79 = .ok (.iadd, 1) := by decide +kernel
theorem dX9_manMoves_80 : decode cX9_manMoves 80 = .ok (.iaload, 1) := by decide +kernel
theorem dX9_manMoves_81 : decode cX9_manMoves 81 = .ok (.ior, 1) := by decide +kernel
theorem dX9_manMoves_82 : decode cX9_manMoves 82 = .ok (.istore 5, 2) := by decide +kernel
theorem dX9_manMoves_84 : decode cX9_manMoves 84 = .ok (.iinc 6 1, 3) := by decide +kernel
theorem dX9_manMoves_87 : decode cX9_manMoves 87 = .ok (.goto (-50), 3) := by decide +kernel
theorem dX9_manMoves_90 : decode cX9_manMoves 90 = .ok (.aload_n 0, 1) := by decide +kernel
theorem dX9_manMoves_91 : decode cX9_manMoves 91 = .ok (.getfield 15, 3) := by decide +kernel
theorem dX9_manMoves_94 : decode cX9_manMoves 94 = .ok (.bipush 12, 2) := by decide +kernel
theorem dX9_manMoves_96 : decode cX9_manMoves 96 = .ok (.iload_n 3, 1) := by decide +kernel
theorem dX9_manMoves_97 : decode cX9_manMoves 97 = .ok (.imul, 1) := by decide +kernel
theorem dX9_manMoves_98 : decode cX9_manMoves 98 = .ok (.iload 4, 2) := by decide +kernel
theorem dX9_manMoves_100 : decode cX9_manMoves 100 = .ok (.iadd, 1) := by decide +kernel
theorem dX9_manMoves_101 : decode cX9_manMoves 101 = .ok (.iload 5, 2) := by decide +kernel
theorem dX9_manMoves_103 : decode cX9_manMoves 103 = .ok (.iastore, 1) := by decide +kernel
theorem dX9_manMoves_104 : decode cX9_manMoves 104 = .ok (.iinc 4 1, 3) := by decide +kernel
theorem dX9_manMoves_107 : decode cX9_manMoves 107 = .ok (.goto (-83), 3) := by decide +kernel
theorem dX9_manMoves_110 : decode cX9_manMoves 110 = .ok (.iinc 3 1, 3) := by decide +kernel
theorem dX9_manMoves_113 : decode cX9_manMoves 113 = .ok (.goto (-111), 3) := by decide +kernel
theorem dX9_manMoves_116 : decode cX9_manMoves 116 = .ok (.return_, 1) := by decide +kernel
theorem dX9_apart_0 : decode cX9_apart 0 = .ok (.iload_n 0, 1) := by decide +kernel
theorem dX9_apart_1 : decode cX9_apart 1 = .ok (.bipush 12, 2) := by decide +kernel
theorem dX9_apart_3 : decode cX9_apart 3 = .ok (.irem, 1) := by decide +kernel
theorem dX9_apart_4 : decode cX9_apart 4 = .ok (.iload_n 1, 1) := by decide +kernel
theorem dX9_apart_5 : decode cX9_apart 5 = .ok (.bipush 12, 2) := by decide +kernel
theorem dX9_apart_7 : decode cX9_apart 7 = .ok (.irem, 1) := by decide +kernel
theorem dX9_apart_8 : decode cX9_apart 8 = .ok (.isub, 1) := by decide +kernel
theorem dX9_apart_9 : decode cX9_apart 9 = .ok (.invokestatic 75, 3) := by decide +kernel
theorem dX9_apart_12 : decode cX9_apart 12 = .ok (.iload_n 0, 1) := by decide +kernel
theorem dX9_apart_13 : decode cX9_apart 13 = .ok (.bipush 12, 2) := by decide +kernel
theorem dX9_apart_15 : decode cX9_apart 15 = .ok (.idiv, 1) := by decide +kernel
theorem dX9_apart_16 : decode cX9_apart 16 = .ok (.iload_n 1, 1) := by decide +kernel
theorem dX9_apart_17 : decode cX9_apart 17 = .ok (.bipush 12, 2) := by decide +kernel
theorem dX9_apart_19 : decode cX9_apart 19 = .ok (.idiv, 1) := by decide +kernel
theorem dX9_apart_20 : decode cX9_apart 20 = .ok (.isub, 1) := by decide +kernel
theorem dX9_apart_21 : decode cX9_apart 21 = .ok (.invokestatic 75, 3) := by decide +kernel
theorem dX9_apart_24 : decode cX9_apart 24 = .ok (.iadd, 1) := by decide +kernel
theorem dX9_apart_25 : decode cX9_apart 25 = .ok (.ireturn, 1) := by decide +kernel
