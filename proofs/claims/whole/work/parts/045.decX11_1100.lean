theorem dX11_one_213 : decode cX11_one 213 = .ok (.iinc 4 1, 3) := by decide +kernel
theorem dX11_one_216 : decode cX11_one 216 = .ok (.aload_n 0, 1) := by decide +kernel
theorem dX11_one_217 : decode cX11_one 217 = .ok (.dup, 1) := by decide +kernel
theorem dX11_one_218 : decode cX11_one 218 = .ok (.getfield 144, 3) := by decide +kernel
theorem dX11_one_221 : decode cX11_one 221 = .ok (.iconst 1, 1) := by decide +kernel
theorem dX11_one_222 : decode cX11_one 222 = .ok (.iadd, 1) := by decide +kernel
theorem dX11_one_223 : decode cX11_one 223 = .ok (.putfield 144, 3) := by decide +kernel
theorem dX11_one_226 : decode cX11_one 226 = .ok (.goto (-50), 3) := by decide +kernel
theorem dX11_one_229 : decode cX11_one 229 = .ok (.iload 4, 2) := by decide +kernel
theorem dX11_one_231 : decode cX11_one 231 = .ok (.ifCond .ne 10, 3) := by decide +kernel
theorem dX11_one_234 : decode cX11_one 234 = .ok (.aload_n 0, 1) := by decide +kernel
theorem dX11_one_235 : decode cX11_one 235 = .ok (.invokevirtual 181, 3) := by decide +kernel
theorem dX11_one_238 : decode cX11_one 238 = .ok (.goto 4, 3) := by decide +kernel
theorem dX11_one_241 : decode cX11_one 241 = .ok (.iload_n 3, 1) := by decide +kernel
theorem dX11_one_242 : decode cX11_one 242 = .ok (.ireturn, 1) := by decide +kernel
theorem dX11_workOut_0 : decode cX11_workOut 0 = .ok (.aload_n 0, 1) := by decide +kernel
theorem dX11_workOut_1 : decode cX11_workOut 1 = .ok (.iload_n 1, 1) := by decide +kernel
theorem dX11_workOut_2 : decode cX11_workOut 2 = .ok (.putfield 150, 3) := by decide +kernel
theorem dX11_workOut_5 : decode cX11_workOut 5 = .ok (.aload_n 0, 1) := by decide +kernel
theorem dX11_workOut_6 : decode cX11_workOut 6 = .ok (.iconst 0, 1) := by decide +kernel
theorem dX11_workOut_7 : decode cX11_workOut 7 = .ok (.putfield 144, 3) := by decide +kernel
theorem dX11_workOut_10 : decode cX11_workOut 10 = .ok (.aload_n 0, 1) := by decide +kernel
theorem dX11_workOut_11 : decode cX11_workOut 11 = .ok (.iload_n 2, 1) := by decide +kernel
theorem dX11_workOut_12 : decode cX11_workOut 12 = .ok (.putfield 147, 3) := by decide +kernel
theorem dX11_workOut_15 : decode cX11_workOut 15 = .ok (.aload_n 0, 1) := by decide +kernel
theorem dX11_workOut_16 : decode cX11_workOut 16 = .ok (.iconst (-1), 1) := by decide +kernel
theorem dX11_workOut_17 : decode cX11_workOut 17 = .ok (.putfield 153, 3) := by decide +kernel
theorem dX11_workOut_20 : decode cX11_workOut 20 = .ok (.aload_n 0, 1) := by decide +kernel
theorem dX11_workOut_21 : decode cX11_workOut 21 = .ok (.iconst 0, 1) := by decide +kernel
theorem dX11_workOut_22 : decode cX11_workOut 22 = .ok (.putfield 178, 3) := by decide +kernel
theorem dX11_workOut_25 : decode cX11_workOut 25 = .ok (.iconst 0, 1) := by decide +kernel
theorem dX11_workOut_26 : decode cX11_workOut 26 = .ok (.istore_n 3, 1) := by decide +kernel
theorem dX11_workOut_27 : decode cX11_workOut 27 = .ok (.iconst 0, 1) := by decide +kernel
theorem dX11_workOut_28 : decode cX11_workOut 28 = .ok (.istore 4, 2) := by decide +kernel
theorem dX11_workOut_30 : decode cX11_workOut 30 = .ok (.iconst 1, 1) := by decide +kernel
theorem dX11_workOut_31 : decode cX11_workOut 31 = .ok (.istore 5, 2) := by decide +kernel
theorem dX11_workOut_33 : decode cX11_workOut 33 = .ok (.iload 5, 2) := by decide +kernel
theorem dX11_workOut_35 : decode cX11_workOut 35 = .ok (.ifCond .eq 72, 3) := by decide +kernel
theorem dX11_workOut_38 : decode cX11_workOut 38 = .ok (.aload_n 0, 1) := by decide +kernel
theorem dX11_workOut_39 : decode cX11_workOut 39 = .ok (.invokevirtual 184, 3) := by decide +kernel
theorem dX11_workOut_42 : decode cX11_workOut 42 = .ok (.istore 6, 2) := by decide +kernel
theorem dX11_workOut_44 : decode cX11_workOut 44 = .ok (.iconst 1, 1) := by decide +kernel
theorem dX11_workOut_45 : decode cX11_workOut 45 = .ok (.istore 7, 2) := by decide +kernel
theorem dX11_workOut_47 : decode cX11_workOut 47 = .ok (.aload_n 0, 1) := by decide +kernel
theorem dX11_workOut_48 : decode cX11_workOut 48 = .ok (.bipush 63, 2) := by decide +kernel
theorem dX11_workOut_50 : decode cX11_workOut 50 = .ok (.invokevirtual 163, 3) := by decide +kernel
theorem dX11_workOut_53 : decode cX11_workOut 53 = .ok (.ifCond .eq 21, 3) := by decide +kernel
theorem dX11_workOut_56 : decode cX11_workOut 56 = .ok (.iload 6, 2) := by decide +kernel
theorem dX11_workOut_58 : decode cX11_workOut 58 = .ok (.ifCond .eq 7, 3) := by decide +kernel
theorem dX11_workOut_61 : decode cX11_workOut 61 = .ok (.iconst 1, 1) := by decide +kernel
theorem dX11_workOut_62 : decode cX11_workOut 62 = .ok (.goto 4, 3) := by decide +kernel
theorem dX11_workOut_65 : decode cX11_workOut 65 = .ok (.iconst 0, 1) := by decide +kernel
theorem dX11_workOut_66 : decode cX11_workOut 66 = .ok (.istore 7, 2) := by decide +kernel
theorem dX11_workOut_68 : decode cX11_workOut 68 = .ok (.aload_n 0, 1) := by decide +kernel
theorem dX11_workOut_69 : decode cX11_workOut 69 = .ok (.invokevirtual 184, 3) := by decide +kernel
theorem dX11_workOut_72 : decode cX11_workOut 72 = .ok (.istore 6, 2) := by decide +kernel
theorem dX11_workOut_74 : decode cX11_workOut 74 = .ok (.aload_n 0, 1) := by decide +kernel
theorem dX11_workOut_75 : decode cX11_workOut 75 = .ok (.getfield 153, 3) := by decide +kernel
theorem dX11_workOut_78 : decode cX11_workOut 78 = .ok (.ifCond .ge 18, 3) := by decide +kernel
theorem dX11_workOut_81 : decode cX11_workOut 81 = .ok (.iload 7, 2) := by decide +kernel
theorem dX11_workOut_83 : decode cX11_workOut 83 = .ok (.ifCond .eq 13, 3) := by decide +kernel
theorem dX11_workOut_86 : decode cX11_workOut 86 = .ok (.iload_n 3, 1) := by decide +kernel
theorem dX11_workOut_87 : decode cX11_workOut 87 = .ok (.ifCond .ne 9, 3) := by decide +kernel
theorem dX11_workOut_90 : decode cX11_workOut 90 = .ok (.iconst 1, 1) := by decide +kernel
theorem dX11_workOut_91 : decode cX11_workOut 91 = .ok (.istore_n 3, 1) := by decide +kernel
theorem dX11_workOut_92 : decode cX11_workOut 92 = .ok (.iload 6, 2) := by decide +kernel
theorem dX11_workOut_94 : decode cX11_workOut 94 = .ok (.istore 4, 2) := by decide +kernel
theorem dX11_workOut_96 : decode cX11_workOut 96 = .ok (.aload_n 0, 1) := by decide +kernel
theorem dX11_workOut_97 : decode cX11_workOut 97 = .ok (.bipush 59, 2) := by decide +kernel
theorem dX11_workOut_99 : decode cX11_workOut 99 = .ok (.invokevirtual 163, 3) := by decide +kernel
theorem dX11_workOut_102 : decode cX11_workOut 102 = .ok (.istore 5, 2) := by decide +kernel
theorem dX11_workOut_104 : decode cX11_workOut 104 = .ok (.goto (-71), 3) := by decide +kernel
theorem dX11_workOut_107 : decode cX11_workOut 107 = .ok (.aload_n 0, 1) := by decide +kernel
theorem dX11_workOut_108 : decode cX11_workOut 108 = .ok (.getfield 153, 3) := by decide +kernel
theorem dX11_workOut_111 : decode cX11_workOut 111 = .ok (.ifCond .ge 19, 3) := by decide +kernel
theorem dX11_workOut_114 : decode cX11_workOut 114 = .ok (.aload_n 0, 1) := by decide +kernel
theorem dX11_workOut_115 : decode cX11_workOut 115 = .ok (.getfield 144, 3) := by decide +kernel
theorem dX11_workOut_118 : decode cX11_workOut 118 = .ok (.aload_n 0, 1) := by decide +kernel
theorem dX11_workOut_119 : decode cX11_workOut 119 = .ok (.getfield 147, 3) := by decide +kernel
theorem dX11_workOut_122 : decode cX11_workOut 122 = .ok (.if_icmp .ge 8, 3) := by decide +kernel
theorem dX11_workOut_125 : decode cX11_workOut 125 = .ok (.aload_n 0, 1) := by decide +kernel
theorem dX11_workOut_126 : decode cX11_workOut 126 = .ok (.invokevirtual 181, 3) := by decide +kernel
theorem dX11_workOut_129 : decode cX11_workOut 129 = .ok (.ireturn, 1) := by decide +kernel
theorem dX11_workOut_130 : decode cX11_workOut 130 = .ok (.iload 4, 2) := by decide +kernel
theorem dX11_workOut_132 : decode cX11_workOut 132 = .ok (.ireturn, 1) := by decide +kernel
theorem dX11_law_0 : decode cX11_law 0 = .ok (.aload_n 0, 1) := by decide +kernel
theorem dX11_law_1 : decode cX11_law 1 = .ok (.iconst (-1), 1) := by decide +kernel
theorem dX11_law_2 : decode cX11_law 2 = .ok (.aload_n 0, 1) := by decide +kernel
theorem dX11_law_3 : decode cX11_law 3 = .ok (.getfield 141, 3) := by decide +kernel
theorem dX11_law_6 : decode cX11_law 6 = .ok (.invokevirtual 191, 3) := by decide +kernel
theorem dX11_law_9 : decode cX11_law 9 = .ok (.istore_n 1, 1) := by decide +kernel
theorem dX11_law_10 : decode cX11_law 10 = .ok (.aload_n 0, 1) := by decide +kernel
theorem dX11_law_11 : decode cX11_law 11 = .ok (.getfield 141, 3) := by decide +kernel
theorem dX11_law_14 : decode cX11_law 14 = .ok (.istore_n 2, 1) := by decide +kernel
theorem dX11_law_15 : decode cX11_law 15 = .ok (.aload_n 0, 1) := by decide +kernel
theorem dX11_law_16 : decode cX11_law 16 = .ok (.iconst 0, 1) := by decide +kernel
theorem dX11_law_17 : decode cX11_law 17 = .ok (.putfield 141, 3) := by decide +kernel
theorem dX11_law_20 : decode cX11_law 20 = .ok (.aload_n 0, 1) := by decide +kernel
theorem dX11_law_21 : decode cX11_law 21 = .ok (.getfield 153, 3) := by decide +kernel
theorem dX11_law_24 : decode cX11_law 24 = .ok (.ifCond .lt 11, 3) := by decide +kernel
theorem dX11_law_27 : decode cX11_law 27 = .ok (.bipush (-100), 2) := by decide +kernel
theorem dX11_law_29 : decode cX11_law 29 = .ok (.aload_n 0, 1) := by decide +kernel
theorem dX11_law_30 : decode cX11_law 30 = .ok (.getfield 153, 3) := by decide +kernel
theorem dX11_law_33 : decode cX11_law 33 = .ok (.isub, 1) := by decide +kernel
theorem dX11_law_34 : decode cX11_law 34 = .ok (.ireturn, 1) := by decide +kernel
theorem dX11_law_35 : decode cX11_law 35 = .ok (.iconst 0, 1) := by decide +kernel
theorem dX11_law_36 : decode cX11_law 36 = .ok (.istore_n 3, 1) := by decide +kernel
theorem dX11_law_37 : decode cX11_law 37 = .ok (.iload_n 3, 1) := by decide +kernel
theorem dX11_law_38 : decode cX11_law 38 = .ok (.iload_n 2, 1) := by decide +kernel
theorem dX11_law_39 : decode cX11_law 39 = .ok (.if_icmp .ge 21, 3) := by decide +kernel
theorem dX11_law_42 : decode cX11_law 42 = .ok (.aload_n 0, 1) := by decide +kernel
theorem dX11_law_43 : decode cX11_law 43 = .ok (.getfield 25, 3) := by decide +kernel
theorem dX11_law_46 : decode cX11_law 46 = .ok (.iload_n 3, 1) := by decide +kernel
theorem dX11_law_47 : decode cX11_law 47 = .ok (.aload_n 0, 1) := by decide +kernel
theorem dX11_law_48 : decode cX11_law 48 = .ok (.getfield 22, 3) := by decide +kernel
theorem dX11_law_51 : decode cX11_law 51 = .ok (.iload_n 3, 1) := by decide +kernel
theorem dX11_law_52 : decode cX11_law 52 = .ok (.iaload, 1) := by decide +kernel
theorem dX11_law_53 : decode cX11_law 53 = .ok (.iastore, 1) := by decide +kernel
theorem dX11_law_54 : decode cX11_law 54 = .ok (.iinc 3 1, 3) := by decide +kernel
theorem dX11_law_57 : decode cX11_law 57 = .ok (.goto (-20), 3) := by decide +kernel
theorem dX11_law_60 : decode cX11_law 60 = .ok (.aload_n 0, 1) := by decide +kernel
theorem dX11_law_61 : decode cX11_law 61 = .ok (.iload_n 2, 1) := by decide +kernel
theorem dX11_law_62 : decode cX11_law 62 = .ok (.putfield 65, 3) := by decide +kernel
theorem dX11_law_65 : decode cX11_law 65 = .ok (.iconst 1, 1) := by decide +kernel
theorem dX11_law_66 : decode cX11_law 66 = .ok (.ireturn, 1) := by decide +kernel
theorem dX11_longAt_0 : decode cX11_longAt 0 = .ok (.iload_n 0, 1) := by decide +kernel
theorem dX11_longAt_1 : decode cX11_longAt 1 = .ok (.iconst 4, 1) := by decide +kernel
theorem dX11_longAt_2 : decode cX11_longAt 2 = .ok (.if_icmp .ge 9, 3) := by decide +kernel
theorem dX11_longAt_5 : decode cX11_longAt 5 = .ok (.iconst 4, 1) := by decide +kernel
theorem dX11_longAt_6 : decode cX11_longAt 6 = .ok (.iload_n 0, 1) := by decide +kernel
theorem dX11_longAt_7 : decode cX11_longAt 7 = .ok (.isub, 1) := by decide +kernel
theorem dX11_longAt_8 : decode cX11_longAt 8 = .ok (.goto 23, 3) := by decide +kernel
theorem dX11_longAt_11 : decode cX11_longAt 11 = .ok (.iload_n 0, 1) := by decide +kernel
theorem dX11_longAt_12 : decode cX11_longAt 12 = .ok (.bipush 8, 2) := by decide +kernel
theorem dX11_longAt_14 : decode cX11_longAt 14 = .ok (.if_icmp .ge 13, 3) := by decide +kernel
theorem dX11_longAt_17 : decode cX11_longAt 17 = .ok (.iconst 1, 1) := by decide +kernel
theorem dX11_longAt_18 : decode cX11_longAt 18 = .ok (.iload_n 0, 1) := by decide +kernel
theorem dX11_longAt_19 : decode cX11_longAt 19 = .ok (.iconst 4, 1) := by decide +kernel
theorem dX11_longAt_20 : decode cX11_longAt 20 = .ok (.isub, 1) := by decide +kernel
theorem dX11_longAt_21 : decode cX11_longAt 21 = .ok (.iconst 2, 1) := by decide +kernel
theorem dX11_longAt_22 : decode cX11_longAt 22 = .ok (.idiv, 1) := by decide +kernel
theorem dX11_longAt_23 : decode cX11_longAt 23 = .ok (.iadd, 1) := by decide +kernel
theorem dX11_longAt_24 : decode cX11_longAt 24 = .ok (.goto 7, 3) := by decide +kernel
theorem dX11_longAt_27 : decode cX11_longAt 27 = .ok (.iload_n 0, 1) := by decide +kernel
theorem dX11_longAt_28 : decode cX11_longAt 28 = .ok (.bipush 7, 2) := by decide +kernel
theorem dX11_longAt_30 : decode cX11_longAt 30 = .ok (.isub, 1) := by decide +kernel
theorem dX11_longAt_31 : decode cX11_longAt 31 = .ok (.ireturn, 1) := by decide +kernel
theorem dX11_shadeBy_0 : decode cX11_shadeBy 0 = .ok (.iload_n 2, 1) := by decide +kernel
theorem dX11_shadeBy_1 : decode cX11_shadeBy 1 = .ok (.bipush 12, 2) := by decide +kernel
theorem dX11_shadeBy_3 : decode cX11_shadeBy 3 = .ok (.irem, 1) := by decide +kernel
theorem dX11_shadeBy_4 : decode cX11_shadeBy 4 = .ok (.aload_n 0, 1) := by decide +kernel
theorem dX11_shadeBy_5 : decode cX11_shadeBy 5 = .ok (.getfield 9, 3) := by decide +kernel
theorem dX11_shadeBy_8 : decode cX11_shadeBy 8 = .ok (.iload_n 1, 1) := by decide +kernel
theorem dX11_shadeBy_9 : decode cX11_shadeBy 9 = .ok (.iaload, 1) := by decide +kernel
theorem dX11_shadeBy_10 : decode cX11_shadeBy 10 = .ok (.bipush 12, 2) := by decide +kernel
theorem dX11_shadeBy_12 : decode cX11_shadeBy 12 = .ok (.irem, 1) := by decide +kernel
theorem dX11_shadeBy_13 : decode cX11_shadeBy 13 = .ok (.isub, 1) := by decide +kernel
theorem dX11_shadeBy_14 : decode cX11_shadeBy 14 = .ok (.istore 4, 2) := by decide +kernel
theorem dX11_shadeBy_16 : decode cX11_shadeBy 16 = .ok (.iload_n 2, 1) := by decide +kernel
theorem dX11_shadeBy_17 : decode cX11_shadeBy 17 = .ok (.bipush 12, 2) := by decide +kernel
theorem dX11_shadeBy_19 : decode cX11_shadeBy 19 = .ok (.idiv, 1) := by decide +kernel
theorem dX11_shadeBy_20 : decode cX11_shadeBy 20 = .ok (.aload_n 0, 1) := by decide +kernel
theorem dX11_shadeBy_21 : decode cX11_shadeBy 21 = .ok (.getfield 9, 3) := by decide +kernel
theorem dX11_shadeBy_24 : decode cX11_shadeBy 24 = .ok (.iload_n 1, 1) := by decide +kernel
theorem dX11_shadeBy_25 : decode cX11_shadeBy 25 = .ok (.iaload, 1) := by decide +kernel
theorem dX11_shadeBy_26 : decode cX11_shadeBy 26 = .ok (.bipush 12, 2) := by decide +kernel
theorem dX11_shadeBy_28 : decode cX11_shadeBy 28 = .ok (.idiv, 1) := by decide +kernel
theorem dX11_shadeBy_29 : decode cX11_shadeBy 29 = .ok (.isub, 1) := by decide +kernel
theorem dX11_shadeBy_30 : decode cX11_shadeBy 30 = .ok (.istore 5, 2) := by decide +kernel
theorem dX11_shadeBy_32 : decode cX11_shadeBy 32 = .ok (.iload_n 3, 1) := by decide +kernel
theorem dX11_shadeBy_33 : decode cX11_shadeBy 33 = .ok (.iconst 4, 1) := by decide +kernel
theorem dX11_shadeBy_34 : decode cX11_shadeBy 34 = .ok (.if_icmp .ge 9, 3) := by decide +kernel
theorem dX11_shadeBy_37 : decode cX11_shadeBy 37 = .ok (.iload 4, 2) := by decide +kernel
theorem dX11_shadeBy_39 : decode cX11_shadeBy 39 = .ok (.ineg, 1) := by decide +kernel
theorem dX11_shadeBy_40 : decode cX11_shadeBy 40 = .ok (.goto 17, 3) := by decide +kernel
theorem dX11_shadeBy_43 : decode cX11_shadeBy 43 = .ok (.iload_n 3, 1) := by decide +kernel
theorem dX11_shadeBy_44 : decode cX11_shadeBy 44 = .ok (.bipush 8, 2) := by decide +kernel
theorem dX11_shadeBy_46 : decode cX11_shadeBy 46 = .ok (.if_icmp .ge 9, 3) := by decide +kernel
theorem dX11_shadeBy_49 : decode cX11_shadeBy 49 = .ok (.iload 5, 2) := by decide +kernel
theorem dX11_shadeBy_51 : decode cX11_shadeBy 51 = .ok (.ineg, 1) := by decide +kernel
theorem dX11_shadeBy_52 : decode cX11_shadeBy 52 = .ok (.goto 5, 3) := by decide +kernel
theorem dX11_shadeBy_55 : decode cX11_shadeBy 55 = .ok (.iload 4, 2) := by decide +kernel
theorem dX11_shadeBy_57 : decode cX11_shadeBy 57 = .ok (.istore 6, 2) := by decide +kernel
theorem dX11_shadeBy_59 : decode cX11_shadeBy 59 = .ok (.iload_n 3, 1) := by decide +kernel
theorem dX11_shadeBy_60 : decode cX11_shadeBy 60 = .ok (.iconst 4, 1) := by decide +kernel
theorem dX11_shadeBy_61 : decode cX11_shadeBy 61 = .ok (.if_icmp .lt 14, 3) := by decide +kernel
theorem dX11_shadeBy_64 : decode cX11_shadeBy 64 = .ok (.iload_n 3, 1) := by decide +kernel
theorem dX11_shadeBy_65 : decode cX11_shadeBy 65 = .ok (.bipush 8, 2) := by decide +kernel
theorem dX11_shadeBy_67 : decode cX11_shadeBy 67 = .ok (.if_icmp .ge 8, 3) := by decide +kernel
theorem dX11_shadeBy_70 : decode cX11_shadeBy 70 = .ok (.iload 4, 2) := by decide +kernel
theorem dX11_shadeBy_72 : decode cX11_shadeBy 72 = .ok (.goto 5, 3) := by decide +kernel
theorem dX11_shadeBy_75 : decode cX11_shadeBy 75 = .ok (.iload 5, 2) := by decide +kernel
theorem dX11_shadeBy_77 : decode cX11_shadeBy 77 = .ok (.istore 7, 2) := by decide +kernel
theorem dX11_shadeBy_79 : decode cX11_shadeBy 79 = .ok (.iload 7, 2) := by decide +kernel
theorem dX11_shadeBy_81 : decode cX11_shadeBy 81 = .ok (.ifCond .ge 9, 3) := by decide +kernel
theorem dX11_shadeBy_84 : decode cX11_shadeBy 84 = .ok (.iload 7, 2) := by decide +kernel
theorem dX11_shadeBy_86 : decode cX11_shadeBy 86 = .ok (.ineg, 1) := by decide +kernel
theorem dX11_shadeBy_87 : decode cX11_shadeBy 87 = .ok (.goto 5, 3) := by decide +kernel
theorem dX11_shadeBy_90 : decode cX11_shadeBy 90 = .ok (.iload 7, 2) := by decide +kernel
theorem dX11_shadeBy_92 : decode cX11_shadeBy 92 = .ok (.istore 7, 2) := by decide +kernel
theorem dX11_shadeBy_94 : decode cX11_shadeBy 94 = .ok (.iload 6, 2) := by decide +kernel
theorem dX11_shadeBy_96 : decode cX11_shadeBy 96 = .ok (.iconst 1, 1) := by decide +kernel
theorem dX11_shadeBy_97 : decode cX11_shadeBy 97 = .ok (.if_icmp .lt 45, 3) := by decide +kernel
theorem dX11_shadeBy_100 : decode cX11_shadeBy 100 = .ok (.iload 6, 2) := by decide +kernel
theorem dX11_shadeBy_102 : decode cX11_shadeBy 102 = .ok (.iload_n 3, 1) := by decide +kernel
theorem dX11_shadeBy_103 : decode cX11_shadeBy 103 = .ok (.invokestatic 194, 3) := by decide +kernel
theorem dX11_shadeBy_106 : decode cX11_shadeBy 106 = .ok (.aload_n 0, 1) := by decide +kernel
theorem dX11_shadeBy_107 : decode cX11_shadeBy 107 = .ok (.getfield 9, 3) := by decide +kernel
theorem dX11_shadeBy_110 : decode cX11_shadeBy 110 = .ok (.bipush 8, 2) := by decide +kernel
theorem dX11_shadeBy_112 : decode cX11_shadeBy 112 = .ok (.iload_n 1, 1) := by decide +kernel
theorem dX11_shadeBy_113 : decode cX11_shadeBy 113 = .ok (.iadd, 1) := by decide +kernel
theorem dX11_shadeBy_114 : decode cX11_shadeBy 114 = .ok (.iaload, 1) := by decide +kernel
theorem dX11_shadeBy_115 : decode cX11_shadeBy 115 = .ok (.iconst 2, 1) := by decide +kernel
theorem dX11_shadeBy_116 : decode cX11_shadeBy 116 = .ok (.if_icmp .ne 7, 3) := by decide +kernel
theorem dX11_shadeBy_119 : decode cX11_shadeBy 119 = .ok (.iconst 1, 1) := by decide +kernel
theorem dX11_shadeBy_120 : decode cX11_shadeBy 120 = .ok (.goto 4, 3) := by decide +kernel
theorem dX11_shadeBy_123 : decode cX11_shadeBy 123 = .ok (.iconst 0, 1) := by decide +kernel
theorem dX11_shadeBy_124 : decode cX11_shadeBy 124 = .ok (.iadd, 1) := by decide +kernel
theorem dX11_shadeBy_125 : decode cX11_shadeBy 125 = .ok (.if_icmp .gt 17, 3) := by decide +kernel
theorem dX11_shadeBy_128 : decode cX11_shadeBy 128 = .ok (.iload 7, 2) := by decide +kernel
theorem dX11_shadeBy_130 : decode cX11_shadeBy 130 = .ok (.aload_n 0, 1) := by decide +kernel
theorem dX11_shadeBy_131 : decode cX11_shadeBy 131 = .ok (.getfield 9, 3) := by decide +kernel
theorem dX11_shadeBy_134 : decode cX11_shadeBy 134 = .ok (.bipush 16, 2) := by decide +kernel
theorem dX11_shadeBy_136 : decode cX11_shadeBy 136 = .ok (.iload_n 1, 1) := by decide +kernel
theorem dX11_shadeBy_137 : decode cX11_shadeBy 137 = .ok (.iadd, 1) := by decide +kernel
theorem dX11_shadeBy_138 : decode cX11_shadeBy 138 = .ok (.iaload, 1) := by decide +kernel
theorem dX11_shadeBy_139 : decode cX11_shadeBy 139 = .ok (.if_icmp .le 5, 3) := by decide +kernel
theorem dX11_shadeBy_142 : decode cX11_shadeBy 142 = .ok (.iconst 0, 1) := by decide +kernel
theorem dX11_shadeBy_143 : decode cX11_shadeBy 143 = .ok (.ireturn, 1) := by decide +kernel
theorem dX11_shadeBy_144 : decode cX11_shadeBy 144 = .ok (.bipush 6, 2) := by decide +kernel
theorem dX11_shadeBy_146 : decode cX11_shadeBy 146 = .ok (.iconst 2, 1) := by decide +kernel
theorem dX11_shadeBy_147 : decode cX11_shadeBy 147 = .ok (.aload_n 0, 1) := by decide +kernel
theorem dX11_shadeBy_148 : decode cX11_shadeBy 148 = .ok (.getfield 9, 3) := by decide +kernel
theorem dX11_shadeBy_151 : decode cX11_shadeBy 151 = .ok (.bipush 8, 2) := by decide +kernel
theorem dX11_shadeBy_153 : decode cX11_shadeBy 153 = .ok (.iload_n 1, 1) := by decide +kernel
theorem dX11_shadeBy_154 : decode cX11_shadeBy 154 = .ok (.iadd, 1) := by decide +kernel
theorem dX11_shadeBy_155 : decode cX11_shadeBy 155 = .ok (.iaload, 1) := by decide +kernel
theorem dX11_shadeBy_156 : decode cX11_shadeBy 156 = .ok (.imul, 1) := by decide +kernel
theorem dX11_shadeBy_157 : decode cX11_shadeBy 157 = .ok (.iadd, 1) := by decide +kernel
theorem dX11_shadeBy_158 : decode cX11_shadeBy 158 = .ok (.iload 6, 2) := by decide +kernel
theorem dX11_shadeBy_160 : decode cX11_shadeBy 160 = .ok (.isub, 1) := by decide +kernel
theorem dX11_shadeBy_161 : decode cX11_shadeBy 161 = .ok (.iload 7, 2) := by decide +kernel
theorem dX11_shadeBy_163 : decode cX11_shadeBy 163 = .ok (.isub, 1) := by decide +kernel
theorem dX11_shadeBy_164 : decode cX11_shadeBy 164 = .ok (.aload_n 0, 1) := by decide +kernel
theorem dX11_shadeBy_165 : decode cX11_shadeBy 165 = .ok (.getfield 9, 3) := by decide +kernel
theorem dX11_shadeBy_168 : decode cX11_shadeBy 168 = .ok (.bipush 56, 2) := by decide +kernel
theorem dX11_shadeBy_170 : decode cX11_shadeBy 170 = .ok (.iaload, 1) := by decide +kernel
theorem dX11_shadeBy_171 : decode cX11_shadeBy 171 = .ok (.isub, 1) := by decide +kernel
theorem dX11_shadeBy_172 : decode cX11_shadeBy 172 = .ok (.istore 8, 2) := by decide +kernel
theorem dX11_shadeBy_174 : decode cX11_shadeBy 174 = .ok (.aload_n 0, 1) := by decide +kernel
theorem dX11_shadeBy_175 : decode cX11_shadeBy 175 = .ok (.getfield 65, 3) := by decide +kernel
theorem dX11_shadeBy_178 : decode cX11_shadeBy 178 = .ok (.ifCond .lt 72, 3) := by decide +kernel
theorem dX11_shadeBy_181 : decode cX11_shadeBy 181 = .ok (.aload_n 0, 1) := by decide +kernel
theorem dX11_shadeBy_182 : decode cX11_shadeBy 182 = .ok (.getfield 28, 3) := by decide +kernel
theorem dX11_shadeBy_185 : decode cX11_shadeBy 185 = .ok (.iconst 0, 1) := by decide +kernel
theorem dX11_shadeBy_186 : decode cX11_shadeBy 186 = .ok (.aload_n 0, 1) := by decide +kernel
theorem dX11_shadeBy_187 : decode cX11_shadeBy 187 = .ok (.getfield 9, 3) := by decide +kernel
theorem dX11_shadeBy_190 : decode cX11_shadeBy 190 = .ok (.bipush 8, 2) := by decide +kernel
theorem dX11_shadeBy_192 : decode cX11_shadeBy 192 = .ok (.iload_n 1, 1) := by decide +kernel
theorem dX11_shadeBy_193 : decode cX11_shadeBy 193 = .ok (.iadd, 1) := by decide +kernel
theorem dX11_shadeBy_194 : decode cX11_shadeBy 194 = .ok (.iaload, 1) := by decide +kernel
theorem dX11_shadeBy_195 : decode cX11_shadeBy 195 = .ok (.iastore, 1) := by decide +kernel
theorem dX11_shadeBy_196 : decode cX11_shadeBy 196 = .ok (.aload_n 0, 1) := by decide +kernel
theorem dX11_shadeBy_197 : decode cX11_shadeBy 197 = .ok (.getfield 28, 3) := by decide +kernel
theorem dX11_shadeBy_200 : decode cX11_shadeBy 200 = .ok (.iconst 1, 1) := by decide +kernel
theorem dX11_shadeBy_201 : decode cX11_shadeBy 201 = .ok (.iload 6, 2) := by decide +kernel
theorem dX11_shadeBy_203 : decode cX11_shadeBy 203 = .ok (.iastore, 1) := by decide +kernel
theorem dX11_shadeBy_204 : decode cX11_shadeBy 204 = .ok (.aload_n 0, 1) := by decide +kernel
theorem dX11_shadeBy_205 : decode cX11_shadeBy 205 = .ok (.getfield 28, 3) := by decide +kernel
theorem dX11_shadeBy_208 : decode cX11_shadeBy 208 = .ok (.iconst 2, 1) := by decide +kernel
theorem dX11_shadeBy_209 : decode cX11_shadeBy 209 = .ok (.iload 7, 2) := by decide +kernel
theorem dX11_shadeBy_211 : decode cX11_shadeBy 211 = .ok (.iastore, 1) := by decide +kernel
theorem dX11_shadeBy_212 : decode cX11_shadeBy 212 = .ok (.aload_n 0, 1) := by decide +kernel
theorem dX11_shadeBy_213 : decode cX11_shadeBy 213 = .ok (.getfield 28, 3) := by decide +kernel
theorem dX11_shadeBy_216 : decode cX11_shadeBy 216 = .ok (.iconst 3, 1) := by decide +kernel
theorem dX11_shadeBy_217 : decode cX11_shadeBy 217 = .ok (.aload_n 0, 1) := by decide +kernel
theorem dX11_shadeBy_218 : decode cX11_shadeBy 218 = .ok (.getfield 9, 3) := by decide +kernel
theorem dX11_shadeBy_221 : decode cX11_shadeBy 221 = .ok (.bipush 56, 2) := by decide +kernel
theorem dX11_shadeBy_223 : decode cX11_shadeBy 223 = .ok (.iaload, 1) := by decide +kernel
theorem dX11_shadeBy_224 : decode cX11_shadeBy 224 = .ok (.iastore, 1) := by decide +kernel
theorem dX11_shadeBy_225 : decode cX11_shadeBy 225 = .ok (.aload_n 0, 1) := by decide +kernel
theorem dX11_shadeBy_226 : decode cX11_shadeBy 226 = .ok (.getfield 28, 3) := by decide +kernel
theorem dX11_shadeBy_229 : decode cX11_shadeBy 229 = .ok (.iconst 4, 1) := by decide +kernel
theorem dX11_shadeBy_230 : decode cX11_shadeBy 230 = .ok (.iload_n 3, 1) := by decide +kernel
theorem dX11_shadeBy_231 : decode cX11_shadeBy 231 = .ok (.iastore, 1) := by decide +kernel
theorem dX11_shadeBy_232 : decode cX11_shadeBy 232 = .ok (.aload_n 0, 1) := by decide +kernel
theorem dX11_shadeBy_233 : decode cX11_shadeBy 233 = .ok (.getfield 28, 3) := by decide +kernel
theorem dX11_shadeBy_236 : decode cX11_shadeBy 236 = .ok (.iconst 5, 1) := by decide +kernel
theorem dX11_shadeBy_237 : decode cX11_shadeBy 237 = .ok (.iload_n 1, 1) := by decide +kernel
theorem dX11_shadeBy_238 : decode cX11_shadeBy 238 = .ok (.iastore, 1) := by decide +kernel
theorem dX11_shadeBy_239 : decode cX11_shadeBy 239 = .ok (.aload_n 0, 1) := by decide +kernel
theorem dX11_shadeBy_240 : decode cX11_shadeBy 240 = .ok (.iconst 0, 1) := by decide +kernel
theorem dX11_shadeBy_241 : decode cX11_shadeBy 241 = .ok (.aload_n 0, 1) := by decide +kernel
theorem dX11_shadeBy_242 : decode cX11_shadeBy 242 = .ok (.getfield 65, 3) := by decide +kernel
theorem dX11_shadeBy_245 : decode cX11_shadeBy 245 = .ok (.invokevirtual 191, 3) := by decide +kernel
theorem dX11_shadeBy_248 : decode cX11_shadeBy 248 = .ok (.istore 8, 2) := by decide +kernel
theorem dX11_shadeBy_250 : decode cX11_shadeBy 250 = .ok (.iload 8, 2) := by decide +kernel
theorem dX11_shadeBy_252 : decode cX11_shadeBy 252 = .ok (.ifCond .ge 7, 3) := by decide +kernel
theorem dX11_shadeBy_255 : decode cX11_shadeBy 255 = .ok (.iconst 0, 1) := by decide +kernel
theorem dX11_shadeBy_256 : decode cX11_shadeBy 256 = .ok (.goto 17, 3) := by decide +kernel
theorem dX11_shadeBy_259 : decode cX11_shadeBy 259 = .ok (.iload 8, 2) := by decide +kernel
theorem dX11_shadeBy_261 : decode cX11_shadeBy 261 = .ok (.bipush 12, 2) := by decide +kernel
theorem dX11_shadeBy_263 : decode cX11_shadeBy 263 = .ok (.if_icmp .le 8, 3) := by decide +kernel
theorem dX11_shadeBy_266 : decode cX11_shadeBy 266 = .ok (.bipush 12, 2) := by decide +kernel
theorem dX11_shadeBy_268 : decode cX11_shadeBy 268 = .ok (.goto 5, 3) := by decide +kernel
theorem dX11_shadeBy_271 : decode cX11_shadeBy 271 = .ok (.iload 8, 2) := by decide +kernel
theorem dX11_shadeBy_273 : decode cX11_shadeBy 273 = .ok (.ireturn, 1) := by decide +kernel
theorem dX11_shadeOf_0 : decode cX11_shadeOf 0 = .ok (.iconst 0, 1) := by decide +kernel
theorem dX11_shadeOf_1 : decode cX11_shadeOf 1 = .ok (.istore 4, 2) := by decide +kernel
theorem dX11_shadeOf_3 : decode cX11_shadeOf 3 = .ok (.iconst 0, 1) := by decide +kernel
theorem dX11_shadeOf_4 : decode cX11_shadeOf 4 = .ok (.istore 5, 2) := by decide +kernel
theorem dX11_shadeOf_6 : decode cX11_shadeOf 6 = .ok (.iload 5, 2) := by decide +kernel
theorem dX11_shadeOf_8 : decode cX11_shadeOf 8 = .ok (.bipush 8, 2) := by decide +kernel
theorem dX11_shadeOf_10 : decode cX11_shadeOf 10 = .ok (.if_icmp .ge 35, 3) := by decide +kernel
theorem dX11_shadeOf_13 : decode cX11_shadeOf 13 = .ok (.iload 4, 2) := by decide +kernel
theorem dX11_shadeOf_15 : decode cX11_shadeOf 15 = .ok (.iload_n 1, 1) := by decide +kernel
theorem dX11_shadeOf_16 : decode cX11_shadeOf 16 = .ok (.iload 5, 2) := by decide +kernel
theorem dX11_shadeOf_18 : decode cX11_shadeOf 18 = .ok (.invokestatic 197, 3) := by decide +kernel
theorem dX11_shadeOf_21 : decode cX11_shadeOf 21 = .ok (.ifCond .eq 14, 3) := by decide +kernel
theorem dX11_shadeOf_24 : decode cX11_shadeOf 24 = .ok (.aload_n 0, 1) := by decide +kernel
theorem dX11_shadeOf_25 : decode cX11_shadeOf 25 = .ok (.iload 5, 2) := by decide +kernel
theorem dX11_shadeOf_27 : decode cX11_shadeOf 27 = .ok (.iload_n 2, 1) := by decide +kernel
theorem dX11_shadeOf_28 : decode cX11_shadeOf 28 = .ok (.iload_n 3, 1) := by decide +kernel
theorem dX11_shadeOf_29 : decode cX11_shadeOf 29 = .ok (.invokevirtual 200, 3) := by decide +kernel
theorem dX11_shadeOf_32 : decode cX11_shadeOf 32 = .ok (.goto 4, 3) := by decide +kernel
theorem dX11_shadeOf_35 : decode cX11_shadeOf 35 = .ok (.iconst 0, 1) := by decide +kernel
theorem dX11_shadeOf_36 : decode cX11_shadeOf 36 = .ok (.iadd, 1) := by decide +kernel
theorem dX11_shadeOf_37 : decode cX11_shadeOf 37 = .ok (.istore 4, 2) := by decide +kernel
theorem dX11_shadeOf_39 : decode cX11_shadeOf 39 = .ok (.iinc 5 1, 3) := by decide +kernel
theorem dX11_shadeOf_42 : decode cX11_shadeOf 42 = .ok (.goto (-36), 3) := by decide +kernel
theorem dX11_shadeOf_45 : decode cX11_shadeOf 45 = .ok (.iload 4, 2) := by decide +kernel
theorem dX11_shadeOf_47 : decode cX11_shadeOf 47 = .ok (.bipush 12, 2) := by decide +kernel
theorem dX11_shadeOf_49 : decode cX11_shadeOf 49 = .ok (.if_icmp .le 8, 3) := by decide +kernel
theorem dX11_shadeOf_52 : decode cX11_shadeOf 52 = .ok (.bipush 12, 2) := by decide +kernel
theorem dX11_shadeOf_54 : decode cX11_shadeOf 54 = .ok (.goto 5, 3) := by decide +kernel
theorem dX11_shadeOf_57 : decode cX11_shadeOf 57 = .ok (.iload 4, 2) := by decide +kernel
theorem dX11_shadeOf_59 : decode cX11_shadeOf 59 = .ok (.ireturn, 1) := by decide +kernel
theorem dX11_everybody_0 : decode cX11_everybody 0 = .ok (.iconst 1, 1) := by decide +kernel
theorem dX11_everybody_1 : decode cX11_everybody 1 = .ok (.aload_n 0, 1) := by decide +kernel
theorem dX11_everybody_2 : decode cX11_everybody 2 = .ok (.getfield 75, 3) := by decide +kernel
theorem dX11_everybody_5 : decode cX11_everybody 5 = .ok (.ishl, 1) := by decide +kernel
theorem dX11_everybody_6 : decode cX11_everybody 6 = .ok (.iconst 1, 1) := by decide +kernel
theorem dX11_everybody_7 : decode cX11_everybody 7 = .ok (.isub, 1) := by decide +kernel
theorem dX11_everybody_8 : decode cX11_everybody 8 = .ok (.ireturn, 1) := by decide +kernel
theorem dX11_shade_0 : decode cX11_shade 0 = .ok (.iload_n 1, 1) := by decide +kernel
theorem dX11_shade_1 : decode cX11_shade 1 = .ok (.ifCond .lt 39, 3) := by decide +kernel
theorem dX11_shade_4 : decode cX11_shade 4 = .ok (.iload_n 1, 1) := by decide +kernel
theorem dX11_shade_5 : decode cX11_shade 5 = .ok (.bipush 100, 2) := by decide +kernel
theorem dX11_shade_7 : decode cX11_shade 7 = .ok (.idiv, 1) := by decide +kernel
theorem dX11_shade_8 : decode cX11_shade 8 = .ok (.i2l, 1) := by decide +kernel
theorem dX11_shade_9 : decode cX11_shade 9 = .ok (.invokestatic 89, 3) := by decide +kernel
theorem dX11_shade_12 : decode cX11_shade 12 = .ok (.ifCond .eq 28, 3) := by decide +kernel
theorem dX11_shade_15 : decode cX11_shade 15 = .ok (.iload_n 1, 1) := by decide +kernel
theorem dX11_shade_16 : decode cX11_shade 16 = .ok (.bipush 100, 2) := by decide +kernel
theorem dX11_shade_18 : decode cX11_shade 18 = .ok (.irem, 1) := by decide +kernel
theorem dX11_shade_19 : decode cX11_shade 19 = .ok (.i2l, 1) := by decide +kernel
theorem dX11_shade_20 : decode cX11_shade 20 = .ok (.invokestatic 204, 3) := by decide +kernel
theorem dX11_shade_23 : decode cX11_shade 23 = .ok (.ifCond .eq 17, 3) := by decide +kernel
theorem dX11_shade_26 : decode cX11_shade 26 = .ok (.iload_n 2, 1) := by decide +kernel
theorem dX11_shade_27 : decode cX11_shade 27 = .ok (.iconst (-1), 1) := by decide +kernel
theorem dX11_shade_28 : decode cX11_shade 28 = .ok (.if_icmp .eq 14, 3) := by decide +kernel
theorem dX11_shade_31 : decode cX11_shade 31 = .ok (.aload_n 0, 1) := by decide +kernel
theorem dX11_shade_32 : decode cX11_shade 32 = .ok (.iload_n 2, 1) := by decide +kernel
theorem dX11_shade_33 : decode cX11_shade 33 = .ok (.i2l, 1) := by decide +kernel
theorem dX11_shade_34 : decode cX11_shade 34 = .ok (.invokevirtual 116, 3) := by decide +kernel
theorem dX11_shade_37 : decode cX11_shade 37 = .ok (.ifCond .ne 5, 3) := by decide +kernel
theorem dX11_shade_40 : decode cX11_shade 40 = .ok (.iconst (-1), 1) := by decide +kernel
theorem dX11_shade_41 : decode cX11_shade 41 = .ok (.ireturn, 1) := by decide +kernel
theorem dX11_shade_42 : decode cX11_shade 42 = .ok (.iload_n 2, 1) := by decide +kernel
theorem dX11_shade_43 : decode cX11_shade 43 = .ok (.ifCond .ge 22, 3) := by decide +kernel
theorem dX11_shade_46 : decode cX11_shade 46 = .ok (.aload_n 0, 1) := by decide +kernel
theorem dX11_shade_47 : decode cX11_shade 47 = .ok (.aload_n 0, 1) := by decide +kernel
theorem dX11_shade_48 : decode cX11_shade 48 = .ok (.invokevirtual 207, 3) := by decide +kernel
theorem dX11_shade_51 : decode cX11_shade 51 = .ok (.iload_n 1, 1) := by decide +kernel
theorem dX11_shade_52 : decode cX11_shade 52 = .ok (.bipush 100, 2) := by decide +kernel
theorem dX11_shade_54 : decode cX11_shade 54 = .ok (.idiv, 1) := by decide +kernel
theorem dX11_shade_55 : decode cX11_shade 55 = .ok (.iload_n 1, 1) := by decide +kernel
theorem dX11_shade_56 : decode cX11_shade 56 = .ok (.bipush 100, 2) := by decide +kernel
theorem dX11_shade_58 : decode cX11_shade 58 = .ok (.irem, 1) := by decide +kernel
theorem dX11_shade_59 : decode cX11_shade 59 = .ok (.invokevirtual 210, 3) := by decide +kernel
theorem dX11_shade_62 : decode cX11_shade 62 = .ok (.goto 16, 3) := by decide +kernel
theorem dX11_shade_65 : decode cX11_shade 65 = .ok (.aload_n 0, 1) := by decide +kernel
theorem dX11_shade_66 : decode cX11_shade 66 = .ok (.iload_n 2, 1) := by decide +kernel
theorem dX11_shade_67 : decode cX11_shade 67 = .ok (.iload_n 1, 1) := by decide +kernel
theorem dX11_shade_68 : decode cX11_shade 68 = .ok (.bipush 100, 2) := by decide +kernel
theorem dX11_shade_70 : decode cX11_shade 70 = .ok (.idiv, 1) := by decide +kernel
theorem dX11_shade_71 : decode cX11_shade 71 = .ok (.iload_n 1, 1) := by decide +kernel
theorem dX11_shade_72 : decode cX11_shade 72 = .ok (.bipush 100, 2) := by decide +kernel
theorem dX11_shade_74 : decode cX11_shade 74 = .ok (.irem, 1) := by decide +kernel
theorem dX11_shade_75 : decode cX11_shade 75 = .ok (.invokevirtual 200, 3) := by decide +kernel
theorem dX11_shade_78 : decode cX11_shade 78 = .ok (.ireturn, 1) := by decide +kernel
theorem dX11_walk_0 : decode cX11_walk 0 = .ok (.iload_n 1, 1) := by decide +kernel
theorem dX11_walk_1 : decode cX11_walk 1 = .ok (.i2l, 1) := by decide +kernel
theorem dX11_walk_2 : decode cX11_walk 2 = .ok (.invokestatic 204, 3) := by decide +kernel
theorem dX11_walk_5 : decode cX11_walk 5 = .ok (.ifCond .eq 13, 3) := by decide +kernel
theorem dX11_walk_8 : decode cX11_walk 8 = .ok (.iload_n 2, 1) := by decide +kernel
theorem dX11_walk_9 : decode cX11_walk 9 = .ok (.i2l, 1) := by decide +kernel
theorem dX11_walk_10 : decode cX11_walk 10 = .ok (.lconst 0, 1) := by decide +kernel
theorem dX11_walk_11 : decode cX11_walk 11 = .ok (.lconst 1, 1) := by decide +kernel
theorem dX11_walk_12 : decode cX11_walk 12 = .ok (.invokestatic 78, 3) := by decide +kernel
theorem dX11_walk_15 : decode cX11_walk 15 = .ok (.ifCond .ne 5, 3) := by decide +kernel
theorem dX11_walk_18 : decode cX11_walk 18 = .ok (.iconst (-1), 1) := by decide +kernel
theorem dX11_walk_19 : decode cX11_walk 19 = .ok (.ireturn, 1) := by decide +kernel
theorem dX11_walk_20 : decode cX11_walk 20 = .ok (.iconst 0, 1) := by decide +kernel
theorem dX11_walk_21 : decode cX11_walk 21 = .ok (.istore_n 3, 1) := by decide +kernel
theorem dX11_walk_22 : decode cX11_walk 22 = .ok (.iconst 0, 1) := by decide +kernel
theorem dX11_walk_23 : decode cX11_walk 23 = .ok (.istore 4, 2) := by decide +kernel
theorem dX11_walk_25 : decode cX11_walk 25 = .ok (.iconst (-1), 1) := by decide +kernel
theorem dX11_walk_26 : decode cX11_walk 26 = .ok (.istore 5, 2) := by decide +kernel
theorem dX11_walk_28 : decode cX11_walk 28 = .ok (.iconst 0, 1) := by decide +kernel
theorem dX11_walk_29 : decode cX11_walk 29 = .ok (.istore 6, 2) := by decide +kernel
theorem dX11_walk_31 : decode cX11_walk 31 = .ok (.iload 6, 2) := by decide +kernel
theorem dX11_walk_33 : decode cX11_walk 33 = .ok (.sipush 144, 3) := by decide +kernel
theorem dX11_walk_36 : decode cX11_walk 36 = .ok (.if_icmp .ge 67, 3) := by decide +kernel
theorem dX11_walk_39 : decode cX11_walk 39 = .ok (.aload_n 0, 1) := by decide +kernel
theorem dX11_walk_40 : decode cX11_walk 40 = .ok (.aload_n 0, 1) := by decide +kernel
theorem dX11_walk_41 : decode cX11_walk 41 = .ok (.invokevirtual 207, 3) := by decide +kernel
theorem dX11_walk_44 : decode cX11_walk 44 = .ok (.iload 6, 2) := by decide +kernel
theorem dX11_walk_46 : decode cX11_walk 46 = .ok (.iload_n 1, 1) := by decide +kernel
theorem dX11_walk_47 : decode cX11_walk 47 = .ok (.invokevirtual 210, 3) := by decide +kernel
theorem dX11_walk_50 : decode cX11_walk 50 = .ok (.istore 7, 2) := by decide +kernel
theorem dX11_walk_52 : decode cX11_walk 52 = .ok (.iload_n 3, 1) := by decide +kernel
theorem dX11_walk_53 : decode cX11_walk 53 = .ok (.iload 7, 2) := by decide +kernel
theorem dX11_walk_55 : decode cX11_walk 55 = .ok (.ifCond .le 7, 3) := by decide +kernel
theorem dX11_walk_58 : decode cX11_walk 58 = .ok (.iconst 1, 1) := by decide +kernel
theorem dX11_walk_59 : decode cX11_walk 59 = .ok (.goto 4, 3) := by decide +kernel
theorem dX11_walk_62 : decode cX11_walk 62 = .ok (.iconst 0, 1) := by decide +kernel
theorem dX11_walk_63 : decode cX11_walk 63 = .ok (.iadd, 1) := by decide +kernel
theorem dX11_walk_64 : decode cX11_walk 64 = .ok (.istore_n 3, 1) := by decide +kernel
theorem dX11_walk_65 : decode cX11_walk 65 = .ok (.iload 7, 2) := by decide +kernel
theorem dX11_walk_67 : decode cX11_walk 67 = .ok (.iload 5, 2) := by decide +kernel
theorem dX11_walk_69 : decode cX11_walk 69 = .ok (.if_icmp .le 8, 3) := by decide +kernel
theorem dX11_walk_72 : decode cX11_walk 72 = .ok (.iload 6, 2) := by decide +kernel
theorem dX11_walk_74 : decode cX11_walk 74 = .ok (.goto 5, 3) := by decide +kernel
theorem dX11_walk_77 : decode cX11_walk 77 = .ok (.iload 4, 2) := by decide +kernel
theorem dX11_walk_79 : decode cX11_walk 79 = .ok (.istore 4, 2) := by decide +kernel
theorem dX11_walk_81 : decode cX11_walk 81 = .ok (.iload 7, 2) := by decide +kernel
theorem dX11_walk_83 : decode cX11_walk 83 = .ok (.iload 5, 2) := by decide +kernel
theorem dX11_walk_85 : decode cX11_walk 85 = .ok (.if_icmp .le 8, 3) := by decide +kernel
theorem dX11_walk_88 : decode cX11_walk 88 = .ok (.iload 7, 2) := by decide +kernel
theorem dX11_walk_90 : decode cX11_walk 90 = .ok (.goto 5, 3) := by decide +kernel
theorem dX11_walk_93 : decode cX11_walk 93 = .ok (.iload 5, 2) := by decide +kernel
theorem dX11_walk_95 : decode cX11_walk 95 = .ok (.istore 5, 2) := by decide +kernel
theorem dX11_walk_97 : decode cX11_walk 97 = .ok (.iinc 6 1, 3) := by decide +kernel
theorem dX11_walk_100 : decode cX11_walk 100 = .ok (.goto (-69), 3) := by decide +kernel
theorem dX11_walk_103 : decode cX11_walk 103 = .ok (.iload_n 2, 1) := by decide +kernel
theorem dX11_walk_104 : decode cX11_walk 104 = .ok (.ifCond .ne 7, 3) := by decide +kernel
theorem dX11_walk_107 : decode cX11_walk 107 = .ok (.iload_n 3, 1) := by decide +kernel
theorem dX11_walk_108 : decode cX11_walk 108 = .ok (.goto 5, 3) := by decide +kernel
theorem dX11_walk_111 : decode cX11_walk 111 = .ok (.iload 4, 2) := by decide +kernel
theorem dX11_walk_113 : decode cX11_walk 113 = .ok (.ireturn, 1) := by decide +kernel
theorem dX11_isServed_0 : decode cX11_isServed 0 = .ok (.aload_n 0, 1) := by decide +kernel
theorem dX11_isServed_1 : decode cX11_isServed 1 = .ok (.iload_n 3, 1) := by decide +kernel
theorem dX11_isServed_2 : decode cX11_isServed 2 = .ok (.aload_n 0, 1) := by decide +kernel
theorem dX11_isServed_3 : decode cX11_isServed 3 = .ok (.getfield 9, 3) := by decide +kernel
theorem dX11_isServed_6 : decode cX11_isServed 6 = .ok (.bipush 32, 2) := by decide +kernel
theorem dX11_isServed_8 : decode cX11_isServed 8 = .ok (.iload_n 1, 1) := by decide +kernel
theorem dX11_isServed_9 : decode cX11_isServed 9 = .ok (.iadd, 1) := by decide +kernel
theorem dX11_isServed_10 : decode cX11_isServed 10 = .ok (.iaload, 1) := by decide +kernel
theorem dX11_isServed_11 : decode cX11_isServed 11 = .ok (.iload_n 2, 1) := by decide +kernel
theorem dX11_isServed_12 : decode cX11_isServed 12 = .ok (.invokevirtual 210, 3) := by decide +kernel
theorem dX11_isServed_15 : decode cX11_isServed 15 = .ok (.aload_n 0, 1) := by decide +kernel
theorem dX11_isServed_16 : decode cX11_isServed 16 = .ok (.getfield 9, 3) := by decide +kernel
theorem dX11_isServed_19 : decode cX11_isServed 19 = .ok (.bipush 48, 2) := by decide +kernel
theorem dX11_isServed_21 : decode cX11_isServed 21 = .ok (.iload_n 1, 1) := by decide +kernel
theorem dX11_isServed_22 : decode cX11_isServed 22 = .ok (.iadd, 1) := by decide +kernel
theorem dX11_isServed_23 : decode cX11_isServed 23 = .ok (.iaload, 1) := by decide +kernel
theorem dX11_isServed_24 : decode cX11_isServed 24 = .ok (.if_icmp .lt 7, 3) := by decide +kernel
theorem dX11_isServed_27 : decode cX11_isServed 27 = .ok (.iconst 1, 1) := by decide +kernel
theorem dX11_isServed_28 : decode cX11_isServed 28 = .ok (.goto 4, 3) := by decide +kernel
theorem dX11_isServed_31 : decode cX11_isServed 31 = .ok (.iconst 0, 1) := by decide +kernel
theorem dX11_isServed_32 : decode cX11_isServed 32 = .ok (.ireturn, 1) := by decide +kernel
theorem dX11_wants_0 : decode cX11_wants 0 = .ok (.aload_n 0, 1) := by decide +kernel
theorem dX11_wants_1 : decode cX11_wants 1 = .ok (.getfield 9, 3) := by decide +kernel
theorem dX11_wants_4 : decode cX11_wants 4 = .ok (.bipush 40, 2) := by decide +kernel
theorem dX11_wants_6 : decode cX11_wants 6 = .ok (.iload_n 1, 1) := by decide +kernel
theorem dX11_wants_7 : decode cX11_wants 7 = .ok (.iadd, 1) := by decide +kernel
theorem dX11_wants_8 : decode cX11_wants 8 = .ok (.iaload, 1) := by decide +kernel
theorem dX11_wants_9 : decode cX11_wants 9 = .ok (.iload_n 2, 1) := by decide +kernel
theorem dX11_wants_10 : decode cX11_wants 10 = .ok (.invokestatic 197, 3) := by decide +kernel
theorem dX11_wants_13 : decode cX11_wants 13 = .ok (.ireturn, 1) := by decide +kernel
theorem dX11_missesOf_0 : decode cX11_missesOf 0 = .ok (.iconst 0, 1) := by decide +kernel
theorem dX11_missesOf_1 : decode cX11_missesOf 1 = .ok (.istore_n 3, 1) := by decide +kernel
theorem dX11_missesOf_2 : decode cX11_missesOf 2 = .ok (.iconst 0, 1) := by decide +kernel
theorem dX11_missesOf_3 : decode cX11_missesOf 3 = .ok (.istore 4, 2) := by decide +kernel
theorem dX11_missesOf_5 : decode cX11_missesOf 5 = .ok (.iload 4, 2) := by decide +kernel
theorem dX11_missesOf_7 : decode cX11_missesOf 7 = .ok (.bipush 12, 2) := by decide +kernel
theorem dX11_missesOf_9 : decode cX11_missesOf 9 = .ok (.if_icmp .ge 38, 3) := by decide +kernel
theorem dX11_missesOf_12 : decode cX11_missesOf 12 = .ok (.iload_n 3, 1) := by decide +kernel
theorem dX11_missesOf_13 : decode cX11_missesOf 13 = .ok (.aload_n 0, 1) := by decide +kernel
theorem dX11_missesOf_14 : decode cX11_missesOf 14 = .ok (.iload_n 1, 1) := by decide +kernel
theorem dX11_missesOf_15 : decode cX11_missesOf 15 = .ok (.iload 4, 2) := by decide +kernel
theorem dX11_missesOf_17 : decode cX11_missesOf 17 = .ok (.invokevirtual 213, 3) := by decide +kernel
theorem dX11_missesOf_20 : decode cX11_missesOf 20 = .ok (.ifCond .eq 18, 3) := by decide +kernel
theorem dX11_missesOf_23 : decode cX11_missesOf 23 = .ok (.aload_n 0, 1) := by decide +kernel
theorem dX11_missesOf_24 : decode cX11_missesOf 24 = .ok (.iload_n 1, 1) := by decide +kernel
theorem dX11_missesOf_25 : decode cX11_missesOf 25 = .ok (.iload 4, 2) := by decide +kernel
theorem dX11_missesOf_27 : decode cX11_missesOf 27 = .ok (.iload_n 2, 1) := by decide +kernel
theorem dX11_missesOf_28 : decode cX11_missesOf 28 = .ok (.invokevirtual 216, 3) := by decide +kernel
theorem dX11_missesOf_31 : decode cX11_missesOf 31 = .ok (.ifCond .ne 7, 3) := by decide +kernel
theorem dX11_missesOf_34 : decode cX11_missesOf 34 = .ok (.iconst 1, 1) := by decide +kernel
theorem dX11_missesOf_35 : decode cX11_missesOf 35 = .ok (.goto 4, 3) := by decide +kernel
theorem dX11_missesOf_38 : decode cX11_missesOf 38 = .ok (.iconst 0, 1) := by decide +kernel
theorem dX11_missesOf_39 : decode cX11_missesOf 39 = .ok (.iadd, 1) := by decide +kernel
theorem dX11_missesOf_40 : decode cX11_missesOf 40 = .ok (.istore_n 3, 1) := by decide +kernel
theorem dX11_missesOf_41 : decode cX11_missesOf 41 = .ok (.iinc 4 1, 3) := by decide +kernel
theorem dX11_missesOf_44 : decode cX11_missesOf 44 = .ok (.goto (-39), 3) := by decide +kernel
theorem dX11_missesOf_47 : decode cX11_missesOf 47 = .ok (.iload_n 3, 1) := by decide +kernel
theorem dX11_missesOf_48 : decode cX11_missesOf 48 = .ok (.ireturn, 1) := by decide +kernel
theorem dX11_missesAll_0 : decode cX11_missesAll 0 = .ok (.iconst 0, 1) := by decide +kernel
theorem dX11_missesAll_1 : decode cX11_missesAll 1 = .ok (.istore_n 2, 1) := by decide +kernel
theorem dX11_missesAll_2 : decode cX11_missesAll 2 = .ok (.iconst 0, 1) := by decide +kernel
theorem dX11_missesAll_3 : decode cX11_missesAll 3 = .ok (.istore_n 3, 1) := by decide +kernel
theorem dX11_missesAll_4 : decode cX11_missesAll 4 = .ok (.iload_n 3, 1) := by decide +kernel
theorem dX11_missesAll_5 : decode cX11_missesAll 5 = .ok (.aload_n 0, 1) := by decide +kernel
theorem dX11_missesAll_6 : decode cX11_missesAll 6 = .ok (.getfield 82, 3) := by decide +kernel
theorem dX11_missesAll_9 : decode cX11_missesAll 9 = .ok (.if_icmp .ge 18, 3) := by decide +kernel
theorem dX11_missesAll_12 : decode cX11_missesAll 12 = .ok (.iload_n 2, 1) := by decide +kernel
theorem dX11_missesAll_13 : decode cX11_missesAll 13 = .ok (.aload_n 0, 1) := by decide +kernel
theorem dX11_missesAll_14 : decode cX11_missesAll 14 = .ok (.iload_n 3, 1) := by decide +kernel
theorem dX11_missesAll_15 : decode cX11_missesAll 15 = .ok (.iload_n 1, 1) := by decide +kernel
theorem dX11_missesAll_16 : decode cX11_missesAll 16 = .ok (.invokevirtual 220, 3) := by decide +kernel
theorem dX11_missesAll_19 : decode cX11_missesAll 19 = .ok (.iadd, 1) := by decide +kernel
theorem dX11_missesAll_20 : decode cX11_missesAll 20 = .ok (.istore_n 2, 1) := by decide +kernel
theorem dX11_missesAll_21 : decode cX11_missesAll 21 = .ok (.iinc 3 1, 3) := by decide +kernel
theorem dX11_missesAll_24 : decode cX11_missesAll 24 = .ok (.goto (-20), 3) := by decide +kernel
theorem dX11_missesAll_27 : decode cX11_missesAll 27 = .ok (.iload_n 2, 1) := by decide +kernel
theorem dX11_missesAll_28 : decode cX11_missesAll 28 = .ok (.ireturn, 1) := by decide +kernel
theorem dX11_served_0 : decode cX11_served 0 = .ok (.aload_n 0, 1) := by decide +kernel
theorem dX11_served_1 : decode cX11_served 1 = .ok (.iload_n 1, 1) := by decide +kernel
theorem dX11_served_2 : decode cX11_served 2 = .ok (.i2l, 1) := by decide +kernel
theorem dX11_served_3 : decode cX11_served 3 = .ok (.invokevirtual 121, 3) := by decide +kernel
theorem dX11_served_6 : decode cX11_served 6 = .ok (.ifCond .eq 13, 3) := by decide +kernel
theorem dX11_served_9 : decode cX11_served 9 = .ok (.iload_n 2, 1) := by decide +kernel
theorem dX11_served_10 : decode cX11_served 10 = .ok (.i2l, 1) := by decide +kernel
theorem dX11_served_11 : decode cX11_served 11 = .ok (.lconst 0, 1) := by decide +kernel
theorem dX11_served_12 : decode cX11_served 12 = .ok (.lconst 1, 1) := by decide +kernel
theorem dX11_served_13 : decode cX11_served 13 = .ok (.invokestatic 78, 3) := by decide +kernel
theorem dX11_served_16 : decode cX11_served 16 = .ok (.ifCond .ne 5, 3) := by decide +kernel
theorem dX11_served_19 : decode cX11_served 19 = .ok (.iconst (-1), 1) := by decide +kernel
theorem dX11_served_20 : decode cX11_served 20 = .ok (.ireturn, 1) := by decide +kernel
theorem dX11_served_21 : decode cX11_served 21 = .ok (.iload_n 2, 1) := by decide +kernel
theorem dX11_served_22 : decode cX11_served 22 = .ok (.iconst 1, 1) := by decide +kernel
theorem dX11_served_23 : decode cX11_served 23 = .ok (.if_icmp .ne 13, 3) := by decide +kernel
theorem dX11_served_26 : decode cX11_served 26 = .ok (.aload_n 0, 1) := by decide +kernel
theorem dX11_served_27 : decode cX11_served 27 = .ok (.iload_n 1, 1) := by decide +kernel
theorem dX11_served_28 : decode cX11_served 28 = .ok (.aload_n 0, 1) := by decide +kernel
theorem dX11_served_29 : decode cX11_served 29 = .ok (.invokevirtual 207, 3) := by decide +kernel
theorem dX11_served_32 : decode cX11_served 32 = .ok (.invokevirtual 220, 3) := by decide +kernel
theorem dX11_served_35 : decode cX11_served 35 = .ok (.ireturn, 1) := by decide +kernel
theorem dX11_served_36 : decode cX11_served 36 = .ok (.iconst 0, 1) := by decide +kernel
theorem dX11_served_37 : decode cX11_served 37 = .ok (.istore_n 3, 1) := by decide +kernel
theorem dX11_served_38 : decode cX11_served 38 = .ok (.iconst 0, 1) := by decide +kernel
theorem dX11_served_39 : decode cX11_served 39 = .ok (.istore 4, 2) := by decide +kernel
theorem dX11_served_41 : decode cX11_served 41 = .ok (.iload 4, 2) := by decide +kernel
theorem dX11_served_43 : decode cX11_served 43 = .ok (.bipush 12, 2) := by decide +kernel
theorem dX11_served_45 : decode cX11_served 45 = .ok (.if_icmp .ge 34, 3) := by decide +kernel
theorem dX11_served_48 : decode cX11_served 48 = .ok (.iload_n 3, 1) := by decide +kernel
theorem dX11_served_49 : decode cX11_served 49 = .ok (.aload_n 0, 1) := by decide +kernel
theorem dX11_served_50 : decode cX11_served 50 = .ok (.iload_n 1, 1) := by decide +kernel
theorem dX11_served_51 : decode cX11_served 51 = .ok (.iload 4, 2) := by decide +kernel
theorem dX11_served_53 : decode cX11_served 53 = .ok (.aload_n 0, 1) := by decide +kernel
theorem dX11_served_54 : decode cX11_served 54 = .ok (.invokevirtual 207, 3) := by decide +kernel
theorem dX11_served_57 : decode cX11_served 57 = .ok (.invokevirtual 216, 3) := by decide +kernel
theorem dX11_served_60 : decode cX11_served 60 = .ok (.ifCond .eq 10, 3) := by decide +kernel
theorem dX11_served_63 : decode cX11_served 63 = .ok (.iconst 1, 1) := by decide +kernel
theorem dX11_served_64 : decode cX11_served 64 = .ok (.iload 4, 2) := by decide +kernel
theorem dX11_served_66 : decode cX11_served 66 = .ok (.ishl, 1) := by decide +kernel
theorem dX11_served_67 : decode cX11_served 67 = .ok (.goto 4, 3) := by decide +kernel
theorem dX11_served_70 : decode cX11_served 70 = .ok (.iconst 0, 1) := by decide +kernel
theorem dX11_served_71 : decode cX11_served 71 = .ok (.ior, 1) := by decide +kernel
theorem dX11_served_72 : decode cX11_served 72 = .ok (.istore_n 3, 1) := by decide +kernel
theorem dX11_served_73 : decode cX11_served 73 = .ok (.iinc 4 1, 3) := by decide +kernel
theorem dX11_served_76 : decode cX11_served 76 = .ok (.goto (-35), 3) := by decide +kernel
theorem dX11_served_79 : decode cX11_served 79 = .ok (.iload_n 3, 1) := by decide +kernel
theorem dX11_served_80 : decode cX11_served 80 = .ok (.ireturn, 1) := by decide +kernel
theorem dX11_at_0 : decode cX11_at 0 = .ok (.iload_n 1, 1) := by decide +kernel
theorem dX11_at_1 : decode cX11_at 1 = .ok (.bipush 12, 2) := by decide +kernel
theorem dX11_at_3 : decode cX11_at 3 = .ok (.if_icmp .ne 16, 3) := by decide +kernel
theorem dX11_at_6 : decode cX11_at 6 = .ok (.iload_n 2, 1) := by decide +kernel
theorem dX11_at_7 : decode cX11_at 7 = .ok (.ifCond .ne 12, 3) := by decide +kernel
theorem dX11_at_10 : decode cX11_at 10 = .ok (.aload_n 0, 1) := by decide +kernel
theorem dX11_at_11 : decode cX11_at 11 = .ok (.aload_n 0, 1) := by decide +kernel
theorem dX11_at_12 : decode cX11_at 12 = .ok (.invokevirtual 207, 3) := by decide +kernel
theorem dX11_at_15 : decode cX11_at 15 = .ok (.invokevirtual 223, 3) := by decide +kernel
theorem dX11_at_18 : decode cX11_at 18 = .ok (.ireturn, 1) := by decide +kernel
theorem dX11_at_19 : decode cX11_at 19 = .ok (.iload_n 1, 1) := by decide +kernel
theorem dX11_at_20 : decode cX11_at 20 = .ok (.i2l, 1) := by decide +kernel
theorem dX11_at_21 : decode cX11_at 21 = .ok (.invokestatic 204, 3) := by decide +kernel
theorem dX11_at_24 : decode cX11_at 24 = .ok (.ifCond .eq 13, 3) := by decide +kernel
theorem dX11_at_27 : decode cX11_at 27 = .ok (.iload_n 2, 1) := by decide +kernel
theorem dX11_at_28 : decode cX11_at 28 = .ok (.i2l, 1) := by decide +kernel
theorem dX11_at_29 : decode cX11_at 29 = .ok (.lconst 0, 1) := by decide +kernel
theorem dX11_at_30 : decode cX11_at 30 = .ok (.lconst 1, 1) := by decide +kernel
theorem dX11_at_31 : decode cX11_at 31 = .ok (.invokestatic 78, 3) := by decide +kernel
theorem dX11_at_34 : decode cX11_at 34 = .ok (.ifCond .ne 5, 3) := by decide +kernel
theorem dX11_at_37 : decode cX11_at 37 = .ok (.iconst (-1), 1) := by decide +kernel
theorem dX11_at_38 : decode cX11_at 38 = .ok (.ireturn, 1) := by decide +kernel
theorem dX11_at_39 : decode cX11_at 39 = .ok (.iconst 0, 1) := by decide +kernel
theorem dX11_at_40 : decode cX11_at 40 = .ok (.istore_n 3, 1) := by decide +kernel
theorem dX11_at_41 : decode cX11_at 41 = .ok (.iconst 0, 1) := by decide +kernel
theorem dX11_at_42 : decode cX11_at 42 = .ok (.istore 4, 2) := by decide +kernel
theorem dX11_at_44 : decode cX11_at 44 = .ok (.iload 4, 2) := by decide +kernel
theorem dX11_at_46 : decode cX11_at 46 = .ok (.aload_n 0, 1) := by decide +kernel
theorem dX11_at_47 : decode cX11_at 47 = .ok (.getfield 82, 3) := by decide +kernel
theorem dX11_at_50 : decode cX11_at 50 = .ok (.if_icmp .ge 60, 3) := by decide +kernel
theorem dX11_at_53 : decode cX11_at 53 = .ok (.aload_n 0, 1) := by decide +kernel
theorem dX11_at_54 : decode cX11_at 54 = .ok (.iload 4, 2) := by decide +kernel
theorem dX11_at_56 : decode cX11_at 56 = .ok (.iload_n 1, 1) := by decide +kernel
theorem dX11_at_57 : decode cX11_at 57 = .ok (.aload_n 0, 1) := by decide +kernel
theorem dX11_at_58 : decode cX11_at 58 = .ok (.invokevirtual 207, 3) := by decide +kernel
theorem dX11_at_61 : decode cX11_at 61 = .ok (.invokevirtual 216, 3) := by decide +kernel
theorem dX11_at_64 : decode cX11_at 64 = .ok (.istore 5, 2) := by decide +kernel
theorem dX11_at_66 : decode cX11_at 66 = .ok (.iload_n 3, 1) := by decide +kernel
theorem dX11_at_67 : decode cX11_at 67 = .ok (.iload_n 2, 1) := by decide +kernel
theorem dX11_at_68 : decode cX11_at 68 = .ok (.ifCond .ne 11, 3) := by decide +kernel
theorem dX11_at_71 : decode cX11_at 71 = .ok (.iload 5, 2) := by decide +kernel
theorem dX11_at_73 : decode cX11_at 73 = .ok (.ifCond .eq 28, 3) := by decide +kernel
theorem dX11_at_76 : decode cX11_at 76 = .ok (.goto 18, 3) := by decide +kernel
theorem dX11_at_79 : decode cX11_at 79 = .ok (.iload 5, 2) := by decide +kernel
theorem dX11_at_81 : decode cX11_at 81 = .ok (.ifCond .ne 20, 3) := by decide +kernel
theorem dX11_at_84 : decode cX11_at 84 = .ok (.aload_n 0, 1) := by decide +kernel
theorem dX11_at_85 : decode cX11_at 85 = .ok (.iload 4, 2) := by decide +kernel
theorem dX11_at_87 : decode cX11_at 87 = .ok (.iload_n 1, 1) := by decide +kernel
theorem dX11_at_88 : decode cX11_at 88 = .ok (.invokevirtual 213, 3) := by decide +kernel
theorem dX11_at_91 : decode cX11_at 91 = .ok (.ifCond .eq 10, 3) := by decide +kernel
theorem dX11_at_94 : decode cX11_at 94 = .ok (.iconst 1, 1) := by decide +kernel
theorem dX11_at_95 : decode cX11_at 95 = .ok (.iload 4, 2) := by decide +kernel
theorem dX11_at_97 : decode cX11_at 97 = .ok (.ishl, 1) := by decide +kernel
theorem dX11_at_98 : decode cX11_at 98 = .ok (.goto 4, 3) := by decide +kernel
theorem dX11_at_101 : decode cX11_at 101 = .ok (.iconst 0, 1) := by decide +kernel
theorem dX11_at_102 : decode cX11_at 102 = .ok (.ior, 1) := by decide +kernel
theorem dX11_at_103 : decode cX11_at 103 = .ok (.istore_n 3, 1) := by decide +kernel
theorem dX11_at_104 : decode cX11_at 104 = .ok (.iinc 4 1, 3) := by decide +kernel
theorem dX11_at_107 : decode cX11_at 107 = .ok (.goto (-63), 3) := by decide +kernel
theorem dX11_at_110 : decode cX11_at 110 = .ok (.iload_n 3, 1) := by decide +kernel
theorem dX11_at_111 : decode cX11_at 111 = .ok (.ireturn, 1) := by decide +kernel
theorem dX11_isEnough_0 : decode cX11_isEnough 0 = .ok (.iconst 0, 1) := by decide +kernel
theorem dX11_isEnough_1 : decode cX11_isEnough 1 = .ok (.istore_n 2, 1) := by decide +kernel
theorem dX11_isEnough_2 : decode cX11_isEnough 2 = .ok (.iload_n 2, 1) := by decide +kernel
theorem dX11_isEnough_3 : decode cX11_isEnough 3 = .ok (.aload_n 0, 1) := by decide +kernel
theorem dX11_isEnough_4 : decode cX11_isEnough 4 = .ok (.getfield 82, 3) := by decide +kernel
theorem dX11_isEnough_7 : decode cX11_isEnough 7 = .ok (.if_icmp .ge 29, 3) := by decide +kernel
theorem dX11_isEnough_10 : decode cX11_isEnough 10 = .ok (.aload_n 0, 1) := by decide +kernel
theorem dX11_isEnough_11 : decode cX11_isEnough 11 = .ok (.iload_n 2, 1) := by decide +kernel
theorem dX11_isEnough_12 : decode cX11_isEnough 12 = .ok (.iload_n 1, 1) := by decide +kernel
theorem dX11_isEnough_13 : decode cX11_isEnough 13 = .ok (.invokevirtual 220, 3) := by decide +kernel
theorem dX11_isEnough_16 : decode cX11_isEnough 16 = .ok (.aload_n 0, 1) := by decide +kernel
theorem dX11_isEnough_17 : decode cX11_isEnough 17 = .ok (.iload_n 2, 1) := by decide +kernel
theorem dX11_isEnough_18 : decode cX11_isEnough 18 = .ok (.aload_n 0, 1) := by decide +kernel
theorem dX11_isEnough_19 : decode cX11_isEnough 19 = .ok (.invokevirtual 207, 3) := by decide +kernel
theorem dX11_isEnough_22 : decode cX11_isEnough 22 = .ok (.invokevirtual 220, 3) := by decide +kernel
theorem dX11_isEnough_25 : decode cX11_isEnough 25 = .ok (.if_icmp .le 5, 3) := by decide +kernel
theorem dX11_isEnough_28 : decode cX11_isEnough 28 = .ok (.iconst 0, 1) := by decide +kernel
theorem dX11_isEnough_29 : decode cX11_isEnough 29 = .ok (.ireturn, 1) := by decide +kernel
theorem dX11_isEnough_30 : decode cX11_isEnough 30 = .ok (.iinc 2 1, 3) := by decide +kernel
theorem dX11_isEnough_33 : decode cX11_isEnough 33 = .ok (.goto (-31), 3) := by decide +kernel
theorem dX11_isEnough_36 : decode cX11_isEnough 36 = .ok (.iconst 1, 1) := by decide +kernel
theorem dX11_isEnough_37 : decode cX11_isEnough 37 = .ok (.ireturn, 1) := by decide +kernel
theorem dX11_payOf_0 : decode cX11_payOf 0 = .ok (.iconst 0, 1) := by decide +kernel
theorem dX11_payOf_1 : decode cX11_payOf 1 = .ok (.istore_n 2, 1) := by decide +kernel
theorem dX11_payOf_2 : decode cX11_payOf 2 = .ok (.iconst 0, 1) := by decide +kernel
theorem dX11_payOf_3 : decode cX11_payOf 3 = .ok (.istore_n 3, 1) := by decide +kernel
theorem dX11_payOf_4 : decode cX11_payOf 4 = .ok (.iload_n 3, 1) := by decide +kernel
theorem dX11_payOf_5 : decode cX11_payOf 5 = .ok (.aload_n 0, 1) := by decide +kernel
theorem dX11_payOf_6 : decode cX11_payOf 6 = .ok (.getfield 75, 3) := by decide +kernel
theorem dX11_payOf_9 : decode cX11_payOf 9 = .ok (.if_icmp .ge 33, 3) := by decide +kernel
theorem dX11_payOf_12 : decode cX11_payOf 12 = .ok (.iload_n 2, 1) := by decide +kernel
theorem dX11_payOf_13 : decode cX11_payOf 13 = .ok (.iload_n 1, 1) := by decide +kernel
theorem dX11_payOf_14 : decode cX11_payOf 14 = .ok (.iload_n 3, 1) := by decide +kernel
theorem dX11_payOf_15 : decode cX11_payOf 15 = .ok (.invokestatic 197, 3) := by decide +kernel
theorem dX11_payOf_18 : decode cX11_payOf 18 = .ok (.ifCond .eq 15, 3) := by decide +kernel
theorem dX11_payOf_21 : decode cX11_payOf 21 = .ok (.aload_n 0, 1) := by decide +kernel
theorem dX11_payOf_22 : decode cX11_payOf 22 = .ok (.getfield 9, 3) := by decide +kernel
theorem dX11_payOf_25 : decode cX11_payOf 25 = .ok (.bipush 24, 2) := by decide +kernel
theorem dX11_payOf_27 : decode cX11_payOf 27 = .ok (.iload_n 3, 1) := by decide +kernel
theorem dX11_payOf_28 : decode cX11_payOf 28 = .ok (.iadd, 1) := by decide +kernel
theorem dX11_payOf_29 : decode cX11_payOf 29 = .ok (.iaload, 1) := by decide +kernel
theorem dX11_payOf_30 : decode cX11_payOf 30 = .ok (.goto 4, 3) := by decide +kernel
theorem dX11_payOf_33 : decode cX11_payOf 33 = .ok (.iconst 0, 1) := by decide +kernel
theorem dX11_payOf_34 : decode cX11_payOf 34 = .ok (.iadd, 1) := by decide +kernel
theorem dX11_payOf_35 : decode cX11_payOf 35 = .ok (.istore_n 2, 1) := by decide +kernel
theorem dX11_payOf_36 : decode cX11_payOf 36 = .ok (.iinc 3 1, 3) := by decide +kernel
theorem dX11_payOf_39 : decode cX11_payOf 39 = .ok (.goto (-35), 3) := by decide +kernel
theorem dX11_payOf_42 : decode cX11_payOf 42 = .ok (.iload_n 2, 1) := by decide +kernel
theorem dX11_payOf_43 : decode cX11_payOf 43 = .ok (.ireturn, 1) := by decide +kernel
theorem dX11_enough_0 : decode cX11_enough 0 = .ok (.iload_n 1, 1) := by decide +kernel
theorem dX11_enough_1 : decode cX11_enough 1 = .ok (.i2l, 1) := by decide +kernel
theorem dX11_enough_2 : decode cX11_enough 2 = .ok (.lconst 0, 1) := by decide +kernel
theorem dX11_enough_3 : decode cX11_enough 3 = .ok (.ldc2_w 119, 3) := by decide +kernel
theorem dX11_enough_6 : decode cX11_enough 6 = .ok (.invokestatic 78, 3) := by decide +kernel
theorem dX11_enough_9 : decode cX11_enough 9 = .ok (.ifCond .ne 5, 3) := by decide +kernel
theorem dX11_enough_12 : decode cX11_enough 12 = .ok (.iconst (-1), 1) := by decide +kernel
theorem dX11_enough_13 : decode cX11_enough 13 = .ok (.ireturn, 1) := by decide +kernel
theorem dX11_enough_14 : decode cX11_enough 14 = .ok (.iload_n 1, 1) := by decide +kernel
theorem dX11_enough_15 : decode cX11_enough 15 = .ok (.iconst 4, 1) := by decide +kernel
theorem dX11_enough_16 : decode cX11_enough 16 = .ok (.if_icmp .ne 50, 3) := by decide +kernel
theorem dX11_enough_19 : decode cX11_enough 19 = .ok (.iconst 0, 1) := by decide +kernel
theorem dX11_enough_20 : decode cX11_enough 20 = .ok (.istore_n 2, 1) := by decide +kernel
theorem dX11_enough_21 : decode cX11_enough 21 = .ok (.iconst 0, 1) := by decide +kernel
theorem dX11_enough_22 : decode cX11_enough 22 = .ok (.istore_n 3, 1) := by decide +kernel
theorem dX11_enough_23 : decode cX11_enough 23 = .ok (.iload_n 3, 1) := by decide +kernel
theorem dX11_enough_24 : decode cX11_enough 24 = .ok (.aload_n 0, 1) := by decide +kernel
theorem dX11_enough_25 : decode cX11_enough 25 = .ok (.getfield 75, 3) := by decide +kernel
theorem dX11_enough_28 : decode cX11_enough 28 = .ok (.if_icmp .ge 36, 3) := by decide +kernel
theorem dX11_enough_31 : decode cX11_enough 31 = .ok (.iload_n 2, 1) := by decide +kernel
theorem dX11_enough_32 : decode cX11_enough 32 = .ok (.aload_n 0, 1) := by decide +kernel
theorem dX11_enough_33 : decode cX11_enough 33 = .ok (.aload_n 0, 1) := by decide +kernel
theorem dX11_enough_34 : decode cX11_enough 34 = .ok (.invokevirtual 207, 3) := by decide +kernel
theorem dX11_enough_37 : decode cX11_enough 37 = .ok (.iconst 1, 1) := by decide +kernel
theorem dX11_enough_38 : decode cX11_enough 38 = .ok (.iload_n 3, 1) := by decide +kernel
theorem dX11_enough_39 : decode cX11_enough 39 = .ok (.ishl, 1) := by decide +kernel
theorem dX11_enough_40 : decode cX11_enough 40 = .ok (.iconst (-1), 1) := by decide +kernel
theorem dX11_enough_41 : decode cX11_enough 41 = .ok (.ixor, 1) := by decide +kernel
theorem dX11_enough_42 : decode cX11_enough 42 = .ok (.iand, 1) := by decide +kernel
theorem dX11_enough_43 : decode cX11_enough 43 = .ok (.invokevirtual 226, 3) := by decide +kernel
theorem dX11_enough_46 : decode cX11_enough 46 = .ok (.ifCond .eq 7, 3) := by decide +kernel
theorem dX11_enough_49 : decode cX11_enough 49 = .ok (.iconst 0, 1) := by decide +kernel
theorem dX11_enough_50 : decode cX11_enough 50 = .ok (.goto 6, 3) := by decide +kernel
theorem dX11_enough_53 : decode cX11_enough 53 = .ok (.iconst 1, 1) := by decide +kernel
theorem dX11_enough_54 : decode cX11_enough 54 = .ok (.iload_n 3, 1) := by decide +kernel
theorem dX11_enough_55 : decode cX11_enough 55 = .ok (.ishl, 1) := by decide +kernel
theorem dX11_enough_56 : decode cX11_enough 56 = .ok (.ior, 1) := by decide +kernel
theorem dX11_enough_57 : decode cX11_enough 57 = .ok (.istore_n 2, 1) := by decide +kernel
theorem dX11_enough_58 : decode cX11_enough 58 = .ok (.iinc 3 1, 3) := by decide +kernel
theorem dX11_enough_61 : decode cX11_enough 61 = .ok (.goto (-38), 3) := by decide +kernel
theorem dX11_enough_64 : decode cX11_enough 64 = .ok (.iload_n 2, 1) := by decide +kernel
theorem dX11_enough_65 : decode cX11_enough 65 = .ok (.ireturn, 1) := by decide +kernel
theorem dX11_enough_66 : decode cX11_enough 66 = .ok (.aload_n 0, 1) := by decide +kernel
theorem dX11_enough_67 : decode cX11_enough 67 = .ok (.invokevirtual 207, 3) := by decide +kernel
theorem dX11_enough_70 : decode cX11_enough 70 = .ok (.istore_n 2, 1) := by decide +kernel
theorem dX11_enough_71 : decode cX11_enough 71 = .ok (.aload_n 0, 1) := by decide +kernel
theorem dX11_enough_72 : decode cX11_enough 72 = .ok (.invokevirtual 207, 3) := by decide +kernel
theorem dX11_enough_75 : decode cX11_enough 75 = .ok (.iconst 1, 1) := by decide +kernel
theorem dX11_enough_76 : decode cX11_enough 76 = .ok (.isub, 1) := by decide +kernel
theorem dX11_enough_77 : decode cX11_enough 77 = .ok (.istore_n 3, 1) := by decide +kernel
theorem dX11_enough_78 : decode cX11_enough 78 = .ok (.iload_n 3, 1) := by decide +kernel
theorem dX11_enough_79 : decode cX11_enough 79 = .ok (.ifCond .lt 62, 3) := by decide +kernel
theorem dX11_enough_82 : decode cX11_enough 82 = .ok (.iload_n 1, 1) := by decide +kernel
theorem dX11_enough_83 : decode cX11_enough 83 = .ok (.iconst 2, 1) := by decide +kernel
theorem dX11_enough_84 : decode cX11_enough 84 = .ok (.if_icmp .ge 7, 3) := by decide +kernel
theorem dX11_enough_87 : decode cX11_enough 87 = .ok (.iconst 0, 1) := by decide +kernel
theorem dX11_enough_88 : decode cX11_enough 88 = .ok (.goto 14, 3) := by decide +kernel
theorem dX11_enough_91 : decode cX11_enough 91 = .ok (.aload_n 0, 1) := by decide +kernel
theorem dX11_enough_92 : decode cX11_enough 92 = .ok (.iload_n 3, 1) := by decide +kernel
theorem dX11_enough_93 : decode cX11_enough 93 = .ok (.invokevirtual 229, 3) := by decide +kernel
theorem dX11_enough_96 : decode cX11_enough 96 = .ok (.aload_n 0, 1) := by decide +kernel
theorem dX11_enough_97 : decode cX11_enough 97 = .ok (.iload_n 2, 1) := by decide +kernel
theorem dX11_enough_98 : decode cX11_enough 98 = .ok (.invokevirtual 229, 3) := by decide +kernel
theorem dX11_enough_101 : decode cX11_enough 101 = .ok (.isub, 1) := by decide +kernel
theorem dX11_enough_102 : decode cX11_enough 102 = .ok (.istore 4, 2) := by decide +kernel
theorem dX11_enough_104 : decode cX11_enough 104 = .ok (.iload 4, 2) := by decide +kernel
theorem dX11_enough_106 : decode cX11_enough 106 = .ok (.ifCond .lt 19, 3) := by decide +kernel
theorem dX11_enough_109 : decode cX11_enough 109 = .ok (.iload 4, 2) := by decide +kernel
theorem dX11_enough_111 : decode cX11_enough 111 = .ok (.ifCond .ne 24, 3) := by decide +kernel
theorem dX11_enough_114 : decode cX11_enough 114 = .ok (.iload_n 3, 1) := by decide +kernel
theorem dX11_enough_115 : decode cX11_enough 115 = .ok (.invokestatic 232, 3) := by decide +kernel
theorem dX11_enough_118 : decode cX11_enough 118 = .ok (.iload_n 2, 1) := by decide +kernel
theorem dX11_enough_119 : decode cX11_enough 119 = .ok (.invokestatic 232, 3) := by decide +kernel
theorem dX11_enough_122 : decode cX11_enough 122 = .ok (.if_icmp .gt 13, 3) := by decide +kernel
theorem dX11_enough_125 : decode cX11_enough 125 = .ok (.aload_n 0, 1) := by decide +kernel
theorem dX11_enough_126 : decode cX11_enough 126 = .ok (.iload_n 3, 1) := by decide +kernel
theorem dX11_enough_127 : decode cX11_enough 127 = .ok (.invokevirtual 226, 3) := by decide +kernel
theorem dX11_enough_130 : decode cX11_enough 130 = .ok (.ifCond .eq 5, 3) := by decide +kernel
theorem dX11_enough_133 : decode cX11_enough 133 = .ok (.iload_n 3, 1) := by decide +kernel
theorem dX11_enough_134 : decode cX11_enough 134 = .ok (.istore_n 2, 1) := by decide +kernel
theorem dX11_enough_135 : decode cX11_enough 135 = .ok (.iinc 3 (-1), 3) := by decide +kernel
theorem dX11_enough_138 : decode cX11_enough 138 = .ok (.goto (-60), 3) := by decide +kernel
theorem dX11_enough_141 : decode cX11_enough 141 = .ok (.iload_n 1, 1) := by decide +kernel
theorem dX11_enough_142 : decode cX11_enough 142 = .ok (.ifCond .ne 10, 3) := by decide +kernel
theorem dX11_enough_145 : decode cX11_enough 145 = .ok (.iload_n 2, 1) := by decide +kernel
theorem dX11_enough_146 : decode cX11_enough 146 = .ok (.invokestatic 232, 3) := by decide +kernel
theorem dX11_enough_149 : decode cX11_enough 149 = .ok (.goto 17, 3) := by decide +kernel
theorem dX11_enough_152 : decode cX11_enough 152 = .ok (.iload_n 1, 1) := by decide +kernel
theorem dX11_enough_153 : decode cX11_enough 153 = .ok (.iconst 3, 1) := by decide +kernel
theorem dX11_enough_154 : decode cX11_enough 154 = .ok (.if_icmp .ne 11, 3) := by decide +kernel
theorem dX11_enough_157 : decode cX11_enough 157 = .ok (.aload_n 0, 1) := by decide +kernel
theorem dX11_enough_158 : decode cX11_enough 158 = .ok (.iload_n 2, 1) := by decide +kernel
theorem dX11_enough_159 : decode cX11_enough 159 = .ok (.invokevirtual 229, 3) := by decide +kernel
theorem dX11_enough_162 : decode cX11_enough 162 = .ok (.goto 4, 3) := by decide +kernel
theorem dX11_enough_165 : decode cX11_enough 165 = .ok (.iload_n 2, 1) := by decide +kernel
theorem dX11_enough_166 : decode cX11_enough 166 = .ok (.ireturn, 1) := by decide +kernel
theorem dX11_isEnoughAt_0 : decode cX11_isEnoughAt 0 = .ok (.iconst 0, 1) := by decide +kernel
theorem dX11_isEnoughAt_1 : decode cX11_isEnoughAt 1 = .ok (.istore_n 3, 1) := by decide +kernel
theorem dX11_isEnoughAt_2 : decode cX11_isEnoughAt 2 = .ok (.iload_n 3, 1) := by decide +kernel
theorem dX11_isEnoughAt_3 : decode cX11_isEnoughAt 3 = .ok (.aload_n 0, 1) := by decide +kernel
theorem dX11_isEnoughAt_4 : decode cX11_isEnoughAt 4 = .ok (.getfield 82, 3) := by decide +kernel
theorem dX11_isEnoughAt_7 : decode cX11_isEnoughAt 7 = .ok (.if_icmp .ge 43, 3) := by decide +kernel
theorem dX11_isEnoughAt_10 : decode cX11_isEnoughAt 10 = .ok (.aload_n 0, 1) := by decide +kernel
theorem dX11_isEnoughAt_11 : decode cX11_isEnoughAt 11 = .ok (.iload_n 3, 1) := by decide +kernel
theorem dX11_isEnoughAt_12 : decode cX11_isEnoughAt 12 = .ok (.iload_n 1, 1) := by decide +kernel
theorem dX11_isEnoughAt_13 : decode cX11_isEnoughAt 13 = .ok (.invokevirtual 213, 3) := by decide +kernel
theorem dX11_isEnoughAt_16 : decode cX11_isEnoughAt 16 = .ok (.ifCond .eq 28, 3) := by decide +kernel
theorem dX11_isEnoughAt_19 : decode cX11_isEnoughAt 19 = .ok (.aload_n 0, 1) := by decide +kernel
theorem dX11_isEnoughAt_20 : decode cX11_isEnoughAt 20 = .ok (.iload_n 3, 1) := by decide +kernel
theorem dX11_isEnoughAt_21 : decode cX11_isEnoughAt 21 = .ok (.iload_n 1, 1) := by decide +kernel
theorem dX11_isEnoughAt_22 : decode cX11_isEnoughAt 22 = .ok (.aload_n 0, 1) := by decide +kernel
theorem dX11_isEnoughAt_23 : decode cX11_isEnoughAt 23 = .ok (.invokevirtual 207, 3) := by decide +kernel
theorem dX11_isEnoughAt_26 : decode cX11_isEnoughAt 26 = .ok (.invokevirtual 216, 3) := by decide +kernel
theorem dX11_isEnoughAt_29 : decode cX11_isEnoughAt 29 = .ok (.ifCond .eq 15, 3) := by decide +kernel
theorem dX11_isEnoughAt_32 : decode cX11_isEnoughAt 32 = .ok (.aload_n 0, 1) := by decide +kernel
theorem dX11_isEnoughAt_33 : decode cX11_isEnoughAt 33 = .ok (.iload_n 3, 1) := by decide +kernel
theorem dX11_isEnoughAt_34 : decode cX11_isEnoughAt 34 = .ok (.iload_n 1, 1) := by decide +kernel
theorem dX11_isEnoughAt_35 : decode cX11_isEnoughAt 35 = .ok (.iload_n 2, 1) := by decide +kernel
theorem dX11_isEnoughAt_36 : decode cX11_isEnoughAt 36 = .ok (.invokevirtual 216, 3) := by decide +kernel
theorem dX11_isEnoughAt_39 : decode cX11_isEnoughAt 39 = .ok (.ifCond .ne 5, 3) := by decide +kernel
theorem dX11_isEnoughAt_42 : decode cX11_isEnoughAt 42 = .ok (.iconst 0, 1) := by decide +kernel
theorem dX11_isEnoughAt_43 : decode cX11_isEnoughAt 43 = .ok (.ireturn, 1) := by decide +kernel
theorem dX11_isEnoughAt_44 : decode cX11_isEnoughAt 44 = .ok (.iinc 3 1, 3) := by decide +kernel
theorem dX11_isEnoughAt_47 : decode cX11_isEnoughAt 47 = .ok (.goto (-45), 3) := by decide +kernel
theorem dX11_isEnoughAt_50 : decode cX11_isEnoughAt 50 = .ok (.iconst 1, 1) := by decide +kernel
theorem dX11_isEnoughAt_51 : decode cX11_isEnoughAt 51 = .ok (.ireturn, 1) := by decide +kernel
theorem dX11_rosterAt_0 : decode cX11_rosterAt 0 = .ok (.aload_n 0, 1) := by decide +kernel
theorem dX11_rosterAt_1 : decode cX11_rosterAt 1 = .ok (.invokevirtual 207, 3) := by decide +kernel
theorem dX11_rosterAt_4 : decode cX11_rosterAt 4 = .ok (.istore_n 2, 1) := by decide +kernel
theorem dX11_rosterAt_5 : decode cX11_rosterAt 5 = .ok (.aload_n 0, 1) := by decide +kernel
theorem dX11_rosterAt_6 : decode cX11_rosterAt 6 = .ok (.invokevirtual 207, 3) := by decide +kernel
theorem dX11_rosterAt_9 : decode cX11_rosterAt 9 = .ok (.iconst 1, 1) := by decide +kernel
theorem dX11_rosterAt_10 : decode cX11_rosterAt 10 = .ok (.isub, 1) := by decide +kernel
theorem dX11_rosterAt_11 : decode cX11_rosterAt 11 = .ok (.istore_n 3, 1) := by decide +kernel
theorem dX11_rosterAt_12 : decode cX11_rosterAt 12 = .ok (.iload_n 3, 1) := by decide +kernel
theorem dX11_rosterAt_13 : decode cX11_rosterAt 13 = .ok (.ifCond .lt 33, 3) := by decide +kernel
theorem dX11_rosterAt_16 : decode cX11_rosterAt 16 = .ok (.aload_n 0, 1) := by decide +kernel
theorem dX11_rosterAt_17 : decode cX11_rosterAt 17 = .ok (.iload_n 3, 1) := by decide +kernel
theorem dX11_rosterAt_18 : decode cX11_rosterAt 18 = .ok (.invokevirtual 229, 3) := by decide +kernel
theorem dX11_rosterAt_21 : decode cX11_rosterAt 21 = .ok (.aload_n 0, 1) := by decide +kernel
theorem dX11_rosterAt_22 : decode cX11_rosterAt 22 = .ok (.iload_n 2, 1) := by decide +kernel
theorem dX11_rosterAt_23 : decode cX11_rosterAt 23 = .ok (.invokevirtual 229, 3) := by decide +kernel
theorem dX11_rosterAt_26 : decode cX11_rosterAt 26 = .ok (.if_icmp .gt 14, 3) := by decide +kernel
theorem dX11_rosterAt_29 : decode cX11_rosterAt 29 = .ok (.aload_n 0, 1) := by decide +kernel
theorem dX11_rosterAt_30 : decode cX11_rosterAt 30 = .ok (.iload_n 1, 1) := by decide +kernel
theorem dX11_rosterAt_31 : decode cX11_rosterAt 31 = .ok (.iload_n 3, 1) := by decide +kernel
theorem dX11_rosterAt_32 : decode cX11_rosterAt 32 = .ok (.invokevirtual 235, 3) := by decide +kernel
theorem dX11_rosterAt_35 : decode cX11_rosterAt 35 = .ok (.ifCond .eq 5, 3) := by decide +kernel
theorem dX11_rosterAt_38 : decode cX11_rosterAt 38 = .ok (.iload_n 3, 1) := by decide +kernel
theorem dX11_rosterAt_39 : decode cX11_rosterAt 39 = .ok (.istore_n 2, 1) := by decide +kernel
theorem dX11_rosterAt_40 : decode cX11_rosterAt 40 = .ok (.iinc 3 (-1), 3) := by decide +kernel
theorem dX11_rosterAt_43 : decode cX11_rosterAt 43 = .ok (.goto (-31), 3) := by decide +kernel
theorem dX11_rosterAt_46 : decode cX11_rosterAt 46 = .ok (.iload_n 2, 1) := by decide +kernel
theorem dX11_rosterAt_47 : decode cX11_rosterAt 47 = .ok (.ireturn, 1) := by decide +kernel
theorem dX11_roster_0 : decode cX11_roster 0 = .ok (.iload_n 1, 1) := by decide +kernel
theorem dX11_roster_1 : decode cX11_roster 1 = .ok (.i2l, 1) := by decide +kernel
theorem dX11_roster_2 : decode cX11_roster 2 = .ok (.lconst 0, 1) := by decide +kernel
theorem dX11_roster_3 : decode cX11_roster 3 = .ok (.ldc2_w 97, 3) := by decide +kernel
theorem dX11_roster_6 : decode cX11_roster 6 = .ok (.invokestatic 78, 3) := by decide +kernel
theorem dX11_roster_9 : decode cX11_roster 9 = .ok (.ifCond .ne 5, 3) := by decide +kernel
theorem dX11_roster_12 : decode cX11_roster 12 = .ok (.iconst (-1), 1) := by decide +kernel
theorem dX11_roster_13 : decode cX11_roster 13 = .ok (.ireturn, 1) := by decide +kernel
theorem dX11_roster_14 : decode cX11_roster 14 = .ok (.iload_n 1, 1) := by decide +kernel
theorem dX11_roster_15 : decode cX11_roster 15 = .ok (.bipush 12, 2) := by decide +kernel
theorem dX11_roster_17 : decode cX11_roster 17 = .ok (.if_icmp .ge 9, 3) := by decide +kernel
theorem dX11_roster_20 : decode cX11_roster 20 = .ok (.aload_n 0, 1) := by decide +kernel
theorem dX11_roster_21 : decode cX11_roster 21 = .ok (.iload_n 1, 1) := by decide +kernel
theorem dX11_roster_22 : decode cX11_roster 22 = .ok (.invokevirtual 238, 3) := by decide +kernel
theorem dX11_roster_25 : decode cX11_roster 25 = .ok (.ireturn, 1) := by decide +kernel
theorem dX11_roster_26 : decode cX11_roster 26 = .ok (.iconst 0, 1) := by decide +kernel
theorem dX11_roster_27 : decode cX11_roster 27 = .ok (.istore_n 2, 1) := by decide +kernel
theorem dX11_roster_28 : decode cX11_roster 28 = .ok (.iconst 0, 1) := by decide +kernel
theorem dX11_roster_29 : decode cX11_roster 29 = .ok (.istore_n 3, 1) := by decide +kernel
theorem dX11_roster_30 : decode cX11_roster 30 = .ok (.iload_n 3, 1) := by decide +kernel
theorem dX11_roster_31 : decode cX11_roster 31 = .ok (.bipush 12, 2) := by decide +kernel
theorem dX11_roster_33 : decode cX11_roster 33 = .ok (.if_icmp .ge 21, 3) := by decide +kernel
theorem dX11_roster_36 : decode cX11_roster 36 = .ok (.iload_n 2, 1) := by decide +kernel
theorem dX11_roster_37 : decode cX11_roster 37 = .ok (.aload_n 0, 1) := by decide +kernel
theorem dX11_roster_38 : decode cX11_roster 38 = .ok (.aload_n 0, 1) := by decide +kernel
theorem dX11_roster_39 : decode cX11_roster 39 = .ok (.iload_n 3, 1) := by decide +kernel
theorem dX11_roster_40 : decode cX11_roster 40 = .ok (.invokevirtual 238, 3) := by decide +kernel
theorem dX11_roster_43 : decode cX11_roster 43 = .ok (.invokevirtual 229, 3) := by decide +kernel
theorem dX11_roster_46 : decode cX11_roster 46 = .ok (.iadd, 1) := by decide +kernel
theorem dX11_roster_47 : decode cX11_roster 47 = .ok (.istore_n 2, 1) := by decide +kernel
theorem dX11_roster_48 : decode cX11_roster 48 = .ok (.iinc 3 1, 3) := by decide +kernel
theorem dX11_roster_51 : decode cX11_roster 51 = .ok (.goto (-21), 3) := by decide +kernel
theorem dX11_roster_54 : decode cX11_roster 54 = .ok (.iload_n 2, 1) := by decide +kernel
theorem dX11_roster_55 : decode cX11_roster 55 = .ok (.ireturn, 1) := by decide +kernel
theorem dX11_oneMore_0 : decode cX11_oneMore 0 = .ok (.iload_n 1, 1) := by decide +kernel
theorem dX11_oneMore_1 : decode cX11_oneMore 1 = .ok (.i2l, 1) := by decide +kernel
theorem dX11_oneMore_2 : decode cX11_oneMore 2 = .ok (.lconst 0, 1) := by decide +kernel
theorem dX11_oneMore_3 : decode cX11_oneMore 3 = .ok (.ldc2_w 93, 3) := by decide +kernel
theorem dX11_oneMore_6 : decode cX11_oneMore 6 = .ok (.invokestatic 78, 3) := by decide +kernel
theorem dX11_oneMore_9 : decode cX11_oneMore 9 = .ok (.ifCond .eq 13, 3) := by decide +kernel
theorem dX11_oneMore_12 : decode cX11_oneMore 12 = .ok (.iload_n 2, 1) := by decide +kernel
theorem dX11_oneMore_13 : decode cX11_oneMore 13 = .ok (.i2l, 1) := by decide +kernel
theorem dX11_oneMore_14 : decode cX11_oneMore 14 = .ok (.lconst 0, 1) := by decide +kernel
theorem dX11_oneMore_15 : decode cX11_oneMore 15 = .ok (.lconst 1, 1) := by decide +kernel
theorem dX11_oneMore_16 : decode cX11_oneMore 16 = .ok (.invokestatic 78, 3) := by decide +kernel
theorem dX11_oneMore_19 : decode cX11_oneMore 19 = .ok (.ifCond .ne 5, 3) := by decide +kernel
theorem dX11_oneMore_22 : decode cX11_oneMore 22 = .ok (.iconst (-1), 1) := by decide +kernel
theorem dX11_oneMore_23 : decode cX11_oneMore 23 = .ok (.ireturn, 1) := by decide +kernel
theorem dX11_oneMore_24 : decode cX11_oneMore 24 = .ok (.iconst 0, 1) := by decide +kernel
theorem dX11_oneMore_25 : decode cX11_oneMore 25 = .ok (.istore_n 3, 1) := by decide +kernel
theorem dX11_oneMore_26 : decode cX11_oneMore 26 = .ok (.ldc 241, 2) := by decide +kernel
theorem dX11_oneMore_28 : decode cX11_oneMore 28 = .ok (.istore 4, 2) := by decide +kernel
theorem dX11_oneMore_30 : decode cX11_oneMore 30 = .ok (.aload_n 0, 1) := by decide +kernel
theorem dX11_oneMore_31 : decode cX11_oneMore 31 = .ok (.getfield 9, 3) := by decide +kernel
theorem dX11_oneMore_34 : decode cX11_oneMore 34 = .ok (.bipush 8, 2) := by decide +kernel
theorem dX11_oneMore_36 : decode cX11_oneMore 36 = .ok (.aload_n 0, 1) := by decide +kernel
theorem dX11_oneMore_37 : decode cX11_oneMore 37 = .ok (.getfield 75, 3) := by decide +kernel
theorem dX11_oneMore_40 : decode cX11_oneMore 40 = .ok (.iadd, 1) := by decide +kernel
theorem dX11_oneMore_41 : decode cX11_oneMore 41 = .ok (.iload_n 1, 1) := by decide +kernel
theorem dX11_oneMore_42 : decode cX11_oneMore 42 = .ok (.iastore, 1) := by decide +kernel
theorem dX11_oneMore_43 : decode cX11_oneMore 43 = .ok (.aload_n 0, 1) := by decide +kernel
theorem dX11_oneMore_44 : decode cX11_oneMore 44 = .ok (.getfield 9, 3) := by decide +kernel
theorem dX11_oneMore_47 : decode cX11_oneMore 47 = .ok (.bipush 16, 2) := by decide +kernel
theorem dX11_oneMore_49 : decode cX11_oneMore 49 = .ok (.aload_n 0, 1) := by decide +kernel
theorem dX11_oneMore_50 : decode cX11_oneMore 50 = .ok (.getfield 75, 3) := by decide +kernel
theorem dX11_oneMore_53 : decode cX11_oneMore 53 = .ok (.iadd, 1) := by decide +kernel
theorem dX11_oneMore_54 : decode cX11_oneMore 54 = .ok (.iconst 1, 1) := by decide +kernel
theorem dX11_oneMore_55 : decode cX11_oneMore 55 = .ok (.iastore, 1) := by decide +kernel
theorem dX11_oneMore_56 : decode cX11_oneMore 56 = .ok (.iconst 0, 1) := by decide +kernel
theorem dX11_oneMore_57 : decode cX11_oneMore 57 = .ok (.istore 5, 2) := by decide +kernel
theorem dX11_oneMore_59 : decode cX11_oneMore 59 = .ok (.iload 5, 2) := by decide +kernel
theorem dX11_oneMore_61 : decode cX11_oneMore 61 = .ok (.sipush 144, 3) := by decide +kernel
theorem dX11_oneMore_64 : decode cX11_oneMore 64 = .ok (.if_icmp .ge 67, 3) := by decide +kernel
theorem dX11_oneMore_67 : decode cX11_oneMore 67 = .ok (.aload_n 0, 1) := by decide +kernel
theorem dX11_oneMore_68 : decode cX11_oneMore 68 = .ok (.getfield 9, 3) := by decide +kernel
theorem dX11_oneMore_71 : decode cX11_oneMore 71 = .ok (.aload_n 0, 1) := by decide +kernel
theorem dX11_oneMore_72 : decode cX11_oneMore 72 = .ok (.getfield 75, 3) := by decide +kernel
theorem dX11_oneMore_75 : decode cX11_oneMore 75 = .ok (.iload 5, 2) := by decide +kernel
theorem dX11_oneMore_77 : decode cX11_oneMore 77 = .ok (.iastore, 1) := by decide +kernel
theorem dX11_oneMore_78 : decode cX11_oneMore 78 = .ok (.aload_n 0, 1) := by decide +kernel
theorem dX11_oneMore_79 : decode cX11_oneMore 79 = .ok (.aload_n 0, 1) := by decide +kernel
theorem dX11_oneMore_80 : decode cX11_oneMore 80 = .ok (.invokevirtual 207, 3) := by decide +kernel
theorem dX11_oneMore_83 : decode cX11_oneMore 83 = .ok (.iconst 1, 1) := by decide +kernel
theorem dX11_oneMore_84 : decode cX11_oneMore 84 = .ok (.aload_n 0, 1) := by decide +kernel
theorem dX11_oneMore_85 : decode cX11_oneMore 85 = .ok (.getfield 75, 3) := by decide +kernel
theorem dX11_oneMore_88 : decode cX11_oneMore 88 = .ok (.ishl, 1) := by decide +kernel
theorem dX11_oneMore_89 : decode cX11_oneMore 89 = .ok (.ior, 1) := by decide +kernel
theorem dX11_oneMore_90 : decode cX11_oneMore 90 = .ok (.invokevirtual 223, 3) := by decide +kernel
theorem dX11_oneMore_93 : decode cX11_oneMore 93 = .ok (.istore 6, 2) := by decide +kernel
theorem dX11_oneMore_95 : decode cX11_oneMore 95 = .ok (.iload 6, 2) := by decide +kernel
theorem dX11_oneMore_97 : decode cX11_oneMore 97 = .ok (.iload 4, 2) := by decide +kernel
theorem dX11_oneMore_99 : decode cX11_oneMore 99 = .ok (.if_icmp .ge 8, 3) := by decide +kernel
theorem dX11_oneMore_102 : decode cX11_oneMore 102 = .ok (.iload 5, 2) := by decide +kernel
theorem dX11_oneMore_104 : decode cX11_oneMore 104 = .ok (.goto 4, 3) := by decide +kernel
theorem dX11_oneMore_107 : decode cX11_oneMore 107 = .ok (.iload_n 3, 1) := by decide +kernel
theorem dX11_oneMore_108 : decode cX11_oneMore 108 = .ok (.istore_n 3, 1) := by decide +kernel
theorem dX11_oneMore_109 : decode cX11_oneMore 109 = .ok (.iload 6, 2) := by decide +kernel
theorem dX11_oneMore_111 : decode cX11_oneMore 111 = .ok (.iload 4, 2) := by decide +kernel
theorem dX11_oneMore_113 : decode cX11_oneMore 113 = .ok (.if_icmp .ge 8, 3) := by decide +kernel
theorem dX11_oneMore_116 : decode cX11_oneMore 116 = .ok (.iload 6, 2) := by decide +kernel
theorem dX11_oneMore_118 : decode cX11_oneMore 118 = .ok (.goto 5, 3) := by decide +kernel
theorem dX11_oneMore_121 : decode cX11_oneMore 121 = .ok (.iload 4, 2) := by decide +kernel
theorem dX11_oneMore_123 : decode cX11_oneMore 123 = .ok (.istore 4, 2) := by decide +kernel
theorem dX11_oneMore_125 : decode cX11_oneMore 125 = .ok (.iinc 5 1, 3) := by decide +kernel
theorem dX11_oneMore_128 : decode cX11_oneMore 128 = .ok (.goto (-69), 3) := by decide +kernel
theorem dX11_oneMore_131 : decode cX11_oneMore 131 = .ok (.aload_n 0, 1) := by decide +kernel
theorem dX11_oneMore_132 : decode cX11_oneMore 132 = .ok (.getfield 9, 3) := by decide +kernel
theorem dX11_oneMore_135 : decode cX11_oneMore 135 = .ok (.aload_n 0, 1) := by decide +kernel
theorem dX11_oneMore_136 : decode cX11_oneMore 136 = .ok (.getfield 75, 3) := by decide +kernel
theorem dX11_oneMore_139 : decode cX11_oneMore 139 = .ok (.iconst 0, 1) := by decide +kernel
theorem dX11_oneMore_140 : decode cX11_oneMore 140 = .ok (.iastore, 1) := by decide +kernel
theorem dX11_oneMore_141 : decode cX11_oneMore 141 = .ok (.iload_n 2, 1) := by decide +kernel
theorem dX11_oneMore_142 : decode cX11_oneMore 142 = .ok (.ifCond .ne 7, 3) := by decide +kernel
theorem dX11_oneMore_145 : decode cX11_oneMore 145 = .ok (.iload_n 3, 1) := by decide +kernel
theorem dX11_oneMore_146 : decode cX11_oneMore 146 = .ok (.goto 5, 3) := by decide +kernel
theorem dX11_oneMore_149 : decode cX11_oneMore 149 = .ok (.iload 4, 2) := by decide +kernel
theorem dX11_oneMore_151 : decode cX11_oneMore 151 = .ok (.ireturn, 1) := by decide +kernel
theorem dX11_stepFrom_0 : decode cX11_stepFrom 0 = .ok (.iload_n 1, 1) := by decide +kernel
theorem dX11_stepFrom_1 : decode cX11_stepFrom 1 = .ok (.iconst 4, 1) := by decide +kernel
theorem dX11_stepFrom_2 : decode cX11_stepFrom 2 = .ok (.if_icmp .ne 5, 3) := by decide +kernel
theorem dX11_stepFrom_5 : decode cX11_stepFrom 5 = .ok (.iload_n 0, 1) := by decide +kernel
theorem dX11_stepFrom_6 : decode cX11_stepFrom 6 = .ok (.ireturn, 1) := by decide +kernel
theorem dX11_stepFrom_7 : decode cX11_stepFrom 7 = .ok (.iload_n 0, 1) := by decide +kernel
theorem dX11_stepFrom_8 : decode cX11_stepFrom 8 = .ok (.bipush 12, 2) := by decide +kernel
theorem dX11_stepFrom_10 : decode cX11_stepFrom 10 = .ok (.irem, 1) := by decide +kernel
theorem dX11_stepFrom_11 : decode cX11_stepFrom 11 = .ok (.iload_n 1, 1) := by decide +kernel
theorem dX11_stepFrom_12 : decode cX11_stepFrom 12 = .ok (.iconst 1, 1) := by decide +kernel
theorem dX11_stepFrom_13 : decode cX11_stepFrom 13 = .ok (.if_icmp .ne 7, 3) := by decide +kernel
theorem dX11_stepFrom_16 : decode cX11_stepFrom 16 = .ok (.iconst 1, 1) := by decide +kernel
theorem dX11_stepFrom_17 : decode cX11_stepFrom 17 = .ok (.goto 13, 3) := by decide +kernel
theorem dX11_stepFrom_20 : decode cX11_stepFrom 20 = .ok (.iload_n 1, 1) := by decide +kernel
theorem dX11_stepFrom_21 : decode cX11_stepFrom 21 = .ok (.iconst 3, 1) := by decide +kernel
theorem dX11_stepFrom_22 : decode cX11_stepFrom 22 = .ok (.if_icmp .ne 7, 3) := by decide +kernel
theorem dX11_stepFrom_25 : decode cX11_stepFrom 25 = .ok (.iconst (-1), 1) := by decide +kernel
theorem dX11_stepFrom_26 : decode cX11_stepFrom 26 = .ok (.goto 4, 3) := by decide +kernel
theorem dX11_stepFrom_29 : decode cX11_stepFrom 29 = .ok (.iconst 0, 1) := by decide +kernel
theorem dX11_stepFrom_30 : decode cX11_stepFrom 30 = .ok (.iadd, 1) := by decide +kernel
theorem dX11_stepFrom_31 : decode cX11_stepFrom 31 = .ok (.istore_n 2, 1) := by decide +kernel
theorem dX11_stepFrom_32 : decode cX11_stepFrom 32 = .ok (.iload_n 0, 1) := by decide +kernel
theorem dX11_stepFrom_33 : decode cX11_stepFrom 33 = .ok (.bipush 12, 2) := by decide +kernel
theorem dX11_stepFrom_35 : decode cX11_stepFrom 35 = .ok (.idiv, 1) := by decide +kernel
theorem dX11_stepFrom_36 : decode cX11_stepFrom 36 = .ok (.iload_n 1, 1) := by decide +kernel
theorem dX11_stepFrom_37 : decode cX11_stepFrom 37 = .ok (.ifCond .ne 7, 3) := by decide +kernel
theorem dX11_stepFrom_40 : decode cX11_stepFrom 40 = .ok (.iconst (-1), 1) := by decide +kernel
theorem dX11_stepFrom_41 : decode cX11_stepFrom 41 = .ok (.goto 13, 3) := by decide +kernel
theorem dX11_stepFrom_44 : decode cX11_stepFrom 44 = .ok (.iload_n 1, 1) := by decide +kernel
theorem dX11_stepFrom_45 : decode cX11_stepFrom 45 = .ok (.iconst 2, 1) := by decide +kernel
theorem dX11_stepFrom_46 : decode cX11_stepFrom 46 = .ok (.if_icmp .ne 7, 3) := by decide +kernel
theorem dX11_stepFrom_49 : decode cX11_stepFrom 49 = .ok (.iconst 1, 1) := by decide +kernel
theorem dX11_stepFrom_50 : decode cX11_stepFrom 50 = .ok (.goto 4, 3) := by decide +kernel
theorem dX11_stepFrom_53 : decode cX11_stepFrom 53 = .ok (.iconst 0, 1) := by decide +kernel
theorem dX11_stepFrom_54 : decode cX11_stepFrom 54 = .ok (.iadd, 1) := by decide +kernel
theorem dX11_stepFrom_55 : decode cX11_stepFrom 55 = .ok (.istore_n 3, 1) := by decide +kernel
theorem dX11_stepFrom_56 : decode cX11_stepFrom 56 = .ok (.iload_n 2, 1) := by decide +kernel
theorem dX11_stepFrom_57 : decode cX11_stepFrom 57 = .ok (.i2l, 1) := by decide +kernel
theorem dX11_stepFrom_58 : decode cX11_stepFrom 58 = .ok (.lconst 0, 1) := by decide +kernel
theorem dX11_stepFrom_59 : decode cX11_stepFrom 59 = .ok (.ldc2_w 87, 3) := by decide +kernel
theorem dX11_stepFrom_62 : decode cX11_stepFrom 62 = .ok (.invokestatic 78, 3) := by decide +kernel
theorem dX11_stepFrom_65 : decode cX11_stepFrom 65 = .ok (.ifCond .eq 24, 3) := by decide +kernel
theorem dX11_stepFrom_68 : decode cX11_stepFrom 68 = .ok (.iload_n 3, 1) := by decide +kernel
theorem dX11_stepFrom_69 : decode cX11_stepFrom 69 = .ok (.i2l, 1) := by decide +kernel
theorem dX11_stepFrom_70 : decode cX11_stepFrom 70 = .ok (.lconst 0, 1) := by decide +kernel
theorem dX11_stepFrom_71 : decode cX11_stepFrom 71 = .ok (.ldc2_w 87, 3) := by decide +kernel
theorem dX11_stepFrom_74 : decode cX11_stepFrom 74 = .ok (.invokestatic 78, 3) := by decide +kernel
theorem dX11_stepFrom_77 : decode cX11_stepFrom 77 = .ok (.ifCond .eq 12, 3) := by decide +kernel
theorem dX11_stepFrom_80 : decode cX11_stepFrom 80 = .ok (.bipush 12, 2) := by decide +kernel
theorem dX11_stepFrom_82 : decode cX11_stepFrom 82 = .ok (.iload_n 3, 1) := by decide +kernel
theorem dX11_stepFrom_83 : decode cX11_stepFrom 83 = .ok (.imul, 1) := by decide +kernel
theorem dX11_stepFrom_84 : decode cX11_stepFrom 84 = .ok (.iload_n 2, 1) := by decide +kernel
theorem dX11_stepFrom_85 : decode cX11_stepFrom 85 = .ok (.iadd, 1) := by decide +kernel
theorem dX11_stepFrom_86 : decode cX11_stepFrom 86 = .ok (.goto 4, 3) := by decide +kernel
theorem dX11_stepFrom_89 : decode cX11_stepFrom 89 = .ok (.iconst (-1), 1) := by decide +kernel
theorem dX11_stepFrom_90 : decode cX11_stepFrom 90 = .ok (.ireturn, 1) := by decide +kernel
theorem dX11_step_0 : decode cX11_step 0 = .ok (.aload_n 0, 1) := by decide +kernel
theorem dX11_step_1 : decode cX11_step 1 = .ok (.iload_n 1, 1) := by decide +kernel
theorem dX11_step_2 : decode cX11_step 2 = .ok (.i2l, 1) := by decide +kernel
theorem dX11_step_3 : decode cX11_step 3 = .ok (.invokevirtual 116, 3) := by decide +kernel
theorem dX11_step_6 : decode cX11_step 6 = .ok (.ifCond .eq 13, 3) := by decide +kernel
theorem dX11_step_9 : decode cX11_step 9 = .ok (.iload_n 2, 1) := by decide +kernel
theorem dX11_step_10 : decode cX11_step 10 = .ok (.i2l, 1) := by decide +kernel
theorem dX11_step_11 : decode cX11_step 11 = .ok (.lconst 0, 1) := by decide +kernel
theorem dX11_step_12 : decode cX11_step 12 = .ok (.lconst 1, 1) := by decide +kernel
theorem dX11_step_13 : decode cX11_step 13 = .ok (.invokestatic 78, 3) := by decide +kernel
theorem dX11_step_16 : decode cX11_step 16 = .ok (.ifCond .ne 5, 3) := by decide +kernel
theorem dX11_step_19 : decode cX11_step 19 = .ok (.iconst (-1), 1) := by decide +kernel
theorem dX11_step_20 : decode cX11_step 20 = .ok (.ireturn, 1) := by decide +kernel
theorem dX11_step_21 : decode cX11_step 21 = .ok (.aload_n 0, 1) := by decide +kernel
theorem dX11_step_22 : decode cX11_step 22 = .ok (.getfield 9, 3) := by decide +kernel
theorem dX11_step_25 : decode cX11_step 25 = .ok (.iload_n 1, 1) := by decide +kernel
theorem dX11_step_26 : decode cX11_step 26 = .ok (.iaload, 1) := by decide +kernel
theorem dX11_step_27 : decode cX11_step 27 = .ok (.istore_n 3, 1) := by decide +kernel
theorem dX11_step_28 : decode cX11_step 28 = .ok (.iconst 4, 1) := by decide +kernel
theorem dX11_step_29 : decode cX11_step 29 = .ok (.istore 4, 2) := by decide +kernel
theorem dX11_step_31 : decode cX11_step 31 = .ok (.aload_n 0, 1) := by decide +kernel
theorem dX11_step_32 : decode cX11_step 32 = .ok (.aload_n 0, 1) := by decide +kernel
theorem dX11_step_33 : decode cX11_step 33 = .ok (.invokevirtual 207, 3) := by decide +kernel
theorem dX11_step_36 : decode cX11_step 36 = .ok (.invokevirtual 223, 3) := by decide +kernel
theorem dX11_step_39 : decode cX11_step 39 = .ok (.istore 5, 2) := by decide +kernel
theorem dX11_step_41 : decode cX11_step 41 = .ok (.iconst 0, 1) := by decide +kernel
theorem dX11_step_42 : decode cX11_step 42 = .ok (.istore 6, 2) := by decide +kernel
theorem dX11_step_44 : decode cX11_step 44 = .ok (.iload 6, 2) := by decide +kernel
theorem dX11_step_46 : decode cX11_step 46 = .ok (.iconst 4, 1) := by decide +kernel
theorem dX11_step_47 : decode cX11_step 47 = .ok (.if_icmp .ge 72, 3) := by decide +kernel
theorem dX11_step_50 : decode cX11_step 50 = .ok (.iload_n 3, 1) := by decide +kernel
theorem dX11_step_51 : decode cX11_step 51 = .ok (.iload 6, 2) := by decide +kernel
theorem dX11_step_53 : decode cX11_step 53 = .ok (.invokestatic 242, 3) := by decide +kernel
theorem dX11_step_56 : decode cX11_step 56 = .ok (.istore 7, 2) := by decide +kernel
theorem dX11_step_58 : decode cX11_step 58 = .ok (.iload 7, 2) := by decide +kernel
theorem dX11_step_60 : decode cX11_step 60 = .ok (.ifCond .lt 53, 3) := by decide +kernel
theorem dX11_step_63 : decode cX11_step 63 = .ok (.aload_n 0, 1) := by decide +kernel
theorem dX11_step_64 : decode cX11_step 64 = .ok (.getfield 9, 3) := by decide +kernel
theorem dX11_step_67 : decode cX11_step 67 = .ok (.iload_n 1, 1) := by decide +kernel
theorem dX11_step_68 : decode cX11_step 68 = .ok (.iload 7, 2) := by decide +kernel
theorem dX11_step_70 : decode cX11_step 70 = .ok (.iastore, 1) := by decide +kernel
theorem dX11_step_71 : decode cX11_step 71 = .ok (.aload_n 0, 1) := by decide +kernel
theorem dX11_step_72 : decode cX11_step 72 = .ok (.aload_n 0, 1) := by decide +kernel
theorem dX11_step_73 : decode cX11_step 73 = .ok (.invokevirtual 207, 3) := by decide +kernel
theorem dX11_step_76 : decode cX11_step 76 = .ok (.invokevirtual 223, 3) := by decide +kernel
theorem dX11_step_79 : decode cX11_step 79 = .ok (.istore 8, 2) := by decide +kernel
theorem dX11_step_81 : decode cX11_step 81 = .ok (.iload 8, 2) := by decide +kernel
theorem dX11_step_83 : decode cX11_step 83 = .ok (.iload 5, 2) := by decide +kernel
theorem dX11_step_85 : decode cX11_step 85 = .ok (.if_icmp .ge 8, 3) := by decide +kernel
theorem dX11_step_88 : decode cX11_step 88 = .ok (.iload 6, 2) := by decide +kernel
theorem dX11_step_90 : decode cX11_step 90 = .ok (.goto 5, 3) := by decide +kernel
theorem dX11_step_93 : decode cX11_step 93 = .ok (.iload 4, 2) := by decide +kernel
theorem dX11_step_95 : decode cX11_step 95 = .ok (.istore 4, 2) := by decide +kernel
theorem dX11_step_97 : decode cX11_step 97 = .ok (.iload 8, 2) := by decide +kernel
theorem dX11_step_99 : decode cX11_step 99 = .ok (.iload 5, 2) := by decide +kernel
theorem dX11_step_101 : decode cX11_step 101 = .ok (.if_icmp .ge 8, 3) := by decide +kernel
theorem dX11_step_104 : decode cX11_step 104 = .ok (.iload 8, 2) := by decide +kernel
theorem dX11_step_106 : decode cX11_step 106 = .ok (.goto 5, 3) := by decide +kernel
theorem dX11_step_109 : decode cX11_step 109 = .ok (.iload 5, 2) := by decide +kernel
theorem dX11_step_111 : decode cX11_step 111 = .ok (.istore 5, 2) := by decide +kernel
theorem dX11_step_113 : decode cX11_step 113 = .ok (.iinc 6 1, 3) := by decide +kernel
theorem dX11_step_116 : decode cX11_step 116 = .ok (.goto (-72), 3) := by decide +kernel
theorem dX11_step_119 : decode cX11_step 119 = .ok (.aload_n 0, 1) := by decide +kernel
theorem dX11_step_120 : decode cX11_step 120 = .ok (.getfield 9, 3) := by decide +kernel
theorem dX11_step_123 : decode cX11_step 123 = .ok (.iload_n 1, 1) := by decide +kernel
theorem dX11_step_124 : decode cX11_step 124 = .ok (.iload_n 3, 1) := by decide +kernel
theorem dX11_step_125 : decode cX11_step 125 = .ok (.iastore, 1) := by decide +kernel
theorem dX11_step_126 : decode cX11_step 126 = .ok (.iload_n 2, 1) := by decide +kernel
theorem dX11_step_127 : decode cX11_step 127 = .ok (.ifCond .ne 8, 3) := by decide +kernel
theorem dX11_step_130 : decode cX11_step 130 = .ok (.iload 4, 2) := by decide +kernel
theorem dX11_step_132 : decode cX11_step 132 = .ok (.goto 5, 3) := by decide +kernel
theorem dX11_step_135 : decode cX11_step 135 = .ok (.iload 5, 2) := by decide +kernel
theorem dX11_step_137 : decode cX11_step 137 = .ok (.ireturn, 1) := by decide +kernel
theorem dX11_rowIs_0 : decode cX11_rowIs 0 = .ok (.iload_n 1, 1) := by decide +kernel
theorem dX11_rowIs_1 : decode cX11_rowIs 1 = .ok (.invokestatic 108, 3) := by decide +kernel
theorem dX11_rowIs_4 : decode cX11_rowIs 4 = .ok (.ifCond .ne 7, 3) := by decide +kernel
theorem dX11_rowIs_7 : decode cX11_rowIs 7 = .ok (.iconst (-1), 1) := by decide +kernel
theorem dX11_rowIs_8 : decode cX11_rowIs 8 = .ok (.goto 36, 3) := by decide +kernel
theorem dX11_rowIs_11 : decode cX11_rowIs 11 = .ok (.aload_n 0, 1) := by decide +kernel
theorem dX11_rowIs_12 : decode cX11_rowIs 12 = .ok (.getfield 52, 3) := by decide +kernel
theorem dX11_rowIs_15 : decode cX11_rowIs 15 = .ok (.iload_n 1, 1) := by decide +kernel
theorem dX11_rowIs_16 : decode cX11_rowIs 16 = .ok (.iaload, 1) := by decide +kernel
theorem dX11_rowIs_17 : decode cX11_rowIs 17 = .ok (.ifCond .ge 8, 3) := by decide +kernel
theorem dX11_rowIs_20 : decode cX11_rowIs 20 = .ok (.bipush (-11), 2) := by decide +kernel
theorem dX11_rowIs_22 : decode cX11_rowIs 22 = .ok (.goto 22, 3) := by decide +kernel
theorem dX11_rowIs_25 : decode cX11_rowIs 25 = .ok (.aload_n 0, 1) := by decide +kernel
theorem dX11_rowIs_26 : decode cX11_rowIs 26 = .ok (.getfield 52, 3) := by decide +kernel
