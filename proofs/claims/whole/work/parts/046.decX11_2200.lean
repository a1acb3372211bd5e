theorem dX11_rowIs_29 : decode cX11_rowIs 29 = .ok (.iload_n 1, 1) := by decide +kernel
theorem dX11_rowIs_30 : decode cX11_rowIs 30 = .ok (.iaload, 1) := by decide +kernel
theorem dX11_rowIs_31 : decode cX11_rowIs 31 = .ok (.bipush 50, 2) := by decide +kernel
theorem dX11_rowIs_33 : decode cX11_rowIs 33 = .ok (.iload_n 2, 1) := by decide +kernel
theorem dX11_rowIs_34 : decode cX11_rowIs 34 = .ok (.iadd, 1) := by decide +kernel
theorem dX11_rowIs_35 : decode cX11_rowIs 35 = .ok (.if_icmp .ne 7, 3) := by decide +kernel
theorem dX11_rowIs_38 : decode cX11_rowIs 38 = .ok (.iconst 1, 1) := by decide +kernel
theorem dX11_rowIs_39 : decode cX11_rowIs 39 = .ok (.goto 5, 3) := by decide +kernel
theorem dX11_rowIs_42 : decode cX11_rowIs 42 = .ok (.bipush (-12), 2) := by decide +kernel
theorem dX11_rowIs_44 : decode cX11_rowIs 44 = .ok (.ireturn, 1) := by decide +kernel
theorem dX11_firstFalse_0 : decode cX11_firstFalse 0 = .ok (.iconst 0, 1) := by decide +kernel
theorem dX11_firstFalse_1 : decode cX11_firstFalse 1 = .ok (.istore 4, 2) := by decide +kernel
theorem dX11_firstFalse_3 : decode cX11_firstFalse 3 = .ok (.iconst 3, 1) := by decide +kernel
theorem dX11_firstFalse_4 : decode cX11_firstFalse 4 = .ok (.iload 4, 2) := by decide +kernel
theorem dX11_firstFalse_6 : decode cX11_firstFalse 6 = .ok (.imul, 1) := by decide +kernel
theorem dX11_firstFalse_7 : decode cX11_firstFalse 7 = .ok (.aload_n 0, 1) := by decide +kernel
theorem dX11_firstFalse_8 : decode cX11_firstFalse 8 = .ok (.getfield 55, 3) := by decide +kernel
theorem dX11_firstFalse_11 : decode cX11_firstFalse 11 = .ok (.iload_n 1, 1) := by decide +kernel
theorem dX11_firstFalse_12 : decode cX11_firstFalse 12 = .ok (.iaload, 1) := by decide +kernel
theorem dX11_firstFalse_13 : decode cX11_firstFalse 13 = .ok (.if_icmp .ge 119, 3) := by decide +kernel
theorem dX11_firstFalse_16 : decode cX11_firstFalse 16 = .ok (.bipush 60, 2) := by decide +kernel
theorem dX11_firstFalse_18 : decode cX11_firstFalse 18 = .ok (.iload_n 1, 1) := by decide +kernel
theorem dX11_firstFalse_19 : decode cX11_firstFalse 19 = .ok (.imul, 1) := by decide +kernel
theorem dX11_firstFalse_20 : decode cX11_firstFalse 20 = .ok (.iconst 3, 1) := by decide +kernel
theorem dX11_firstFalse_21 : decode cX11_firstFalse 21 = .ok (.iload 4, 2) := by decide +kernel
theorem dX11_firstFalse_23 : decode cX11_firstFalse 23 = .ok (.imul, 1) := by decide +kernel
theorem dX11_firstFalse_24 : decode cX11_firstFalse 24 = .ok (.iadd, 1) := by decide +kernel
theorem dX11_firstFalse_25 : decode cX11_firstFalse 25 = .ok (.istore 5, 2) := by decide +kernel
theorem dX11_firstFalse_27 : decode cX11_firstFalse 27 = .ok (.iconst 3, 1) := by decide +kernel
theorem dX11_firstFalse_28 : decode cX11_firstFalse 28 = .ok (.iload 4, 2) := by decide +kernel
theorem dX11_firstFalse_30 : decode cX11_firstFalse 30 = .ok (.imul, 1) := by decide +kernel
theorem dX11_firstFalse_31 : decode cX11_firstFalse 31 = .ok (.iconst 2, 1) := by decide +kernel
theorem dX11_firstFalse_32 : decode cX11_firstFalse 32 = .ok (.iadd, 1) := by decide +kernel
theorem dX11_firstFalse_33 : decode cX11_firstFalse 33 = .ok (.aload_n 0, 1) := by decide +kernel
theorem dX11_firstFalse_34 : decode cX11_firstFalse 34 = .ok (.getfield 55, 3) := by decide +kernel
theorem dX11_firstFalse_37 : decode cX11_firstFalse 37 = .ok (.iload_n 1, 1) := by decide +kernel
theorem dX11_firstFalse_38 : decode cX11_firstFalse 38 = .ok (.iaload, 1) := by decide +kernel
theorem dX11_firstFalse_39 : decode cX11_firstFalse 39 = .ok (.if_icmp .ge 39, 3) := by decide +kernel
theorem dX11_firstFalse_42 : decode cX11_firstFalse 42 = .ok (.aload_n 0, 1) := by decide +kernel
theorem dX11_firstFalse_43 : decode cX11_firstFalse 43 = .ok (.getfield 58, 3) := by decide +kernel
theorem dX11_firstFalse_46 : decode cX11_firstFalse 46 = .ok (.iload 5, 2) := by decide +kernel
theorem dX11_firstFalse_48 : decode cX11_firstFalse 48 = .ok (.laload, 1) := by decide +kernel
theorem dX11_firstFalse_49 : decode cX11_firstFalse 49 = .ok (.lconst 0, 1) := by decide +kernel
theorem dX11_firstFalse_50 : decode cX11_firstFalse 50 = .ok (.ldc2_w 87, 3) := by decide +kernel
theorem dX11_firstFalse_53 : decode cX11_firstFalse 53 = .ok (.invokestatic 78, 3) := by decide +kernel
theorem dX11_firstFalse_56 : decode cX11_firstFalse 56 = .ok (.ifCond .eq 22, 3) := by decide +kernel
theorem dX11_firstFalse_59 : decode cX11_firstFalse 59 = .ok (.aload_n 0, 1) := by decide +kernel
theorem dX11_firstFalse_60 : decode cX11_firstFalse 60 = .ok (.getfield 58, 3) := by decide +kernel
theorem dX11_firstFalse_63 : decode cX11_firstFalse 63 = .ok (.iload 5, 2) := by decide +kernel
theorem dX11_firstFalse_65 : decode cX11_firstFalse 65 = .ok (.iconst 1, 1) := by decide +kernel
theorem dX11_firstFalse_66 : decode cX11_firstFalse 66 = .ok (.iadd, 1) := by decide +kernel
theorem dX11_firstFalse_67 : decode cX11_firstFalse 67 = .ok (.laload, 1) := by decide +kernel
theorem dX11_firstFalse_68 : decode cX11_firstFalse 68 = .ok (.lconst 0, 1) := by decide +kernel
theorem dX11_firstFalse_69 : decode cX11_firstFalse 69 = .ok (.ldc2_w 87, 3) := by decide +kernel
theorem dX11_firstFalse_72 : decode cX11_firstFalse 72 = .ok (.invokestatic 78, 3) := by decide +kernel
theorem dX11_firstFalse_75 : decode cX11_firstFalse 75 = .ok (.ifCond .ne 6, 3) := by decide +kernel
theorem dX11_firstFalse_78 : decode cX11_firstFalse 78 = .ok (.iload 4, 2) := by decide +kernel
theorem dX11_firstFalse_80 : decode cX11_firstFalse 80 = .ok (.ireturn, 1) := by decide +kernel
theorem dX11_firstFalse_81 : decode cX11_firstFalse 81 = .ok (.aload_n 0, 1) := by decide +kernel
theorem dX11_firstFalse_82 : decode cX11_firstFalse 82 = .ok (.iload_n 3, 1) := by decide +kernel
theorem dX11_firstFalse_83 : decode cX11_firstFalse 83 = .ok (.ldc2_w 97, 3) := by decide +kernel
theorem dX11_firstFalse_86 : decode cX11_firstFalse 86 = .ok (.aload_n 0, 1) := by decide +kernel
theorem dX11_firstFalse_87 : decode cX11_firstFalse 87 = .ok (.getfield 58, 3) := by decide +kernel
theorem dX11_firstFalse_90 : decode cX11_firstFalse 90 = .ok (.iload 5, 2) := by decide +kernel
theorem dX11_firstFalse_92 : decode cX11_firstFalse 92 = .ok (.iconst 1, 1) := by decide +kernel
theorem dX11_firstFalse_93 : decode cX11_firstFalse 93 = .ok (.iadd, 1) := by decide +kernel
theorem dX11_firstFalse_94 : decode cX11_firstFalse 94 = .ok (.laload, 1) := by decide +kernel
theorem dX11_firstFalse_95 : decode cX11_firstFalse 95 = .ok (.lmul, 1) := by decide +kernel
theorem dX11_firstFalse_96 : decode cX11_firstFalse 96 = .ok (.aload_n 0, 1) := by decide +kernel
theorem dX11_firstFalse_97 : decode cX11_firstFalse 97 = .ok (.getfield 58, 3) := by decide +kernel
theorem dX11_firstFalse_100 : decode cX11_firstFalse 100 = .ok (.iload 5, 2) := by decide +kernel
theorem dX11_firstFalse_102 : decode cX11_firstFalse 102 = .ok (.laload, 1) := by decide +kernel
theorem dX11_firstFalse_103 : decode cX11_firstFalse 103 = .ok (.ladd, 1) := by decide +kernel
theorem dX11_firstFalse_104 : decode cX11_firstFalse 104 = .ok (.l2i, 1) := by decide +kernel
theorem dX11_firstFalse_105 : decode cX11_firstFalse 105 = .ok (.iload_n 2, 1) := by decide +kernel
theorem dX11_firstFalse_106 : decode cX11_firstFalse 106 = .ok (.invokevirtual 210, 3) := by decide +kernel
theorem dX11_firstFalse_109 : decode cX11_firstFalse 109 = .ok (.i2l, 1) := by decide +kernel
theorem dX11_firstFalse_110 : decode cX11_firstFalse 110 = .ok (.aload_n 0, 1) := by decide +kernel
theorem dX11_firstFalse_111 : decode cX11_firstFalse 111 = .ok (.getfield 58, 3) := by decide +kernel
theorem dX11_firstFalse_114 : decode cX11_firstFalse 114 = .ok (.iload 5, 2) := by decide +kernel
theorem dX11_firstFalse_116 : decode cX11_firstFalse 116 = .ok (.iconst 2, 1) := by decide +kernel
theorem dX11_firstFalse_117 : decode cX11_firstFalse 117 = .ok (.iadd, 1) := by decide +kernel
theorem dX11_firstFalse_118 : decode cX11_firstFalse 118 = .ok (.laload, 1) := by decide +kernel
theorem dX11_firstFalse_119 : decode cX11_firstFalse 119 = .ok (.lcmp, 1) := by decide +kernel
theorem dX11_firstFalse_120 : decode cX11_firstFalse 120 = .ok (.ifCond .eq 6, 3) := by decide +kernel
theorem dX11_firstFalse_123 : decode cX11_firstFalse 123 = .ok (.iload 4, 2) := by decide +kernel
theorem dX11_firstFalse_125 : decode cX11_firstFalse 125 = .ok (.ireturn, 1) := by decide +kernel
theorem dX11_firstFalse_126 : decode cX11_firstFalse 126 = .ok (.iinc 4 1, 3) := by decide +kernel
theorem dX11_firstFalse_129 : decode cX11_firstFalse 129 = .ok (.goto (-126), 3) := by decide +kernel
theorem dX11_firstFalse_132 : decode cX11_firstFalse 132 = .ok (.bipush (-2), 2) := by decide +kernel
theorem dX11_firstFalse_134 : decode cX11_firstFalse 134 = .ok (.ireturn, 1) := by decide +kernel
theorem dX11_judge_0 : decode cX11_judge 0 = .ok (.aload_n 0, 1) := by decide +kernel
theorem dX11_judge_1 : decode cX11_judge 1 = .ok (.iload_n 1, 1) := by decide +kernel
theorem dX11_judge_2 : decode cX11_judge 2 = .ok (.iconst 0, 1) := by decide +kernel
theorem dX11_judge_3 : decode cX11_judge 3 = .ok (.invokevirtual 245, 3) := by decide +kernel
theorem dX11_judge_6 : decode cX11_judge 6 = .ok (.iconst (-1), 1) := by decide +kernel
theorem dX11_judge_7 : decode cX11_judge 7 = .ok (.if_icmp .eq 11, 3) := by decide +kernel
theorem dX11_judge_10 : decode cX11_judge 10 = .ok (.iload_n 2, 1) := by decide +kernel
theorem dX11_judge_11 : decode cX11_judge 11 = .ok (.i2l, 1) := by decide +kernel
theorem dX11_judge_12 : decode cX11_judge 12 = .ok (.invokestatic 204, 3) := by decide +kernel
theorem dX11_judge_15 : decode cX11_judge 15 = .ok (.ifCond .ne 7, 3) := by decide +kernel
theorem dX11_judge_18 : decode cX11_judge 18 = .ok (.iconst (-1), 1) := by decide +kernel
theorem dX11_judge_19 : decode cX11_judge 19 = .ok (.goto 31, 3) := by decide +kernel
theorem dX11_judge_22 : decode cX11_judge 22 = .ok (.aload_n 0, 1) := by decide +kernel
theorem dX11_judge_23 : decode cX11_judge 23 = .ok (.iload_n 1, 1) := by decide +kernel
theorem dX11_judge_24 : decode cX11_judge 24 = .ok (.iconst 0, 1) := by decide +kernel
theorem dX11_judge_25 : decode cX11_judge 25 = .ok (.invokevirtual 245, 3) := by decide +kernel
theorem dX11_judge_28 : decode cX11_judge 28 = .ok (.ifCond .ge 12, 3) := by decide +kernel
theorem dX11_judge_31 : decode cX11_judge 31 = .ok (.aload_n 0, 1) := by decide +kernel
theorem dX11_judge_32 : decode cX11_judge 32 = .ok (.iload_n 1, 1) := by decide +kernel
theorem dX11_judge_33 : decode cX11_judge 33 = .ok (.iconst 0, 1) := by decide +kernel
theorem dX11_judge_34 : decode cX11_judge 34 = .ok (.invokevirtual 245, 3) := by decide +kernel
theorem dX11_judge_37 : decode cX11_judge 37 = .ok (.goto 13, 3) := by decide +kernel
theorem dX11_judge_40 : decode cX11_judge 40 = .ok (.aload_n 0, 1) := by decide +kernel
theorem dX11_judge_41 : decode cX11_judge 41 = .ok (.iload_n 1, 1) := by decide +kernel
theorem dX11_judge_42 : decode cX11_judge 42 = .ok (.iload_n 2, 1) := by decide +kernel
theorem dX11_judge_43 : decode cX11_judge 43 = .ok (.aload_n 0, 1) := by decide +kernel
theorem dX11_judge_44 : decode cX11_judge 44 = .ok (.invokevirtual 207, 3) := by decide +kernel
theorem dX11_judge_47 : decode cX11_judge 47 = .ok (.invokevirtual 248, 3) := by decide +kernel
theorem dX11_judge_50 : decode cX11_judge 50 = .ok (.ireturn, 1) := by decide +kernel
theorem dX11_stood_0 : decode cX11_stood 0 = .ok (.aload_n 0, 1) := by decide +kernel
theorem dX11_stood_1 : decode cX11_stood 1 = .ok (.iload_n 1, 1) := by decide +kernel
theorem dX11_stood_2 : decode cX11_stood 2 = .ok (.iconst 0, 1) := by decide +kernel
theorem dX11_stood_3 : decode cX11_stood 3 = .ok (.invokevirtual 245, 3) := by decide +kernel
theorem dX11_stood_6 : decode cX11_stood 6 = .ok (.iconst (-1), 1) := by decide +kernel
theorem dX11_stood_7 : decode cX11_stood 7 = .ok (.if_icmp .eq 42, 3) := by decide +kernel
theorem dX11_stood_10 : decode cX11_stood 10 = .ok (.iload_n 2, 1) := by decide +kernel
theorem dX11_stood_11 : decode cX11_stood 11 = .ok (.ifCond .lt 38, 3) := by decide +kernel
theorem dX11_stood_14 : decode cX11_stood 14 = .ok (.aload_n 0, 1) := by decide +kernel
theorem dX11_stood_15 : decode cX11_stood 15 = .ok (.iload_n 2, 1) := by decide +kernel
theorem dX11_stood_16 : decode cX11_stood 16 = .ok (.bipush 100, 2) := by decide +kernel
theorem dX11_stood_18 : decode cX11_stood 18 = .ok (.idiv, 1) := by decide +kernel
theorem dX11_stood_19 : decode cX11_stood 19 = .ok (.i2l, 1) := by decide +kernel
theorem dX11_stood_20 : decode cX11_stood 20 = .ok (.invokevirtual 116, 3) := by decide +kernel
theorem dX11_stood_23 : decode cX11_stood 23 = .ok (.ifCond .eq 26, 3) := by decide +kernel
theorem dX11_stood_26 : decode cX11_stood 26 = .ok (.iload_n 2, 1) := by decide +kernel
theorem dX11_stood_27 : decode cX11_stood 27 = .ok (.bipush 100, 2) := by decide +kernel
theorem dX11_stood_29 : decode cX11_stood 29 = .ok (.irem, 1) := by decide +kernel
theorem dX11_stood_30 : decode cX11_stood 30 = .ok (.i2l, 1) := by decide +kernel
theorem dX11_stood_31 : decode cX11_stood 31 = .ok (.invokestatic 204, 3) := by decide +kernel
theorem dX11_stood_34 : decode cX11_stood 34 = .ok (.ifCond .eq 15, 3) := by decide +kernel
theorem dX11_stood_37 : decode cX11_stood 37 = .ok (.iload_n 3, 1) := by decide +kernel
theorem dX11_stood_38 : decode cX11_stood 38 = .ok (.i2l, 1) := by decide +kernel
theorem dX11_stood_39 : decode cX11_stood 39 = .ok (.lconst 0, 1) := by decide +kernel
theorem dX11_stood_40 : decode cX11_stood 40 = .ok (.ldc2_w 93, 3) := by decide +kernel
theorem dX11_stood_43 : decode cX11_stood 43 = .ok (.invokestatic 78, 3) := by decide +kernel
theorem dX11_stood_46 : decode cX11_stood 46 = .ok (.ifCond .ne 5, 3) := by decide +kernel
theorem dX11_stood_49 : decode cX11_stood 49 = .ok (.iconst (-1), 1) := by decide +kernel
theorem dX11_stood_50 : decode cX11_stood 50 = .ok (.ireturn, 1) := by decide +kernel
theorem dX11_stood_51 : decode cX11_stood 51 = .ok (.aload_n 0, 1) := by decide +kernel
theorem dX11_stood_52 : decode cX11_stood 52 = .ok (.iload_n 1, 1) := by decide +kernel
theorem dX11_stood_53 : decode cX11_stood 53 = .ok (.iconst 0, 1) := by decide +kernel
theorem dX11_stood_54 : decode cX11_stood 54 = .ok (.invokevirtual 245, 3) := by decide +kernel
theorem dX11_stood_57 : decode cX11_stood 57 = .ok (.ifCond .ge 10, 3) := by decide +kernel
theorem dX11_stood_60 : decode cX11_stood 60 = .ok (.aload_n 0, 1) := by decide +kernel
theorem dX11_stood_61 : decode cX11_stood 61 = .ok (.iload_n 1, 1) := by decide +kernel
theorem dX11_stood_62 : decode cX11_stood 62 = .ok (.iconst 0, 1) := by decide +kernel
theorem dX11_stood_63 : decode cX11_stood 63 = .ok (.invokevirtual 245, 3) := by decide +kernel
theorem dX11_stood_66 : decode cX11_stood 66 = .ok (.ireturn, 1) := by decide +kernel
theorem dX11_stood_67 : decode cX11_stood 67 = .ok (.iload_n 3, 1) := by decide +kernel
theorem dX11_stood_68 : decode cX11_stood 68 = .ok (.iconst 2, 1) := by decide +kernel
theorem dX11_stood_69 : decode cX11_stood 69 = .ok (.if_icmp .ne 13, 3) := by decide +kernel
theorem dX11_stood_72 : decode cX11_stood 72 = .ok (.bipush 8, 2) := by decide +kernel
theorem dX11_stood_74 : decode cX11_stood 74 = .ok (.iload_n 2, 1) := by decide +kernel
theorem dX11_stood_75 : decode cX11_stood 75 = .ok (.bipush 100, 2) := by decide +kernel
theorem dX11_stood_77 : decode cX11_stood 77 = .ok (.idiv, 1) := by decide +kernel
theorem dX11_stood_78 : decode cX11_stood 78 = .ok (.iadd, 1) := by decide +kernel
theorem dX11_stood_79 : decode cX11_stood 79 = .ok (.goto 7, 3) := by decide +kernel
theorem dX11_stood_82 : decode cX11_stood 82 = .ok (.iload_n 2, 1) := by decide +kernel
theorem dX11_stood_83 : decode cX11_stood 83 = .ok (.bipush 100, 2) := by decide +kernel
theorem dX11_stood_85 : decode cX11_stood 85 = .ok (.idiv, 1) := by decide +kernel
theorem dX11_stood_86 : decode cX11_stood 86 = .ok (.istore 4, 2) := by decide +kernel
theorem dX11_stood_88 : decode cX11_stood 88 = .ok (.aload_n 0, 1) := by decide +kernel
theorem dX11_stood_89 : decode cX11_stood 89 = .ok (.getfield 9, 3) := by decide +kernel
theorem dX11_stood_92 : decode cX11_stood 92 = .ok (.iload 4, 2) := by decide +kernel
theorem dX11_stood_94 : decode cX11_stood 94 = .ok (.iaload, 1) := by decide +kernel
theorem dX11_stood_95 : decode cX11_stood 95 = .ok (.istore 5, 2) := by decide +kernel
theorem dX11_stood_97 : decode cX11_stood 97 = .ok (.iconst 0, 1) := by decide +kernel
theorem dX11_stood_98 : decode cX11_stood 98 = .ok (.istore 6, 2) := by decide +kernel
theorem dX11_stood_100 : decode cX11_stood 100 = .ok (.bipush (-2), 2) := by decide +kernel
theorem dX11_stood_102 : decode cX11_stood 102 = .ok (.istore 7, 2) := by decide +kernel
theorem dX11_stood_104 : decode cX11_stood 104 = .ok (.iconst 0, 1) := by decide +kernel
theorem dX11_stood_105 : decode cX11_stood 105 = .ok (.istore 8, 2) := by decide +kernel
theorem dX11_stood_107 : decode cX11_stood 107 = .ok (.iconst 0, 1) := by decide +kernel
theorem dX11_stood_108 : decode cX11_stood 108 = .ok (.istore 9, 2) := by decide +kernel
theorem dX11_stood_110 : decode cX11_stood 110 = .ok (.iload 9, 2) := by decide +kernel
theorem dX11_stood_112 : decode cX11_stood 112 = .ok (.iload_n 3, 1) := by decide +kernel
theorem dX11_stood_113 : decode cX11_stood 113 = .ok (.iconst 2, 1) := by decide +kernel
theorem dX11_stood_114 : decode cX11_stood 114 = .ok (.if_icmp .ne 7, 3) := by decide +kernel
theorem dX11_stood_117 : decode cX11_stood 117 = .ok (.iconst 3, 1) := by decide +kernel
theorem dX11_stood_118 : decode cX11_stood 118 = .ok (.goto 6, 3) := by decide +kernel
theorem dX11_stood_121 : decode cX11_stood 121 = .ok (.sipush 144, 3) := by decide +kernel
theorem dX11_stood_124 : decode cX11_stood 124 = .ok (.if_icmp .ge 71, 3) := by decide +kernel
theorem dX11_stood_127 : decode cX11_stood 127 = .ok (.aload_n 0, 1) := by decide +kernel
theorem dX11_stood_128 : decode cX11_stood 128 = .ok (.getfield 9, 3) := by decide +kernel
theorem dX11_stood_131 : decode cX11_stood 131 = .ok (.iload 4, 2) := by decide +kernel
theorem dX11_stood_133 : decode cX11_stood 133 = .ok (.iload 9, 2) := by decide +kernel
theorem dX11_stood_135 : decode cX11_stood 135 = .ok (.iastore, 1) := by decide +kernel
theorem dX11_stood_136 : decode cX11_stood 136 = .ok (.aload_n 0, 1) := by decide +kernel
theorem dX11_stood_137 : decode cX11_stood 137 = .ok (.iload_n 1, 1) := by decide +kernel
theorem dX11_stood_138 : decode cX11_stood 138 = .ok (.iload_n 2, 1) := by decide +kernel
theorem dX11_stood_139 : decode cX11_stood 139 = .ok (.bipush 100, 2) := by decide +kernel
theorem dX11_stood_141 : decode cX11_stood 141 = .ok (.irem, 1) := by decide +kernel
theorem dX11_stood_142 : decode cX11_stood 142 = .ok (.aload_n 0, 1) := by decide +kernel
theorem dX11_stood_143 : decode cX11_stood 143 = .ok (.invokevirtual 207, 3) := by decide +kernel
theorem dX11_stood_146 : decode cX11_stood 146 = .ok (.invokevirtual 248, 3) := by decide +kernel
theorem dX11_stood_149 : decode cX11_stood 149 = .ok (.bipush (-2), 2) := by decide +kernel
theorem dX11_stood_151 : decode cX11_stood 151 = .ok (.if_icmp .ne 38, 3) := by decide +kernel
theorem dX11_stood_154 : decode cX11_stood 154 = .ok (.iload 6, 2) := by decide +kernel
theorem dX11_stood_156 : decode cX11_stood 156 = .ok (.ifCond .ne 8, 3) := by decide +kernel
theorem dX11_stood_159 : decode cX11_stood 159 = .ok (.iload 9, 2) := by decide +kernel
theorem dX11_stood_161 : decode cX11_stood 161 = .ok (.goto 5, 3) := by decide +kernel
theorem dX11_stood_164 : decode cX11_stood 164 = .ok (.iload 7, 2) := by decide +kernel
theorem dX11_stood_166 : decode cX11_stood 166 = .ok (.istore 7, 2) := by decide +kernel
theorem dX11_stood_168 : decode cX11_stood 168 = .ok (.iload 8, 2) := by decide +kernel
theorem dX11_stood_170 : decode cX11_stood 170 = .ok (.iload_n 3, 1) := by decide +kernel
theorem dX11_stood_171 : decode cX11_stood 171 = .ok (.iconst 2, 1) := by decide +kernel
theorem dX11_stood_172 : decode cX11_stood 172 = .ok (.if_icmp .ne 10, 3) := by decide +kernel
theorem dX11_stood_175 : decode cX11_stood 175 = .ok (.iconst 1, 1) := by decide +kernel
theorem dX11_stood_176 : decode cX11_stood 176 = .ok (.iload 9, 2) := by decide +kernel
theorem dX11_stood_178 : decode cX11_stood 178 = .ok (.ishl, 1) := by decide +kernel
theorem dX11_stood_179 : decode cX11_stood 179 = .ok (.goto 4, 3) := by decide +kernel
theorem dX11_stood_182 : decode cX11_stood 182 = .ok (.iconst 0, 1) := by decide +kernel
theorem dX11_stood_183 : decode cX11_stood 183 = .ok (.ior, 1) := by decide +kernel
theorem dX11_stood_184 : decode cX11_stood 184 = .ok (.istore 8, 2) := by decide +kernel
theorem dX11_stood_186 : decode cX11_stood 186 = .ok (.iinc 6 1, 3) := by decide +kernel
theorem dX11_stood_189 : decode cX11_stood 189 = .ok (.iinc 9 1, 3) := by decide +kernel
theorem dX11_stood_192 : decode cX11_stood 192 = .ok (.goto (-82), 3) := by decide +kernel
theorem dX11_stood_195 : decode cX11_stood 195 = .ok (.aload_n 0, 1) := by decide +kernel
theorem dX11_stood_196 : decode cX11_stood 196 = .ok (.getfield 9, 3) := by decide +kernel
theorem dX11_stood_199 : decode cX11_stood 199 = .ok (.iload 4, 2) := by decide +kernel
theorem dX11_stood_201 : decode cX11_stood 201 = .ok (.iload 5, 2) := by decide +kernel
theorem dX11_stood_203 : decode cX11_stood 203 = .ok (.iastore, 1) := by decide +kernel
theorem dX11_stood_204 : decode cX11_stood 204 = .ok (.iload_n 3, 1) := by decide +kernel
theorem dX11_stood_205 : decode cX11_stood 205 = .ok (.ifCond .ne 8, 3) := by decide +kernel
theorem dX11_stood_208 : decode cX11_stood 208 = .ok (.iload 6, 2) := by decide +kernel
theorem dX11_stood_210 : decode cX11_stood 210 = .ok (.goto 15, 3) := by decide +kernel
theorem dX11_stood_213 : decode cX11_stood 213 = .ok (.iload_n 3, 1) := by decide +kernel
theorem dX11_stood_214 : decode cX11_stood 214 = .ok (.iconst 1, 1) := by decide +kernel
theorem dX11_stood_215 : decode cX11_stood 215 = .ok (.if_icmp .ne 8, 3) := by decide +kernel
theorem dX11_stood_218 : decode cX11_stood 218 = .ok (.iload 7, 2) := by decide +kernel
theorem dX11_stood_220 : decode cX11_stood 220 = .ok (.goto 5, 3) := by decide +kernel
theorem dX11_stood_223 : decode cX11_stood 223 = .ok (.iload 8, 2) := by decide +kernel
theorem dX11_stood_225 : decode cX11_stood 225 = .ok (.ireturn, 1) := by decide +kernel
theorem dX11_who_0 : decode cX11_who 0 = .ok (.aload_n 0, 1) := by decide +kernel
theorem dX11_who_1 : decode cX11_who 1 = .ok (.iload_n 1, 1) := by decide +kernel
theorem dX11_who_2 : decode cX11_who 2 = .ok (.iconst 0, 1) := by decide +kernel
theorem dX11_who_3 : decode cX11_who 3 = .ok (.invokevirtual 245, 3) := by decide +kernel
theorem dX11_who_6 : decode cX11_who 6 = .ok (.iconst (-1), 1) := by decide +kernel
theorem dX11_who_7 : decode cX11_who 7 = .ok (.if_icmp .eq 23, 3) := by decide +kernel
theorem dX11_who_10 : decode cX11_who 10 = .ok (.iload_n 2, 1) := by decide +kernel
theorem dX11_who_11 : decode cX11_who 11 = .ok (.i2l, 1) := by decide +kernel
theorem dX11_who_12 : decode cX11_who 12 = .ok (.invokestatic 204, 3) := by decide +kernel
theorem dX11_who_15 : decode cX11_who 15 = .ok (.ifCond .eq 15, 3) := by decide +kernel
theorem dX11_who_18 : decode cX11_who 18 = .ok (.iload_n 3, 1) := by decide +kernel
theorem dX11_who_19 : decode cX11_who 19 = .ok (.i2l, 1) := by decide +kernel
theorem dX11_who_20 : decode cX11_who 20 = .ok (.lconst 0, 1) := by decide +kernel
theorem dX11_who_21 : decode cX11_who 21 = .ok (.ldc2_w 93, 3) := by decide +kernel
theorem dX11_who_24 : decode cX11_who 24 = .ok (.invokestatic 78, 3) := by decide +kernel
theorem dX11_who_27 : decode cX11_who 27 = .ok (.ifCond .ne 5, 3) := by decide +kernel
theorem dX11_who_30 : decode cX11_who 30 = .ok (.iconst (-1), 1) := by decide +kernel
theorem dX11_who_31 : decode cX11_who 31 = .ok (.ireturn, 1) := by decide +kernel
theorem dX11_who_32 : decode cX11_who 32 = .ok (.aload_n 0, 1) := by decide +kernel
theorem dX11_who_33 : decode cX11_who 33 = .ok (.iload_n 1, 1) := by decide +kernel
theorem dX11_who_34 : decode cX11_who 34 = .ok (.iconst 0, 1) := by decide +kernel
theorem dX11_who_35 : decode cX11_who 35 = .ok (.invokevirtual 245, 3) := by decide +kernel
theorem dX11_who_38 : decode cX11_who 38 = .ok (.ifCond .ge 10, 3) := by decide +kernel
theorem dX11_who_41 : decode cX11_who 41 = .ok (.aload_n 0, 1) := by decide +kernel
theorem dX11_who_42 : decode cX11_who 42 = .ok (.iload_n 1, 1) := by decide +kernel
theorem dX11_who_43 : decode cX11_who 43 = .ok (.iconst 0, 1) := by decide +kernel
theorem dX11_who_44 : decode cX11_who 44 = .ok (.invokevirtual 245, 3) := by decide +kernel
theorem dX11_who_47 : decode cX11_who 47 = .ok (.ireturn, 1) := by decide +kernel
theorem dX11_who_48 : decode cX11_who 48 = .ok (.iconst 0, 1) := by decide +kernel
theorem dX11_who_49 : decode cX11_who 49 = .ok (.istore 4, 2) := by decide +kernel
theorem dX11_who_51 : decode cX11_who 51 = .ok (.bipush (-2), 2) := by decide +kernel
theorem dX11_who_53 : decode cX11_who 53 = .ok (.istore 5, 2) := by decide +kernel
theorem dX11_who_55 : decode cX11_who 55 = .ok (.aload_n 0, 1) := by decide +kernel
theorem dX11_who_56 : decode cX11_who 56 = .ok (.invokevirtual 207, 3) := by decide +kernel
theorem dX11_who_59 : decode cX11_who 59 = .ok (.istore 6, 2) := by decide +kernel
theorem dX11_who_61 : decode cX11_who 61 = .ok (.iconst 0, 1) := by decide +kernel
theorem dX11_who_62 : decode cX11_who 62 = .ok (.istore 7, 2) := by decide +kernel
theorem dX11_who_64 : decode cX11_who 64 = .ok (.iload 7, 2) := by decide +kernel
theorem dX11_who_66 : decode cX11_who 66 = .ok (.aload_n 0, 1) := by decide +kernel
theorem dX11_who_67 : decode cX11_who 67 = .ok (.invokevirtual 207, 3) := by decide +kernel
theorem dX11_who_70 : decode cX11_who 70 = .ok (.if_icmp .gt 46, 3) := by decide +kernel
theorem dX11_who_73 : decode cX11_who 73 = .ok (.aload_n 0, 1) := by decide +kernel
theorem dX11_who_74 : decode cX11_who 74 = .ok (.iload_n 1, 1) := by decide +kernel
theorem dX11_who_75 : decode cX11_who 75 = .ok (.iload_n 2, 1) := by decide +kernel
theorem dX11_who_76 : decode cX11_who 76 = .ok (.iload 7, 2) := by decide +kernel
theorem dX11_who_78 : decode cX11_who 78 = .ok (.invokevirtual 248, 3) := by decide +kernel
theorem dX11_who_81 : decode cX11_who 81 = .ok (.bipush (-2), 2) := by decide +kernel
theorem dX11_who_83 : decode cX11_who 83 = .ok (.if_icmp .ne 27, 3) := by decide +kernel
theorem dX11_who_86 : decode cX11_who 86 = .ok (.iload 4, 2) := by decide +kernel
theorem dX11_who_88 : decode cX11_who 88 = .ok (.ifCond .ne 8, 3) := by decide +kernel
theorem dX11_who_91 : decode cX11_who 91 = .ok (.iload 7, 2) := by decide +kernel
theorem dX11_who_93 : decode cX11_who 93 = .ok (.goto 5, 3) := by decide +kernel
theorem dX11_who_96 : decode cX11_who 96 = .ok (.iload 5, 2) := by decide +kernel
theorem dX11_who_98 : decode cX11_who 98 = .ok (.istore 5, 2) := by decide +kernel
theorem dX11_who_100 : decode cX11_who 100 = .ok (.iload 6, 2) := by decide +kernel
theorem dX11_who_102 : decode cX11_who 102 = .ok (.iload 7, 2) := by decide +kernel
theorem dX11_who_104 : decode cX11_who 104 = .ok (.iand, 1) := by decide +kernel
theorem dX11_who_105 : decode cX11_who 105 = .ok (.istore 6, 2) := by decide +kernel
theorem dX11_who_107 : decode cX11_who 107 = .ok (.iinc 4 1, 3) := by decide +kernel
theorem dX11_who_110 : decode cX11_who 110 = .ok (.iinc 7 1, 3) := by decide +kernel
theorem dX11_who_113 : decode cX11_who 113 = .ok (.goto (-49), 3) := by decide +kernel
theorem dX11_who_116 : decode cX11_who 116 = .ok (.iload_n 3, 1) := by decide +kernel
theorem dX11_who_117 : decode cX11_who 117 = .ok (.ifCond .ne 8, 3) := by decide +kernel
theorem dX11_who_120 : decode cX11_who 120 = .ok (.iload 4, 2) := by decide +kernel
theorem dX11_who_122 : decode cX11_who 122 = .ok (.goto 24, 3) := by decide +kernel
theorem dX11_who_125 : decode cX11_who 125 = .ok (.iload_n 3, 1) := by decide +kernel
theorem dX11_who_126 : decode cX11_who 126 = .ok (.iconst 1, 1) := by decide +kernel
theorem dX11_who_127 : decode cX11_who 127 = .ok (.if_icmp .ne 8, 3) := by decide +kernel
theorem dX11_who_130 : decode cX11_who 130 = .ok (.iload 5, 2) := by decide +kernel
theorem dX11_who_132 : decode cX11_who 132 = .ok (.goto 14, 3) := by decide +kernel
theorem dX11_who_135 : decode cX11_who 135 = .ok (.iload 4, 2) := by decide +kernel
theorem dX11_who_137 : decode cX11_who 137 = .ok (.ifCond .ne 7, 3) := by decide +kernel
theorem dX11_who_140 : decode cX11_who 140 = .ok (.iconst 0, 1) := by decide +kernel
theorem dX11_who_141 : decode cX11_who 141 = .ok (.goto 5, 3) := by decide +kernel
theorem dX11_who_144 : decode cX11_who 144 = .ok (.iload 6, 2) := by decide +kernel
theorem dX11_who_146 : decode cX11_who 146 = .ok (.ireturn, 1) := by decide +kernel
theorem dX11_wish_0 : decode cX11_wish 0 = .ok (.aload_n 0, 1) := by decide +kernel
theorem dX11_wish_1 : decode cX11_wish 1 = .ok (.iload_n 1, 1) := by decide +kernel
theorem dX11_wish_2 : decode cX11_wish 2 = .ok (.iconst 1, 1) := by decide +kernel
theorem dX11_wish_3 : decode cX11_wish 3 = .ok (.invokevirtual 245, 3) := by decide +kernel
theorem dX11_wish_6 : decode cX11_wish 6 = .ok (.iconst (-1), 1) := by decide +kernel
theorem dX11_wish_7 : decode cX11_wish 7 = .ok (.if_icmp .eq 13, 3) := by decide +kernel
theorem dX11_wish_10 : decode cX11_wish 10 = .ok (.iload_n 2, 1) := by decide +kernel
theorem dX11_wish_11 : decode cX11_wish 11 = .ok (.i2l, 1) := by decide +kernel
theorem dX11_wish_12 : decode cX11_wish 12 = .ok (.lconst 0, 1) := by decide +kernel
theorem dX11_wish_13 : decode cX11_wish 13 = .ok (.lconst 1, 1) := by decide +kernel
theorem dX11_wish_14 : decode cX11_wish 14 = .ok (.invokestatic 78, 3) := by decide +kernel
theorem dX11_wish_17 : decode cX11_wish 17 = .ok (.ifCond .ne 5, 3) := by decide +kernel
theorem dX11_wish_20 : decode cX11_wish 20 = .ok (.iconst (-1), 1) := by decide +kernel
theorem dX11_wish_21 : decode cX11_wish 21 = .ok (.ireturn, 1) := by decide +kernel
theorem dX11_wish_22 : decode cX11_wish 22 = .ok (.aload_n 0, 1) := by decide +kernel
theorem dX11_wish_23 : decode cX11_wish 23 = .ok (.iload_n 1, 1) := by decide +kernel
theorem dX11_wish_24 : decode cX11_wish 24 = .ok (.iconst 1, 1) := by decide +kernel
theorem dX11_wish_25 : decode cX11_wish 25 = .ok (.invokevirtual 245, 3) := by decide +kernel
theorem dX11_wish_28 : decode cX11_wish 28 = .ok (.ifCond .ge 10, 3) := by decide +kernel
theorem dX11_wish_31 : decode cX11_wish 31 = .ok (.aload_n 0, 1) := by decide +kernel
theorem dX11_wish_32 : decode cX11_wish 32 = .ok (.iload_n 1, 1) := by decide +kernel
theorem dX11_wish_33 : decode cX11_wish 33 = .ok (.iconst 1, 1) := by decide +kernel
theorem dX11_wish_34 : decode cX11_wish 34 = .ok (.invokevirtual 245, 3) := by decide +kernel
theorem dX11_wish_37 : decode cX11_wish 37 = .ok (.ireturn, 1) := by decide +kernel
theorem dX11_wish_38 : decode cX11_wish 38 = .ok (.sipush 4095, 3) := by decide +kernel
theorem dX11_wish_41 : decode cX11_wish 41 = .ok (.istore_n 3, 1) := by decide +kernel
theorem dX11_wish_42 : decode cX11_wish 42 = .ok (.sipush 4095, 3) := by decide +kernel
theorem dX11_wish_45 : decode cX11_wish 45 = .ok (.istore 4, 2) := by decide +kernel
theorem dX11_wish_47 : decode cX11_wish 47 = .ok (.iconst 0, 1) := by decide +kernel
theorem dX11_wish_48 : decode cX11_wish 48 = .ok (.istore 5, 2) := by decide +kernel
theorem dX11_wish_50 : decode cX11_wish 50 = .ok (.iload 5, 2) := by decide +kernel
theorem dX11_wish_52 : decode cX11_wish 52 = .ok (.aload_n 0, 1) := by decide +kernel
theorem dX11_wish_53 : decode cX11_wish 53 = .ok (.getfield 55, 3) := by decide +kernel
theorem dX11_wish_56 : decode cX11_wish 56 = .ok (.iload_n 1, 1) := by decide +kernel
theorem dX11_wish_57 : decode cX11_wish 57 = .ok (.iaload, 1) := by decide +kernel
theorem dX11_wish_58 : decode cX11_wish 58 = .ok (.if_icmp .ge 54, 3) := by decide +kernel
theorem dX11_wish_61 : decode cX11_wish 61 = .ok (.aload_n 0, 1) := by decide +kernel
theorem dX11_wish_62 : decode cX11_wish 62 = .ok (.getfield 58, 3) := by decide +kernel
theorem dX11_wish_65 : decode cX11_wish 65 = .ok (.bipush 60, 2) := by decide +kernel
theorem dX11_wish_67 : decode cX11_wish 67 = .ok (.iload_n 1, 1) := by decide +kernel
theorem dX11_wish_68 : decode cX11_wish 68 = .ok (.imul, 1) := by decide +kernel
theorem dX11_wish_69 : decode cX11_wish 69 = .ok (.iload 5, 2) := by decide +kernel
theorem dX11_wish_71 : decode cX11_wish 71 = .ok (.iadd, 1) := by decide +kernel
theorem dX11_wish_72 : decode cX11_wish 72 = .ok (.laload, 1) := by decide +kernel
theorem dX11_wish_73 : decode cX11_wish 73 = .ok (.lstore 6, 2) := by decide +kernel
theorem dX11_wish_75 : decode cX11_wish 75 = .ok (.lload 6, 2) := by decide +kernel
theorem dX11_wish_77 : decode cX11_wish 77 = .ok (.lconst 0, 1) := by decide +kernel
theorem dX11_wish_78 : decode cX11_wish 78 = .ok (.ldc2_w 95, 3) := by decide +kernel
theorem dX11_wish_81 : decode cX11_wish 81 = .ok (.invokestatic 78, 3) := by decide +kernel
theorem dX11_wish_84 : decode cX11_wish 84 = .ok (.ifCond .ne 6, 3) := by decide +kernel
theorem dX11_wish_87 : decode cX11_wish 87 = .ok (.bipush (-2), 2) := by decide +kernel
theorem dX11_wish_89 : decode cX11_wish 89 = .ok (.ireturn, 1) := by decide +kernel
theorem dX11_wish_90 : decode cX11_wish 90 = .ok (.iload_n 3, 1) := by decide +kernel
theorem dX11_wish_91 : decode cX11_wish 91 = .ok (.lload 6, 2) := by decide +kernel
theorem dX11_wish_93 : decode cX11_wish 93 = .ok (.l2i, 1) := by decide +kernel
theorem dX11_wish_94 : decode cX11_wish 94 = .ok (.iand, 1) := by decide +kernel
theorem dX11_wish_95 : decode cX11_wish 95 = .ok (.istore_n 3, 1) := by decide +kernel
theorem dX11_wish_96 : decode cX11_wish 96 = .ok (.iload 4, 2) := by decide +kernel
theorem dX11_wish_98 : decode cX11_wish 98 = .ok (.lload 6, 2) := by decide +kernel
theorem dX11_wish_100 : decode cX11_wish 100 = .ok (.l2i, 1) := by decide +kernel
theorem dX11_wish_101 : decode cX11_wish 101 = .ok (.iconst (-1), 1) := by decide +kernel
theorem dX11_wish_102 : decode cX11_wish 102 = .ok (.ixor, 1) := by decide +kernel
theorem dX11_wish_103 : decode cX11_wish 103 = .ok (.iand, 1) := by decide +kernel
theorem dX11_wish_104 : decode cX11_wish 104 = .ok (.istore 4, 2) := by decide +kernel
theorem dX11_wish_106 : decode cX11_wish 106 = .ok (.iinc 5 1, 3) := by decide +kernel
theorem dX11_wish_109 : decode cX11_wish 109 = .ok (.goto (-59), 3) := by decide +kernel
theorem dX11_wish_112 : decode cX11_wish 112 = .ok (.aload_n 0, 1) := by decide +kernel
theorem dX11_wish_113 : decode cX11_wish 113 = .ok (.getfield 55, 3) := by decide +kernel
theorem dX11_wish_116 : decode cX11_wish 116 = .ok (.iload_n 1, 1) := by decide +kernel
theorem dX11_wish_117 : decode cX11_wish 117 = .ok (.iaload, 1) := by decide +kernel
theorem dX11_wish_118 : decode cX11_wish 118 = .ok (.ifCond .ne 8, 3) := by decide +kernel
theorem dX11_wish_121 : decode cX11_wish 121 = .ok (.bipush (-2), 2) := by decide +kernel
theorem dX11_wish_123 : decode cX11_wish 123 = .ok (.goto 13, 3) := by decide +kernel
theorem dX11_wish_126 : decode cX11_wish 126 = .ok (.iload_n 2, 1) := by decide +kernel
theorem dX11_wish_127 : decode cX11_wish 127 = .ok (.ifCond .ne 7, 3) := by decide +kernel
theorem dX11_wish_130 : decode cX11_wish 130 = .ok (.iload_n 3, 1) := by decide +kernel
theorem dX11_wish_131 : decode cX11_wish 131 = .ok (.goto 5, 3) := by decide +kernel
theorem dX11_wish_134 : decode cX11_wish 134 = .ok (.iload 4, 2) := by decide +kernel
theorem dX11_wish_136 : decode cX11_wish 136 = .ok (.ireturn, 1) := by decide +kernel
theorem dX11_givesAll_0 : decode cX11_givesAll 0 = .ok (.iconst 0, 1) := by decide +kernel
theorem dX11_givesAll_1 : decode cX11_givesAll 1 = .ok (.istore_n 3, 1) := by decide +kernel
theorem dX11_givesAll_2 : decode cX11_givesAll 2 = .ok (.iconst 0, 1) := by decide +kernel
theorem dX11_givesAll_3 : decode cX11_givesAll 3 = .ok (.istore 4, 2) := by decide +kernel
theorem dX11_givesAll_5 : decode cX11_givesAll 5 = .ok (.iload 4, 2) := by decide +kernel
theorem dX11_givesAll_7 : decode cX11_givesAll 7 = .ok (.aload_n 0, 1) := by decide +kernel
theorem dX11_givesAll_8 : decode cX11_givesAll 8 = .ok (.getfield 82, 3) := by decide +kernel
theorem dX11_givesAll_11 : decode cX11_givesAll 11 = .ok (.if_icmp .ge 28, 3) := by decide +kernel
theorem dX11_givesAll_14 : decode cX11_givesAll 14 = .ok (.iload_n 3, 1) := by decide +kernel
theorem dX11_givesAll_15 : decode cX11_givesAll 15 = .ok (.aload_n 0, 1) := by decide +kernel
theorem dX11_givesAll_16 : decode cX11_givesAll 16 = .ok (.iload_n 1, 1) := by decide +kernel
theorem dX11_givesAll_17 : decode cX11_givesAll 17 = .ok (.aload_n 0, 1) := by decide +kernel
theorem dX11_givesAll_18 : decode cX11_givesAll 18 = .ok (.getfield 9, 3) := by decide +kernel
theorem dX11_givesAll_21 : decode cX11_givesAll 21 = .ok (.bipush 32, 2) := by decide +kernel
theorem dX11_givesAll_23 : decode cX11_givesAll 23 = .ok (.iload 4, 2) := by decide +kernel
theorem dX11_givesAll_25 : decode cX11_givesAll 25 = .ok (.iadd, 1) := by decide +kernel
theorem dX11_givesAll_26 : decode cX11_givesAll 26 = .ok (.iaload, 1) := by decide +kernel
theorem dX11_givesAll_27 : decode cX11_givesAll 27 = .ok (.iload_n 2, 1) := by decide +kernel
theorem dX11_givesAll_28 : decode cX11_givesAll 28 = .ok (.invokevirtual 200, 3) := by decide +kernel
theorem dX11_givesAll_31 : decode cX11_givesAll 31 = .ok (.iadd, 1) := by decide +kernel
theorem dX11_givesAll_32 : decode cX11_givesAll 32 = .ok (.istore_n 3, 1) := by decide +kernel
theorem dX11_givesAll_33 : decode cX11_givesAll 33 = .ok (.iinc 4 1, 3) := by decide +kernel
theorem dX11_givesAll_36 : decode cX11_givesAll 36 = .ok (.goto (-31), 3) := by decide +kernel
theorem dX11_givesAll_39 : decode cX11_givesAll 39 = .ok (.iload_n 3, 1) := by decide +kernel
theorem dX11_givesAll_40 : decode cX11_givesAll 40 = .ok (.ireturn, 1) := by decide +kernel
theorem dX11_share_0 : decode cX11_share 0 = .ok (.iload_n 1, 1) := by decide +kernel
theorem dX11_share_1 : decode cX11_share 1 = .ok (.ifCond .lt 38, 3) := by decide +kernel
theorem dX11_share_4 : decode cX11_share 4 = .ok (.aload_n 0, 1) := by decide +kernel
theorem dX11_share_5 : decode cX11_share 5 = .ok (.iload_n 1, 1) := by decide +kernel
theorem dX11_share_6 : decode cX11_share 6 = .ok (.bipush 100, 2) := by decide +kernel
theorem dX11_share_8 : decode cX11_share 8 = .ok (.idiv, 1) := by decide +kernel
theorem dX11_share_9 : decode cX11_share 9 = .ok (.i2l, 1) := by decide +kernel
theorem dX11_share_10 : decode cX11_share 10 = .ok (.invokevirtual 116, 3) := by decide +kernel
theorem dX11_share_13 : decode cX11_share 13 = .ok (.ifCond .eq 26, 3) := by decide +kernel
theorem dX11_share_16 : decode cX11_share 16 = .ok (.iload_n 1, 1) := by decide +kernel
theorem dX11_share_17 : decode cX11_share 17 = .ok (.bipush 100, 2) := by decide +kernel
theorem dX11_share_19 : decode cX11_share 19 = .ok (.irem, 1) := by decide +kernel
theorem dX11_share_20 : decode cX11_share 20 = .ok (.i2l, 1) := by decide +kernel
theorem dX11_share_21 : decode cX11_share 21 = .ok (.invokestatic 204, 3) := by decide +kernel
theorem dX11_share_24 : decode cX11_share 24 = .ok (.ifCond .eq 15, 3) := by decide +kernel
theorem dX11_share_27 : decode cX11_share 27 = .ok (.iload_n 2, 1) := by decide +kernel
theorem dX11_share_28 : decode cX11_share 28 = .ok (.i2l, 1) := by decide +kernel
theorem dX11_share_29 : decode cX11_share 29 = .ok (.lconst 0, 1) := by decide +kernel
theorem dX11_share_30 : decode cX11_share 30 = .ok (.ldc2_w 251, 3) := by decide +kernel
theorem dX11_share_33 : decode cX11_share 33 = .ok (.invokestatic 78, 3) := by decide +kernel
theorem dX11_share_36 : decode cX11_share 36 = .ok (.ifCond .ne 5, 3) := by decide +kernel
theorem dX11_share_39 : decode cX11_share 39 = .ok (.iconst (-1), 1) := by decide +kernel
theorem dX11_share_40 : decode cX11_share 40 = .ok (.ireturn, 1) := by decide +kernel
theorem dX11_share_41 : decode cX11_share 41 = .ok (.iconst 0, 1) := by decide +kernel
theorem dX11_share_42 : decode cX11_share 42 = .ok (.istore_n 3, 1) := by decide +kernel
theorem dX11_share_43 : decode cX11_share 43 = .ok (.iconst 0, 1) := by decide +kernel
theorem dX11_share_44 : decode cX11_share 44 = .ok (.istore 4, 2) := by decide +kernel
theorem dX11_share_46 : decode cX11_share 46 = .ok (.iload 4, 2) := by decide +kernel
theorem dX11_share_48 : decode cX11_share 48 = .ok (.aload_n 0, 1) := by decide +kernel
theorem dX11_share_49 : decode cX11_share 49 = .ok (.getfield 75, 3) := by decide +kernel
theorem dX11_share_52 : decode cX11_share 52 = .ok (.if_icmp .ge 22, 3) := by decide +kernel
theorem dX11_share_55 : decode cX11_share 55 = .ok (.iload_n 3, 1) := by decide +kernel
theorem dX11_share_56 : decode cX11_share 56 = .ok (.aload_n 0, 1) := by decide +kernel
theorem dX11_share_57 : decode cX11_share 57 = .ok (.iload 4, 2) := by decide +kernel
theorem dX11_share_59 : decode cX11_share 59 = .ok (.iload_n 1, 1) := by decide +kernel
theorem dX11_share_60 : decode cX11_share 60 = .ok (.bipush 100, 2) := by decide +kernel
theorem dX11_share_62 : decode cX11_share 62 = .ok (.irem, 1) := by decide +kernel
theorem dX11_share_63 : decode cX11_share 63 = .ok (.invokevirtual 253, 3) := by decide +kernel
theorem dX11_share_66 : decode cX11_share 66 = .ok (.iadd, 1) := by decide +kernel
theorem dX11_share_67 : decode cX11_share 67 = .ok (.istore_n 3, 1) := by decide +kernel
theorem dX11_share_68 : decode cX11_share 68 = .ok (.iinc 4 1, 3) := by decide +kernel
theorem dX11_share_71 : decode cX11_share 71 = .ok (.goto (-25), 3) := by decide +kernel
theorem dX11_share_74 : decode cX11_share 74 = .ok (.iload_n 3, 1) := by decide +kernel
theorem dX11_share_75 : decode cX11_share 75 = .ok (.ifCond .ne 7, 3) := by decide +kernel
theorem dX11_share_78 : decode cX11_share 78 = .ok (.iconst 0, 1) := by decide +kernel
theorem dX11_share_79 : decode cX11_share 79 = .ok (.goto 19, 3) := by decide +kernel
theorem dX11_share_82 : decode cX11_share 82 = .ok (.iload_n 2, 1) := by decide +kernel
theorem dX11_share_83 : decode cX11_share 83 = .ok (.aload_n 0, 1) := by decide +kernel
theorem dX11_share_84 : decode cX11_share 84 = .ok (.iload_n 1, 1) := by decide +kernel
theorem dX11_share_85 : decode cX11_share 85 = .ok (.bipush 100, 2) := by decide +kernel
theorem dX11_share_87 : decode cX11_share 87 = .ok (.idiv, 1) := by decide +kernel
theorem dX11_share_88 : decode cX11_share 88 = .ok (.iload_n 1, 1) := by decide +kernel
theorem dX11_share_89 : decode cX11_share 89 = .ok (.bipush 100, 2) := by decide +kernel
theorem dX11_share_91 : decode cX11_share 91 = .ok (.irem, 1) := by decide +kernel
theorem dX11_share_92 : decode cX11_share 92 = .ok (.invokevirtual 253, 3) := by decide +kernel
theorem dX11_share_95 : decode cX11_share 95 = .ok (.imul, 1) := by decide +kernel
theorem dX11_share_96 : decode cX11_share 96 = .ok (.iload_n 3, 1) := by decide +kernel
theorem dX11_share_97 : decode cX11_share 97 = .ok (.idiv, 1) := by decide +kernel
theorem dX11_share_98 : decode cX11_share 98 = .ok (.ireturn, 1) := by decide +kernel
theorem dX11_late_0 : decode cX11_late 0 = .ok (.aload_n 0, 1) := by decide +kernel
theorem dX11_late_1 : decode cX11_late 1 = .ok (.iload_n 1, 1) := by decide +kernel
theorem dX11_late_2 : decode cX11_late 2 = .ok (.i2l, 1) := by decide +kernel
theorem dX11_late_3 : decode cX11_late 3 = .ok (.invokevirtual 121, 3) := by decide +kernel
theorem dX11_late_6 : decode cX11_late 6 = .ok (.ifCond .eq 11, 3) := by decide +kernel
theorem dX11_late_9 : decode cX11_late 9 = .ok (.iload_n 2, 1) := by decide +kernel
theorem dX11_late_10 : decode cX11_late 10 = .ok (.i2l, 1) := by decide +kernel
theorem dX11_late_11 : decode cX11_late 11 = .ok (.invokestatic 204, 3) := by decide +kernel
theorem dX11_late_14 : decode cX11_late 14 = .ok (.ifCond .ne 5, 3) := by decide +kernel
theorem dX11_late_17 : decode cX11_late 17 = .ok (.iconst (-1), 1) := by decide +kernel
theorem dX11_late_18 : decode cX11_late 18 = .ok (.ireturn, 1) := by decide +kernel
theorem dX11_late_19 : decode cX11_late 19 = .ok (.bipush (-2), 2) := by decide +kernel
theorem dX11_late_21 : decode cX11_late 21 = .ok (.istore_n 3, 1) := by decide +kernel
theorem dX11_late_22 : decode cX11_late 22 = .ok (.iconst 0, 1) := by decide +kernel
theorem dX11_late_23 : decode cX11_late 23 = .ok (.istore 4, 2) := by decide +kernel
theorem dX11_late_25 : decode cX11_late 25 = .ok (.iload 4, 2) := by decide +kernel
theorem dX11_late_27 : decode cX11_late 27 = .ok (.iload_n 2, 1) := by decide +kernel
theorem dX11_late_28 : decode cX11_late 28 = .ok (.if_icmp .gt 30, 3) := by decide +kernel
theorem dX11_late_31 : decode cX11_late 31 = .ok (.aload_n 0, 1) := by decide +kernel
theorem dX11_late_32 : decode cX11_late 32 = .ok (.iload_n 1, 1) := by decide +kernel
theorem dX11_late_33 : decode cX11_late 33 = .ok (.iload 4, 2) := by decide +kernel
theorem dX11_late_35 : decode cX11_late 35 = .ok (.aload_n 0, 1) := by decide +kernel
theorem dX11_late_36 : decode cX11_late 36 = .ok (.invokevirtual 207, 3) := by decide +kernel
theorem dX11_late_39 : decode cX11_late 39 = .ok (.invokevirtual 216, 3) := by decide +kernel
theorem dX11_late_42 : decode cX11_late 42 = .ok (.ifCond .eq 8, 3) := by decide +kernel
theorem dX11_late_45 : decode cX11_late 45 = .ok (.iload 4, 2) := by decide +kernel
theorem dX11_late_47 : decode cX11_late 47 = .ok (.goto 4, 3) := by decide +kernel
theorem dX11_late_50 : decode cX11_late 50 = .ok (.iload_n 3, 1) := by decide +kernel
theorem dX11_late_51 : decode cX11_late 51 = .ok (.istore_n 3, 1) := by decide +kernel
theorem dX11_late_52 : decode cX11_late 52 = .ok (.iinc 4 1, 3) := by decide +kernel
theorem dX11_late_55 : decode cX11_late 55 = .ok (.goto (-30), 3) := by decide +kernel
theorem dX11_late_58 : decode cX11_late 58 = .ok (.iload_n 3, 1) := by decide +kernel
theorem dX11_late_59 : decode cX11_late 59 = .ok (.ireturn, 1) := by decide +kernel
theorem dX11_isShadedFrom_0 : decode cX11_isShadedFrom 0 = .ok (.iload 4, 2) := by decide +kernel
theorem dX11_isShadedFrom_2 : decode cX11_isShadedFrom 2 = .ok (.iload 5, 2) := by decide +kernel
theorem dX11_isShadedFrom_4 : decode cX11_isShadedFrom 4 = .ok (.if_icmp .ne 14, 3) := by decide +kernel
theorem dX11_isShadedFrom_7 : decode cX11_isShadedFrom 7 = .ok (.aload_n 0, 1) := by decide +kernel
theorem dX11_isShadedFrom_8 : decode cX11_isShadedFrom 8 = .ok (.iload_n 2, 1) := by decide +kernel
theorem dX11_isShadedFrom_9 : decode cX11_isShadedFrom 9 = .ok (.iload_n 3, 1) := by decide +kernel
theorem dX11_isShadedFrom_10 : decode cX11_isShadedFrom 10 = .ok (.aload_n 0, 1) := by decide +kernel
theorem dX11_isShadedFrom_11 : decode cX11_isShadedFrom 11 = .ok (.invokevirtual 207, 3) := by decide +kernel
theorem dX11_isShadedFrom_14 : decode cX11_isShadedFrom 14 = .ok (.invokevirtual 216, 3) := by decide +kernel
theorem dX11_isShadedFrom_17 : decode cX11_isShadedFrom 17 = .ok (.ireturn, 1) := by decide +kernel
theorem dX11_isShadedFrom_18 : decode cX11_isShadedFrom 18 = .ok (.iload 4, 2) := by decide +kernel
theorem dX11_isShadedFrom_20 : decode cX11_isShadedFrom 20 = .ok (.iconst 2, 1) := by decide +kernel
theorem dX11_isShadedFrom_21 : decode cX11_isShadedFrom 21 = .ok (.irem, 1) := by decide +kernel
theorem dX11_isShadedFrom_22 : decode cX11_isShadedFrom 22 = .ok (.ifCond .ne 7, 3) := by decide +kernel
theorem dX11_isShadedFrom_25 : decode cX11_isShadedFrom 25 = .ok (.iload_n 1, 1) := by decide +kernel
theorem dX11_isShadedFrom_26 : decode cX11_isShadedFrom 26 = .ok (.goto 7, 3) := by decide +kernel
theorem dX11_isShadedFrom_29 : decode cX11_isShadedFrom 29 = .ok (.bipush 32, 2) := by decide +kernel
theorem dX11_isShadedFrom_31 : decode cX11_isShadedFrom 31 = .ok (.iload_n 2, 1) := by decide +kernel
theorem dX11_isShadedFrom_32 : decode cX11_isShadedFrom 32 = .ok (.iadd, 1) := by decide +kernel
theorem dX11_isShadedFrom_33 : decode cX11_isShadedFrom 33 = .ok (.istore 6, 2) := by decide +kernel
theorem dX11_isShadedFrom_35 : decode cX11_isShadedFrom 35 = .ok (.iload 4, 2) := by decide +kernel
theorem dX11_isShadedFrom_37 : decode cX11_isShadedFrom 37 = .ok (.iconst 2, 1) := by decide +kernel
theorem dX11_isShadedFrom_38 : decode cX11_isShadedFrom 38 = .ok (.irem, 1) := by decide +kernel
theorem dX11_isShadedFrom_39 : decode cX11_isShadedFrom 39 = .ok (.ifCond .ne 7, 3) := by decide +kernel
theorem dX11_isShadedFrom_42 : decode cX11_isShadedFrom 42 = .ok (.iconst 1, 1) := by decide +kernel
theorem dX11_isShadedFrom_43 : decode cX11_isShadedFrom 43 = .ok (.goto 4, 3) := by decide +kernel
theorem dX11_isShadedFrom_46 : decode cX11_isShadedFrom 46 = .ok (.iconst 0, 1) := by decide +kernel
theorem dX11_isShadedFrom_47 : decode cX11_isShadedFrom 47 = .ok (.istore 7, 2) := by decide +kernel
theorem dX11_isShadedFrom_49 : decode cX11_isShadedFrom 49 = .ok (.aload_n 0, 1) := by decide +kernel
theorem dX11_isShadedFrom_50 : decode cX11_isShadedFrom 50 = .ok (.getfield 9, 3) := by decide +kernel
theorem dX11_isShadedFrom_53 : decode cX11_isShadedFrom 53 = .ok (.iload 6, 2) := by decide +kernel
theorem dX11_isShadedFrom_55 : decode cX11_isShadedFrom 55 = .ok (.iaload, 1) := by decide +kernel
theorem dX11_isShadedFrom_56 : decode cX11_isShadedFrom 56 = .ok (.istore 8, 2) := by decide +kernel
theorem dX11_isShadedFrom_58 : decode cX11_isShadedFrom 58 = .ok (.iconst 0, 1) := by decide +kernel
theorem dX11_isShadedFrom_59 : decode cX11_isShadedFrom 59 = .ok (.istore 9, 2) := by decide +kernel
theorem dX11_isShadedFrom_61 : decode cX11_isShadedFrom 61 = .ok (.iconst 0, 1) := by decide +kernel
theorem dX11_isShadedFrom_62 : decode cX11_isShadedFrom 62 = .ok (.istore 10, 2) := by decide +kernel
theorem dX11_isShadedFrom_64 : decode cX11_isShadedFrom 64 = .ok (.iload 10, 2) := by decide +kernel
theorem dX11_isShadedFrom_66 : decode cX11_isShadedFrom 66 = .ok (.iconst 4, 1) := by decide +kernel
theorem dX11_isShadedFrom_67 : decode cX11_isShadedFrom 67 = .ok (.if_icmp .gt 62, 3) := by decide +kernel
theorem dX11_isShadedFrom_70 : decode cX11_isShadedFrom 70 = .ok (.iload 9, 2) := by decide +kernel
theorem dX11_isShadedFrom_72 : decode cX11_isShadedFrom 72 = .ok (.ifCond .ne 57, 3) := by decide +kernel
theorem dX11_isShadedFrom_75 : decode cX11_isShadedFrom 75 = .ok (.iload 8, 2) := by decide +kernel
theorem dX11_isShadedFrom_77 : decode cX11_isShadedFrom 77 = .ok (.iload 10, 2) := by decide +kernel
theorem dX11_isShadedFrom_79 : decode cX11_isShadedFrom 79 = .ok (.invokestatic 242, 3) := by decide +kernel
theorem dX11_isShadedFrom_82 : decode cX11_isShadedFrom 82 = .ok (.istore 11, 2) := by decide +kernel
theorem dX11_isShadedFrom_84 : decode cX11_isShadedFrom 84 = .ok (.iload 11, 2) := by decide +kernel
theorem dX11_isShadedFrom_86 : decode cX11_isShadedFrom 86 = .ok (.ifCond .lt 37, 3) := by decide +kernel
theorem dX11_isShadedFrom_89 : decode cX11_isShadedFrom 89 = .ok (.aload_n 0, 1) := by decide +kernel
theorem dX11_isShadedFrom_90 : decode cX11_isShadedFrom 90 = .ok (.getfield 9, 3) := by decide +kernel
theorem dX11_isShadedFrom_93 : decode cX11_isShadedFrom 93 = .ok (.iload 6, 2) := by decide +kernel
theorem dX11_isShadedFrom_95 : decode cX11_isShadedFrom 95 = .ok (.iload 11, 2) := by decide +kernel
theorem dX11_isShadedFrom_97 : decode cX11_isShadedFrom 97 = .ok (.iastore, 1) := by decide +kernel
theorem dX11_isShadedFrom_98 : decode cX11_isShadedFrom 98 = .ok (.aload_n 0, 1) := by decide +kernel
theorem dX11_isShadedFrom_99 : decode cX11_isShadedFrom 99 = .ok (.iload_n 1, 1) := by decide +kernel
theorem dX11_isShadedFrom_100 : decode cX11_isShadedFrom 100 = .ok (.iload_n 2, 1) := by decide +kernel
theorem dX11_isShadedFrom_101 : decode cX11_isShadedFrom 101 = .ok (.iload_n 3, 1) := by decide +kernel
theorem dX11_isShadedFrom_102 : decode cX11_isShadedFrom 102 = .ok (.iload 4, 2) := by decide +kernel
theorem dX11_isShadedFrom_104 : decode cX11_isShadedFrom 104 = .ok (.iconst 1, 1) := by decide +kernel
theorem dX11_isShadedFrom_105 : decode cX11_isShadedFrom 105 = .ok (.iadd, 1) := by decide +kernel
theorem dX11_isShadedFrom_106 : decode cX11_isShadedFrom 106 = .ok (.iload 5, 2) := by decide +kernel
theorem dX11_isShadedFrom_108 : decode cX11_isShadedFrom 108 = .ok (.invokevirtual 256, 3) := by decide +kernel
theorem dX11_isShadedFrom_111 : decode cX11_isShadedFrom 111 = .ok (.iload 7, 2) := by decide +kernel
theorem dX11_isShadedFrom_113 : decode cX11_isShadedFrom 113 = .ok (.if_icmp .ne 7, 3) := by decide +kernel
theorem dX11_isShadedFrom_116 : decode cX11_isShadedFrom 116 = .ok (.iconst 1, 1) := by decide +kernel
theorem dX11_isShadedFrom_117 : decode cX11_isShadedFrom 117 = .ok (.goto 4, 3) := by decide +kernel
theorem dX11_isShadedFrom_120 : decode cX11_isShadedFrom 120 = .ok (.iconst 0, 1) := by decide +kernel
theorem dX11_isShadedFrom_121 : decode cX11_isShadedFrom 121 = .ok (.istore 9, 2) := by decide +kernel
theorem dX11_isShadedFrom_123 : decode cX11_isShadedFrom 123 = .ok (.iinc 10 1, 3) := by decide +kernel
theorem dX11_isShadedFrom_126 : decode cX11_isShadedFrom 126 = .ok (.goto (-62), 3) := by decide +kernel
theorem dX11_isShadedFrom_129 : decode cX11_isShadedFrom 129 = .ok (.aload_n 0, 1) := by decide +kernel
theorem dX11_isShadedFrom_130 : decode cX11_isShadedFrom 130 = .ok (.getfield 9, 3) := by decide +kernel
theorem dX11_isShadedFrom_133 : decode cX11_isShadedFrom 133 = .ok (.iload 6, 2) := by decide +kernel
theorem dX11_isShadedFrom_135 : decode cX11_isShadedFrom 135 = .ok (.iload 8, 2) := by decide +kernel
theorem dX11_isShadedFrom_137 : decode cX11_isShadedFrom 137 = .ok (.iastore, 1) := by decide +kernel
theorem dX11_isShadedFrom_138 : decode cX11_isShadedFrom 138 = .ok (.iload 9, 2) := by decide +kernel
theorem dX11_isShadedFrom_140 : decode cX11_isShadedFrom 140 = .ok (.iload 7, 2) := by decide +kernel
theorem dX11_isShadedFrom_142 : decode cX11_isShadedFrom 142 = .ok (.if_icmp .ne 7, 3) := by decide +kernel
theorem dX11_isShadedFrom_145 : decode cX11_isShadedFrom 145 = .ok (.iconst 1, 1) := by decide +kernel
theorem dX11_isShadedFrom_146 : decode cX11_isShadedFrom 146 = .ok (.goto 4, 3) := by decide +kernel
theorem dX11_isShadedFrom_149 : decode cX11_isShadedFrom 149 = .ok (.iconst 0, 1) := by decide +kernel
theorem dX11_isShadedFrom_150 : decode cX11_isShadedFrom 150 = .ok (.ireturn, 1) := by decide +kernel
theorem dX11_byTurns_0 : decode cX11_byTurns 0 = .ok (.iload_n 1, 1) := by decide +kernel
theorem dX11_byTurns_1 : decode cX11_byTurns 1 = .ok (.ifCond .lt 67, 3) := by decide +kernel
theorem dX11_byTurns_4 : decode cX11_byTurns 4 = .ok (.aload_n 0, 1) := by decide +kernel
theorem dX11_byTurns_5 : decode cX11_byTurns 5 = .ok (.iload_n 1, 1) := by decide +kernel
theorem dX11_byTurns_6 : decode cX11_byTurns 6 = .ok (.bipush 10, 2) := by decide +kernel
theorem dX11_byTurns_8 : decode cX11_byTurns 8 = .ok (.idiv, 1) := by decide +kernel
theorem dX11_byTurns_9 : decode cX11_byTurns 9 = .ok (.i2l, 1) := by decide +kernel
theorem dX11_byTurns_10 : decode cX11_byTurns 10 = .ok (.invokevirtual 116, 3) := by decide +kernel
theorem dX11_byTurns_13 : decode cX11_byTurns 13 = .ok (.ifCond .eq 55, 3) := by decide +kernel
theorem dX11_byTurns_16 : decode cX11_byTurns 16 = .ok (.aload_n 0, 1) := by decide +kernel
theorem dX11_byTurns_17 : decode cX11_byTurns 17 = .ok (.iload_n 1, 1) := by decide +kernel
theorem dX11_byTurns_18 : decode cX11_byTurns 18 = .ok (.bipush 10, 2) := by decide +kernel
theorem dX11_byTurns_20 : decode cX11_byTurns 20 = .ok (.irem, 1) := by decide +kernel
theorem dX11_byTurns_21 : decode cX11_byTurns 21 = .ok (.i2l, 1) := by decide +kernel
theorem dX11_byTurns_22 : decode cX11_byTurns 22 = .ok (.invokevirtual 121, 3) := by decide +kernel
theorem dX11_byTurns_25 : decode cX11_byTurns 25 = .ok (.ifCond .eq 43, 3) := by decide +kernel
theorem dX11_byTurns_28 : decode cX11_byTurns 28 = .ok (.iload_n 2, 1) := by decide +kernel
theorem dX11_byTurns_29 : decode cX11_byTurns 29 = .ok (.ifCond .lt 39, 3) := by decide +kernel
theorem dX11_byTurns_32 : decode cX11_byTurns 32 = .ok (.iload_n 2, 1) := by decide +kernel
theorem dX11_byTurns_33 : decode cX11_byTurns 33 = .ok (.bipush 10, 2) := by decide +kernel
theorem dX11_byTurns_35 : decode cX11_byTurns 35 = .ok (.idiv, 1) := by decide +kernel
theorem dX11_byTurns_36 : decode cX11_byTurns 36 = .ok (.i2l, 1) := by decide +kernel
theorem dX11_byTurns_37 : decode cX11_byTurns 37 = .ok (.invokestatic 204, 3) := by decide +kernel
theorem dX11_byTurns_40 : decode cX11_byTurns 40 = .ok (.ifCond .eq 28, 3) := by decide +kernel
theorem dX11_byTurns_43 : decode cX11_byTurns 43 = .ok (.iload_n 2, 1) := by decide +kernel
theorem dX11_byTurns_44 : decode cX11_byTurns 44 = .ok (.bipush 10, 2) := by decide +kernel
theorem dX11_byTurns_46 : decode cX11_byTurns 46 = .ok (.irem, 1) := by decide +kernel
theorem dX11_byTurns_47 : decode cX11_byTurns 47 = .ok (.i2l, 1) := by decide +kernel
theorem dX11_byTurns_48 : decode cX11_byTurns 48 = .ok (.lconst 1, 1) := by decide +kernel
theorem dX11_byTurns_49 : decode cX11_byTurns 49 = .ok (.ldc2_w 119, 3) := by decide +kernel
theorem dX11_byTurns_52 : decode cX11_byTurns 52 = .ok (.invokestatic 78, 3) := by decide +kernel
theorem dX11_byTurns_55 : decode cX11_byTurns 55 = .ok (.ifCond .eq 13, 3) := by decide +kernel
theorem dX11_byTurns_58 : decode cX11_byTurns 58 = .ok (.iload_n 3, 1) := by decide +kernel
theorem dX11_byTurns_59 : decode cX11_byTurns 59 = .ok (.i2l, 1) := by decide +kernel
theorem dX11_byTurns_60 : decode cX11_byTurns 60 = .ok (.lconst 0, 1) := by decide +kernel
theorem dX11_byTurns_61 : decode cX11_byTurns 61 = .ok (.lconst 1, 1) := by decide +kernel
theorem dX11_byTurns_62 : decode cX11_byTurns 62 = .ok (.invokestatic 78, 3) := by decide +kernel
theorem dX11_byTurns_65 : decode cX11_byTurns 65 = .ok (.ifCond .ne 5, 3) := by decide +kernel
theorem dX11_byTurns_68 : decode cX11_byTurns 68 = .ok (.iconst (-1), 1) := by decide +kernel
theorem dX11_byTurns_69 : decode cX11_byTurns 69 = .ok (.ireturn, 1) := by decide +kernel
theorem dX11_byTurns_70 : decode cX11_byTurns 70 = .ok (.iload_n 1, 1) := by decide +kernel
theorem dX11_byTurns_71 : decode cX11_byTurns 71 = .ok (.bipush 10, 2) := by decide +kernel
theorem dX11_byTurns_73 : decode cX11_byTurns 73 = .ok (.idiv, 1) := by decide +kernel
theorem dX11_byTurns_74 : decode cX11_byTurns 74 = .ok (.istore 4, 2) := by decide +kernel
theorem dX11_byTurns_76 : decode cX11_byTurns 76 = .ok (.iload_n 1, 1) := by decide +kernel
theorem dX11_byTurns_77 : decode cX11_byTurns 77 = .ok (.bipush 10, 2) := by decide +kernel
theorem dX11_byTurns_79 : decode cX11_byTurns 79 = .ok (.irem, 1) := by decide +kernel
theorem dX11_byTurns_80 : decode cX11_byTurns 80 = .ok (.istore 5, 2) := by decide +kernel
theorem dX11_byTurns_82 : decode cX11_byTurns 82 = .ok (.aload_n 0, 1) := by decide +kernel
theorem dX11_byTurns_83 : decode cX11_byTurns 83 = .ok (.iload 4, 2) := by decide +kernel
theorem dX11_byTurns_85 : decode cX11_byTurns 85 = .ok (.iload 5, 2) := by decide +kernel
theorem dX11_byTurns_87 : decode cX11_byTurns 87 = .ok (.iload_n 2, 1) := by decide +kernel
theorem dX11_byTurns_88 : decode cX11_byTurns 88 = .ok (.bipush 10, 2) := by decide +kernel
theorem dX11_byTurns_90 : decode cX11_byTurns 90 = .ok (.idiv, 1) := by decide +kernel
theorem dX11_byTurns_91 : decode cX11_byTurns 91 = .ok (.iconst 0, 1) := by decide +kernel
theorem dX11_byTurns_92 : decode cX11_byTurns 92 = .ok (.iload_n 2, 1) := by decide +kernel
theorem dX11_byTurns_93 : decode cX11_byTurns 93 = .ok (.bipush 10, 2) := by decide +kernel
theorem dX11_byTurns_95 : decode cX11_byTurns 95 = .ok (.irem, 1) := by decide +kernel
theorem dX11_byTurns_96 : decode cX11_byTurns 96 = .ok (.invokevirtual 256, 3) := by decide +kernel
theorem dX11_byTurns_99 : decode cX11_byTurns 99 = .ok (.istore 6, 2) := by decide +kernel
theorem dX11_byTurns_101 : decode cX11_byTurns 101 = .ok (.iload_n 3, 1) := by decide +kernel
theorem dX11_byTurns_102 : decode cX11_byTurns 102 = .ok (.ifCond .ne 14, 3) := by decide +kernel
theorem dX11_byTurns_105 : decode cX11_byTurns 105 = .ok (.iload 6, 2) := by decide +kernel
theorem dX11_byTurns_107 : decode cX11_byTurns 107 = .ok (.ifCond .eq 7, 3) := by decide +kernel
theorem dX11_byTurns_110 : decode cX11_byTurns 110 = .ok (.iconst 1, 1) := by decide +kernel
theorem dX11_byTurns_111 : decode cX11_byTurns 111 = .ok (.goto 4, 3) := by decide +kernel
theorem dX11_byTurns_114 : decode cX11_byTurns 114 = .ok (.iconst 0, 1) := by decide +kernel
theorem dX11_byTurns_115 : decode cX11_byTurns 115 = .ok (.ireturn, 1) := by decide +kernel
theorem dX11_byTurns_116 : decode cX11_byTurns 116 = .ok (.aload_n 0, 1) := by decide +kernel
theorem dX11_byTurns_117 : decode cX11_byTurns 117 = .ok (.getfield 9, 3) := by decide +kernel
theorem dX11_byTurns_120 : decode cX11_byTurns 120 = .ok (.iload 4, 2) := by decide +kernel
theorem dX11_byTurns_122 : decode cX11_byTurns 122 = .ok (.iaload, 1) := by decide +kernel
theorem dX11_byTurns_123 : decode cX11_byTurns 123 = .ok (.istore 7, 2) := by decide +kernel
theorem dX11_byTurns_125 : decode cX11_byTurns 125 = .ok (.aload_n 0, 1) := by decide +kernel
theorem dX11_byTurns_126 : decode cX11_byTurns 126 = .ok (.iload 4, 2) := by decide +kernel
theorem dX11_byTurns_128 : decode cX11_byTurns 128 = .ok (.iload 5, 2) := by decide +kernel
theorem dX11_byTurns_130 : decode cX11_byTurns 130 = .ok (.iload_n 2, 1) := by decide +kernel
theorem dX11_byTurns_131 : decode cX11_byTurns 131 = .ok (.bipush 10, 2) := by decide +kernel
theorem dX11_byTurns_133 : decode cX11_byTurns 133 = .ok (.idiv, 1) := by decide +kernel
theorem dX11_byTurns_134 : decode cX11_byTurns 134 = .ok (.iconst 1, 1) := by decide +kernel
theorem dX11_byTurns_135 : decode cX11_byTurns 135 = .ok (.iload_n 2, 1) := by decide +kernel
theorem dX11_byTurns_136 : decode cX11_byTurns 136 = .ok (.bipush 10, 2) := by decide +kernel
theorem dX11_byTurns_138 : decode cX11_byTurns 138 = .ok (.irem, 1) := by decide +kernel
theorem dX11_byTurns_139 : decode cX11_byTurns 139 = .ok (.invokevirtual 256, 3) := by decide +kernel
theorem dX11_byTurns_142 : decode cX11_byTurns 142 = .ok (.iload 6, 2) := by decide +kernel
theorem dX11_byTurns_144 : decode cX11_byTurns 144 = .ok (.if_icmp .ne 7, 3) := by decide +kernel
theorem dX11_byTurns_147 : decode cX11_byTurns 147 = .ok (.iconst 4, 1) := by decide +kernel
theorem dX11_byTurns_148 : decode cX11_byTurns 148 = .ok (.goto 4, 3) := by decide +kernel
theorem dX11_byTurns_151 : decode cX11_byTurns 151 = .ok (.iconst (-1), 1) := by decide +kernel
theorem dX11_byTurns_152 : decode cX11_byTurns 152 = .ok (.istore 8, 2) := by decide +kernel
theorem dX11_byTurns_154 : decode cX11_byTurns 154 = .ok (.iconst 0, 1) := by decide +kernel
theorem dX11_byTurns_155 : decode cX11_byTurns 155 = .ok (.istore 9, 2) := by decide +kernel
theorem dX11_byTurns_157 : decode cX11_byTurns 157 = .ok (.iload 9, 2) := by decide +kernel
theorem dX11_byTurns_159 : decode cX11_byTurns 159 = .ok (.iconst 4, 1) := by decide +kernel
theorem dX11_byTurns_160 : decode cX11_byTurns 160 = .ok (.if_icmp .ge 67, 3) := by decide +kernel
theorem dX11_byTurns_163 : decode cX11_byTurns 163 = .ok (.iload 8, 2) := by decide +kernel
theorem dX11_byTurns_165 : decode cX11_byTurns 165 = .ok (.ifCond .ge 62, 3) := by decide +kernel
theorem dX11_byTurns_168 : decode cX11_byTurns 168 = .ok (.iload 7, 2) := by decide +kernel
theorem dX11_byTurns_170 : decode cX11_byTurns 170 = .ok (.iload 9, 2) := by decide +kernel
theorem dX11_byTurns_172 : decode cX11_byTurns 172 = .ok (.invokestatic 242, 3) := by decide +kernel
theorem dX11_byTurns_175 : decode cX11_byTurns 175 = .ok (.istore 10, 2) := by decide +kernel
theorem dX11_byTurns_177 : decode cX11_byTurns 177 = .ok (.iload 10, 2) := by decide +kernel
theorem dX11_byTurns_179 : decode cX11_byTurns 179 = .ok (.ifCond .lt 42, 3) := by decide +kernel
theorem dX11_byTurns_182 : decode cX11_byTurns 182 = .ok (.aload_n 0, 1) := by decide +kernel
theorem dX11_byTurns_183 : decode cX11_byTurns 183 = .ok (.getfield 9, 3) := by decide +kernel
theorem dX11_byTurns_186 : decode cX11_byTurns 186 = .ok (.iload 4, 2) := by decide +kernel
theorem dX11_byTurns_188 : decode cX11_byTurns 188 = .ok (.iload 10, 2) := by decide +kernel
theorem dX11_byTurns_190 : decode cX11_byTurns 190 = .ok (.iastore, 1) := by decide +kernel
theorem dX11_byTurns_191 : decode cX11_byTurns 191 = .ok (.aload_n 0, 1) := by decide +kernel
theorem dX11_byTurns_192 : decode cX11_byTurns 192 = .ok (.iload 4, 2) := by decide +kernel
theorem dX11_byTurns_194 : decode cX11_byTurns 194 = .ok (.iload 5, 2) := by decide +kernel
theorem dX11_byTurns_196 : decode cX11_byTurns 196 = .ok (.iload_n 2, 1) := by decide +kernel
theorem dX11_byTurns_197 : decode cX11_byTurns 197 = .ok (.bipush 10, 2) := by decide +kernel
theorem dX11_byTurns_199 : decode cX11_byTurns 199 = .ok (.idiv, 1) := by decide +kernel
theorem dX11_byTurns_200 : decode cX11_byTurns 200 = .ok (.iconst 1, 1) := by decide +kernel
theorem dX11_byTurns_201 : decode cX11_byTurns 201 = .ok (.iload_n 2, 1) := by decide +kernel
theorem dX11_byTurns_202 : decode cX11_byTurns 202 = .ok (.bipush 10, 2) := by decide +kernel
theorem dX11_byTurns_204 : decode cX11_byTurns 204 = .ok (.irem, 1) := by decide +kernel
theorem dX11_byTurns_205 : decode cX11_byTurns 205 = .ok (.invokevirtual 256, 3) := by decide +kernel
theorem dX11_byTurns_208 : decode cX11_byTurns 208 = .ok (.iload 6, 2) := by decide +kernel
theorem dX11_byTurns_210 : decode cX11_byTurns 210 = .ok (.if_icmp .ne 8, 3) := by decide +kernel
theorem dX11_byTurns_213 : decode cX11_byTurns 213 = .ok (.iload 9, 2) := by decide +kernel
theorem dX11_byTurns_215 : decode cX11_byTurns 215 = .ok (.goto 4, 3) := by decide +kernel
theorem dX11_byTurns_218 : decode cX11_byTurns 218 = .ok (.iconst (-1), 1) := by decide +kernel
theorem dX11_byTurns_219 : decode cX11_byTurns 219 = .ok (.istore 8, 2) := by decide +kernel
theorem dX11_byTurns_221 : decode cX11_byTurns 221 = .ok (.iinc 9 1, 3) := by decide +kernel
theorem dX11_byTurns_224 : decode cX11_byTurns 224 = .ok (.goto (-67), 3) := by decide +kernel
theorem dX11_byTurns_227 : decode cX11_byTurns 227 = .ok (.aload_n 0, 1) := by decide +kernel
theorem dX11_byTurns_228 : decode cX11_byTurns 228 = .ok (.getfield 9, 3) := by decide +kernel
theorem dX11_byTurns_231 : decode cX11_byTurns 231 = .ok (.iload 4, 2) := by decide +kernel
theorem dX11_byTurns_233 : decode cX11_byTurns 233 = .ok (.iload 7, 2) := by decide +kernel
theorem dX11_byTurns_235 : decode cX11_byTurns 235 = .ok (.iastore, 1) := by decide +kernel
theorem dX11_byTurns_236 : decode cX11_byTurns 236 = .ok (.iload 8, 2) := by decide +kernel
theorem dX11_byTurns_238 : decode cX11_byTurns 238 = .ok (.ireturn, 1) := by decide +kernel
theorem dX11_drawn_0 : decode cX11_drawn 0 = .ok (.iload_n 2, 1) := by decide +kernel
theorem dX11_drawn_1 : decode cX11_drawn 1 = .ok (.ifCond .lt 47, 3) := by decide +kernel
theorem dX11_drawn_4 : decode cX11_drawn 4 = .ok (.iload_n 2, 1) := by decide +kernel
theorem dX11_drawn_5 : decode cX11_drawn 5 = .ok (.bipush 100, 2) := by decide +kernel
theorem dX11_drawn_7 : decode cX11_drawn 7 = .ok (.idiv, 1) := by decide +kernel
theorem dX11_drawn_8 : decode cX11_drawn 8 = .ok (.i2l, 1) := by decide +kernel
theorem dX11_drawn_9 : decode cX11_drawn 9 = .ok (.lconst 1, 1) := by decide +kernel
theorem dX11_drawn_10 : decode cX11_drawn 10 = .ok (.ldc2_w 260, 3) := by decide +kernel
theorem dX11_drawn_13 : decode cX11_drawn 13 = .ok (.invokestatic 78, 3) := by decide +kernel
theorem dX11_drawn_16 : decode cX11_drawn 16 = .ok (.ifCond .eq 32, 3) := by decide +kernel
theorem dX11_drawn_19 : decode cX11_drawn 19 = .ok (.iload_n 2, 1) := by decide +kernel
theorem dX11_drawn_20 : decode cX11_drawn 20 = .ok (.bipush 100, 2) := by decide +kernel
theorem dX11_drawn_22 : decode cX11_drawn 22 = .ok (.irem, 1) := by decide +kernel
theorem dX11_drawn_23 : decode cX11_drawn 23 = .ok (.i2l, 1) := by decide +kernel
theorem dX11_drawn_24 : decode cX11_drawn 24 = .ok (.lconst 0, 1) := by decide +kernel
theorem dX11_drawn_25 : decode cX11_drawn 25 = .ok (.ldc2_w 97, 3) := by decide +kernel
theorem dX11_drawn_28 : decode cX11_drawn 28 = .ok (.invokestatic 78, 3) := by decide +kernel
theorem dX11_drawn_31 : decode cX11_drawn 31 = .ok (.ifCond .eq 17, 3) := by decide +kernel
theorem dX11_drawn_34 : decode cX11_drawn 34 = .ok (.iload_n 3, 1) := by decide +kernel
theorem dX11_drawn_35 : decode cX11_drawn 35 = .ok (.iconst (-1), 1) := by decide +kernel
theorem dX11_drawn_36 : decode cX11_drawn 36 = .ok (.if_icmp .eq 14, 3) := by decide +kernel
theorem dX11_drawn_39 : decode cX11_drawn 39 = .ok (.aload_n 0, 1) := by decide +kernel
theorem dX11_drawn_40 : decode cX11_drawn 40 = .ok (.iload_n 3, 1) := by decide +kernel
theorem dX11_drawn_41 : decode cX11_drawn 41 = .ok (.i2l, 1) := by decide +kernel
theorem dX11_drawn_42 : decode cX11_drawn 42 = .ok (.invokevirtual 121, 3) := by decide +kernel
theorem dX11_drawn_45 : decode cX11_drawn 45 = .ok (.ifCond .ne 5, 3) := by decide +kernel
theorem dX11_drawn_48 : decode cX11_drawn 48 = .ok (.iconst (-1), 1) := by decide +kernel
theorem dX11_drawn_49 : decode cX11_drawn 49 = .ok (.ireturn, 1) := by decide +kernel
theorem dX11_drawn_50 : decode cX11_drawn 50 = .ok (.iload_n 1, 1) := by decide +kernel
theorem dX11_drawn_51 : decode cX11_drawn 51 = .ok (.istore 4, 2) := by decide +kernel
theorem dX11_drawn_53 : decode cX11_drawn 53 = .ok (.iconst 0, 1) := by decide +kernel
theorem dX11_drawn_54 : decode cX11_drawn 54 = .ok (.istore 5, 2) := by decide +kernel
theorem dX11_drawn_56 : decode cX11_drawn 56 = .ok (.iconst 0, 1) := by decide +kernel
theorem dX11_drawn_57 : decode cX11_drawn 57 = .ok (.istore 6, 2) := by decide +kernel
theorem dX11_drawn_59 : decode cX11_drawn 59 = .ok (.iconst 0, 1) := by decide +kernel
theorem dX11_drawn_60 : decode cX11_drawn 60 = .ok (.istore 7, 2) := by decide +kernel
theorem dX11_drawn_62 : decode cX11_drawn 62 = .ok (.iload 7, 2) := by decide +kernel
theorem dX11_drawn_64 : decode cX11_drawn 64 = .ok (.iload_n 2, 1) := by decide +kernel
theorem dX11_drawn_65 : decode cX11_drawn 65 = .ok (.bipush 100, 2) := by decide +kernel
theorem dX11_drawn_67 : decode cX11_drawn 67 = .ok (.idiv, 1) := by decide +kernel
theorem dX11_drawn_68 : decode cX11_drawn 68 = .ok (.if_icmp .ge 169, 3) := by decide +kernel
theorem dX11_drawn_71 : decode cX11_drawn 71 = .ok (.iconst 0, 1) := by decide +kernel
theorem dX11_drawn_72 : decode cX11_drawn 72 = .ok (.istore 8, 2) := by decide +kernel
theorem dX11_drawn_74 : decode cX11_drawn 74 = .ok (.iload 8, 2) := by decide +kernel
theorem dX11_drawn_76 : decode cX11_drawn 76 = .ok (.bipush 12, 2) := by decide +kernel
theorem dX11_drawn_78 : decode cX11_drawn 78 = .ok (.if_icmp .ge 153, 3) := by decide +kernel
theorem dX11_drawn_81 : decode cX11_drawn 81 = .ok (.iload 4, 2) := by decide +kernel
theorem dX11_drawn_83 : decode cX11_drawn 83 = .ok (.ldc_w 262, 3) := by decide +kernel
theorem dX11_drawn_86 : decode cX11_drawn 86 = .ok (.imul, 1) := by decide +kernel
theorem dX11_drawn_87 : decode cX11_drawn 87 = .ok (.sipush 12345, 3) := by decide +kernel
theorem dX11_drawn_90 : decode cX11_drawn 90 = .ok (.iadd, 1) := by decide +kernel
theorem dX11_drawn_91 : decode cX11_drawn 91 = .ok (.istore 4, 2) := by decide +kernel
theorem dX11_drawn_93 : decode cX11_drawn 93 = .ok (.iload 4, 2) := by decide +kernel
theorem dX11_drawn_95 : decode cX11_drawn 95 = .ok (.bipush 8, 2) := by decide +kernel
theorem dX11_drawn_97 : decode cX11_drawn 97 = .ok (.iushr, 1) := by decide +kernel
theorem dX11_drawn_98 : decode cX11_drawn 98 = .ok (.bipush 12, 2) := by decide +kernel
theorem dX11_drawn_100 : decode cX11_drawn 100 = .ok (.irem, 1) := by decide +kernel
theorem dX11_drawn_101 : decode cX11_drawn 101 = .ok (.iload_n 2, 1) := by decide +kernel
theorem dX11_drawn_102 : decode cX11_drawn 102 = .ok (.bipush 100, 2) := by decide +kernel
theorem dX11_drawn_104 : decode cX11_drawn 104 = .ok (.irem, 1) := by decide +kernel
theorem dX11_drawn_105 : decode cX11_drawn 105 = .ok (.if_icmp .ge 7, 3) := by decide +kernel
theorem dX11_drawn_108 : decode cX11_drawn 108 = .ok (.iconst 1, 1) := by decide +kernel
theorem dX11_drawn_109 : decode cX11_drawn 109 = .ok (.goto 4, 3) := by decide +kernel
theorem dX11_drawn_112 : decode cX11_drawn 112 = .ok (.iconst 0, 1) := by decide +kernel
theorem dX11_drawn_113 : decode cX11_drawn 113 = .ok (.istore 9, 2) := by decide +kernel
theorem dX11_drawn_115 : decode cX11_drawn 115 = .ok (.aload_n 0, 1) := by decide +kernel
theorem dX11_drawn_116 : decode cX11_drawn 116 = .ok (.getfield 75, 3) := by decide +kernel
theorem dX11_drawn_119 : decode cX11_drawn 119 = .ok (.ifCond .ne 7, 3) := by decide +kernel
theorem dX11_drawn_122 : decode cX11_drawn 122 = .ok (.iconst 0, 1) := by decide +kernel
theorem dX11_drawn_123 : decode cX11_drawn 123 = .ok (.goto 22, 3) := by decide +kernel
theorem dX11_drawn_126 : decode cX11_drawn 126 = .ok (.aload_n 0, 1) := by decide +kernel
theorem dX11_drawn_127 : decode cX11_drawn 127 = .ok (.invokevirtual 207, 3) := by decide +kernel
theorem dX11_drawn_130 : decode cX11_drawn 130 = .ok (.iconst 1, 1) := by decide +kernel
theorem dX11_drawn_131 : decode cX11_drawn 131 = .ok (.iload 4, 2) := by decide +kernel
theorem dX11_drawn_133 : decode cX11_drawn 133 = .ok (.bipush 16, 2) := by decide +kernel
theorem dX11_drawn_135 : decode cX11_drawn 135 = .ok (.iushr, 1) := by decide +kernel
theorem dX11_drawn_136 : decode cX11_drawn 136 = .ok (.aload_n 0, 1) := by decide +kernel
theorem dX11_drawn_137 : decode cX11_drawn 137 = .ok (.getfield 75, 3) := by decide +kernel
theorem dX11_drawn_140 : decode cX11_drawn 140 = .ok (.irem, 1) := by decide +kernel
theorem dX11_drawn_141 : decode cX11_drawn 141 = .ok (.ishl, 1) := by decide +kernel
theorem dX11_drawn_142 : decode cX11_drawn 142 = .ok (.iconst (-1), 1) := by decide +kernel
theorem dX11_drawn_143 : decode cX11_drawn 143 = .ok (.ixor, 1) := by decide +kernel
theorem dX11_drawn_144 : decode cX11_drawn 144 = .ok (.iand, 1) := by decide +kernel
theorem dX11_drawn_145 : decode cX11_drawn 145 = .ok (.istore 10, 2) := by decide +kernel
theorem dX11_drawn_147 : decode cX11_drawn 147 = .ok (.iconst 0, 1) := by decide +kernel
theorem dX11_drawn_148 : decode cX11_drawn 148 = .ok (.istore 11, 2) := by decide +kernel
theorem dX11_drawn_150 : decode cX11_drawn 150 = .ok (.iload 11, 2) := by decide +kernel
theorem dX11_drawn_152 : decode cX11_drawn 152 = .ok (.aload_n 0, 1) := by decide +kernel
theorem dX11_drawn_153 : decode cX11_drawn 153 = .ok (.getfield 82, 3) := by decide +kernel
theorem dX11_drawn_156 : decode cX11_drawn 156 = .ok (.if_icmp .ge 69, 3) := by decide +kernel
theorem dX11_drawn_159 : decode cX11_drawn 159 = .ok (.iload 9, 2) := by decide +kernel
theorem dX11_drawn_161 : decode cX11_drawn 161 = .ok (.ifCond .ne 64, 3) := by decide +kernel
theorem dX11_drawn_164 : decode cX11_drawn 164 = .ok (.aload_n 0, 1) := by decide +kernel
theorem dX11_drawn_165 : decode cX11_drawn 165 = .ok (.iload 11, 2) := by decide +kernel
theorem dX11_drawn_167 : decode cX11_drawn 167 = .ok (.iload 8, 2) := by decide +kernel
theorem dX11_drawn_169 : decode cX11_drawn 169 = .ok (.invokevirtual 213, 3) := by decide +kernel
theorem dX11_drawn_172 : decode cX11_drawn 172 = .ok (.ifCond .eq 20, 3) := by decide +kernel
theorem dX11_drawn_175 : decode cX11_drawn 175 = .ok (.aload_n 0, 1) := by decide +kernel
theorem dX11_drawn_176 : decode cX11_drawn 176 = .ok (.iload 11, 2) := by decide +kernel
theorem dX11_drawn_178 : decode cX11_drawn 178 = .ok (.iload 8, 2) := by decide +kernel
theorem dX11_drawn_180 : decode cX11_drawn 180 = .ok (.iload 10, 2) := by decide +kernel
theorem dX11_drawn_182 : decode cX11_drawn 182 = .ok (.invokevirtual 216, 3) := by decide +kernel
theorem dX11_drawn_185 : decode cX11_drawn 185 = .ok (.ifCond .ne 7, 3) := by decide +kernel
theorem dX11_drawn_188 : decode cX11_drawn 188 = .ok (.iconst 1, 1) := by decide +kernel
theorem dX11_drawn_189 : decode cX11_drawn 189 = .ok (.goto 4, 3) := by decide +kernel
theorem dX11_drawn_192 : decode cX11_drawn 192 = .ok (.iconst 0, 1) := by decide +kernel
theorem dX11_drawn_193 : decode cX11_drawn 193 = .ok (.istore 12, 2) := by decide +kernel
theorem dX11_drawn_195 : decode cX11_drawn 195 = .ok (.iload 5, 2) := by decide +kernel
theorem dX11_drawn_197 : decode cX11_drawn 197 = .ok (.iload 12, 2) := by decide +kernel
theorem dX11_drawn_199 : decode cX11_drawn 199 = .ok (.iadd, 1) := by decide +kernel
theorem dX11_drawn_200 : decode cX11_drawn 200 = .ok (.istore 5, 2) := by decide +kernel
theorem dX11_drawn_202 : decode cX11_drawn 202 = .ok (.iload 6, 2) := by decide +kernel
theorem dX11_drawn_204 : decode cX11_drawn 204 = .ok (.iload 11, 2) := by decide +kernel
theorem dX11_drawn_206 : decode cX11_drawn 206 = .ok (.iload_n 3, 1) := by decide +kernel
theorem dX11_drawn_207 : decode cX11_drawn 207 = .ok (.if_icmp .ne 8, 3) := by decide +kernel
theorem dX11_drawn_210 : decode cX11_drawn 210 = .ok (.iload 12, 2) := by decide +kernel
theorem dX11_drawn_212 : decode cX11_drawn 212 = .ok (.goto 4, 3) := by decide +kernel
theorem dX11_drawn_215 : decode cX11_drawn 215 = .ok (.iconst 0, 1) := by decide +kernel
theorem dX11_drawn_216 : decode cX11_drawn 216 = .ok (.iadd, 1) := by decide +kernel
theorem dX11_drawn_217 : decode cX11_drawn 217 = .ok (.istore 6, 2) := by decide +kernel
theorem dX11_drawn_219 : decode cX11_drawn 219 = .ok (.iinc 11 1, 3) := by decide +kernel
theorem dX11_drawn_222 : decode cX11_drawn 222 = .ok (.goto (-72), 3) := by decide +kernel
theorem dX11_drawn_225 : decode cX11_drawn 225 = .ok (.iinc 8 1, 3) := by decide +kernel
theorem dX11_drawn_228 : decode cX11_drawn 228 = .ok (.goto (-154), 3) := by decide +kernel
theorem dX11_drawn_231 : decode cX11_drawn 231 = .ok (.iinc 7 1, 3) := by decide +kernel
theorem dX11_drawn_234 : decode cX11_drawn 234 = .ok (.goto (-172), 3) := by decide +kernel
theorem dX11_drawn_237 : decode cX11_drawn 237 = .ok (.iload_n 3, 1) := by decide +kernel
theorem dX11_drawn_238 : decode cX11_drawn 238 = .ok (.ifCond .ge 8, 3) := by decide +kernel
theorem dX11_drawn_241 : decode cX11_drawn 241 = .ok (.iload 5, 2) := by decide +kernel
theorem dX11_drawn_243 : decode cX11_drawn 243 = .ok (.goto 5, 3) := by decide +kernel
theorem dX11_drawn_246 : decode cX11_drawn 246 = .ok (.iload 6, 2) := by decide +kernel
theorem dX11_drawn_248 : decode cX11_drawn 248 = .ok (.ireturn, 1) := by decide +kernel
theorem dX11_passes_0 : decode cX11_passes 0 = .ok (.aload_n 0, 1) := by decide +kernel
theorem dX11_passes_1 : decode cX11_passes 1 = .ok (.aload_n 0, 1) := by decide +kernel
theorem dX11_passes_2 : decode cX11_passes 2 = .ok (.getfield 263, 3) := by decide +kernel
theorem dX11_passes_5 : decode cX11_passes 5 = .ok (.iconst 1, 1) := by decide +kernel
theorem dX11_passes_6 : decode cX11_passes 6 = .ok (.invokevirtual 266, 3) := by decide +kernel
theorem dX11_passes_9 : decode cX11_passes 9 = .ok (.invokestatic 232, 3) := by decide +kernel
theorem dX11_passes_12 : decode cX11_passes 12 = .ok (.istore_n 1, 1) := by decide +kernel
theorem dX11_passes_13 : decode cX11_passes 13 = .ok (.aload_n 0, 1) := by decide +kernel
theorem dX11_passes_14 : decode cX11_passes 14 = .ok (.aload_n 0, 1) := by decide +kernel
theorem dX11_passes_15 : decode cX11_passes 15 = .ok (.getfield 263, 3) := by decide +kernel
theorem dX11_passes_18 : decode cX11_passes 18 = .ok (.iconst 1, 1) := by decide +kernel
theorem dX11_passes_19 : decode cX11_passes 19 = .ok (.iadd, 1) := by decide +kernel
theorem dX11_passes_20 : decode cX11_passes 20 = .ok (.bipush 12, 2) := by decide +kernel
theorem dX11_passes_22 : decode cX11_passes 22 = .ok (.irem, 1) := by decide +kernel
theorem dX11_passes_23 : decode cX11_passes 23 = .ok (.putfield 263, 3) := by decide +kernel
theorem dX11_passes_26 : decode cX11_passes 26 = .ok (.aload_n 0, 1) := by decide +kernel
theorem dX11_passes_27 : decode cX11_passes 27 = .ok (.getfield 31, 3) := by decide +kernel
theorem dX11_passes_30 : decode cX11_passes 30 = .ok (.iconst 0, 1) := by decide +kernel
theorem dX11_passes_31 : decode cX11_passes 31 = .ok (.dup2, 1) := by decide +kernel
theorem dX11_passes_32 : decode cX11_passes 32 = .ok (.iaload, 1) := by decide +kernel
theorem dX11_passes_33 : decode cX11_passes 33 = .ok (.iconst 1, 1) := by decide +kernel
theorem dX11_passes_34 : decode cX11_passes 34 = .ok (.iadd, 1) := by decide +kernel
theorem dX11_passes_35 : decode cX11_passes 35 = .ok (.iastore, 1) := by decide +kernel
theorem dX11_passes_36 : decode cX11_passes 36 = .ok (.aload_n 0, 1) := by decide +kernel
theorem dX11_passes_37 : decode cX11_passes 37 = .ok (.getfield 31, 3) := by decide +kernel
theorem dX11_passes_40 : decode cX11_passes 40 = .ok (.iconst 3, 1) := by decide +kernel
theorem dX11_passes_41 : decode cX11_passes 41 = .ok (.dup2, 1) := by decide +kernel
theorem dX11_passes_42 : decode cX11_passes 42 = .ok (.iaload, 1) := by decide +kernel
theorem dX11_passes_43 : decode cX11_passes 43 = .ok (.aload_n 0, 1) := by decide +kernel
theorem dX11_passes_44 : decode cX11_passes 44 = .ok (.aload_n 0, 1) := by decide +kernel
theorem dX11_passes_45 : decode cX11_passes 45 = .ok (.invokevirtual 207, 3) := by decide +kernel
theorem dX11_passes_48 : decode cX11_passes 48 = .ok (.invokevirtual 229, 3) := by decide +kernel
theorem dX11_passes_51 : decode cX11_passes 51 = .ok (.iadd, 1) := by decide +kernel
theorem dX11_passes_52 : decode cX11_passes 52 = .ok (.iastore, 1) := by decide +kernel
theorem dX11_passes_53 : decode cX11_passes 53 = .ok (.aload_n 0, 1) := by decide +kernel
theorem dX11_passes_54 : decode cX11_passes 54 = .ok (.getfield 31, 3) := by decide +kernel
theorem dX11_passes_57 : decode cX11_passes 57 = .ok (.iconst 4, 1) := by decide +kernel
theorem dX11_passes_58 : decode cX11_passes 58 = .ok (.dup2, 1) := by decide +kernel
theorem dX11_passes_59 : decode cX11_passes 59 = .ok (.iaload, 1) := by decide +kernel
theorem dX11_passes_60 : decode cX11_passes 60 = .ok (.iload_n 1, 1) := by decide +kernel
theorem dX11_passes_61 : decode cX11_passes 61 = .ok (.iadd, 1) := by decide +kernel
theorem dX11_passes_62 : decode cX11_passes 62 = .ok (.iastore, 1) := by decide +kernel
theorem dX11_passes_63 : decode cX11_passes 63 = .ok (.iload_n 1, 1) := by decide +kernel
theorem dX11_passes_64 : decode cX11_passes 64 = .ok (.ireturn, 1) := by decide +kernel
theorem dX11_steps_0 : decode cX11_steps 0 = .ok (.aload_n 0, 1) := by decide +kernel
theorem dX11_steps_1 : decode cX11_steps 1 = .ok (.iload_n 1, 1) := by decide +kernel
theorem dX11_steps_2 : decode cX11_steps 2 = .ok (.i2l, 1) := by decide +kernel
theorem dX11_steps_3 : decode cX11_steps 3 = .ok (.invokevirtual 116, 3) := by decide +kernel
theorem dX11_steps_6 : decode cX11_steps 6 = .ok (.ifCond .eq 15, 3) := by decide +kernel
theorem dX11_steps_9 : decode cX11_steps 9 = .ok (.iload_n 2, 1) := by decide +kernel
theorem dX11_steps_10 : decode cX11_steps 10 = .ok (.i2l, 1) := by decide +kernel
theorem dX11_steps_11 : decode cX11_steps 11 = .ok (.lconst 0, 1) := by decide +kernel
theorem dX11_steps_12 : decode cX11_steps 12 = .ok (.ldc2_w 114, 3) := by decide +kernel
theorem dX11_steps_15 : decode cX11_steps 15 = .ok (.invokestatic 78, 3) := by decide +kernel
theorem dX11_steps_18 : decode cX11_steps 18 = .ok (.ifCond .ne 5, 3) := by decide +kernel
theorem dX11_steps_21 : decode cX11_steps 21 = .ok (.iconst (-1), 1) := by decide +kernel
theorem dX11_steps_22 : decode cX11_steps 22 = .ok (.ireturn, 1) := by decide +kernel
theorem dX11_steps_23 : decode cX11_steps 23 = .ok (.aload_n 0, 1) := by decide +kernel
theorem dX11_steps_24 : decode cX11_steps 24 = .ok (.getfield 9, 3) := by decide +kernel
theorem dX11_steps_27 : decode cX11_steps 27 = .ok (.iload_n 1, 1) := by decide +kernel
theorem dX11_steps_28 : decode cX11_steps 28 = .ok (.iaload, 1) := by decide +kernel
theorem dX11_steps_29 : decode cX11_steps 29 = .ok (.iload_n 2, 1) := by decide +kernel
theorem dX11_steps_30 : decode cX11_steps 30 = .ok (.invokestatic 242, 3) := by decide +kernel
theorem dX11_steps_33 : decode cX11_steps 33 = .ok (.istore_n 3, 1) := by decide +kernel
theorem dX11_steps_34 : decode cX11_steps 34 = .ok (.iload_n 3, 1) := by decide +kernel
theorem dX11_steps_35 : decode cX11_steps 35 = .ok (.ifCond .ge 6, 3) := by decide +kernel
theorem dX11_steps_38 : decode cX11_steps 38 = .ok (.bipush (-5), 2) := by decide +kernel
theorem dX11_steps_40 : decode cX11_steps 40 = .ok (.ireturn, 1) := by decide +kernel
theorem dX11_steps_41 : decode cX11_steps 41 = .ok (.aload_n 0, 1) := by decide +kernel
theorem dX11_steps_42 : decode cX11_steps 42 = .ok (.getfield 9, 3) := by decide +kernel
theorem dX11_steps_45 : decode cX11_steps 45 = .ok (.iload_n 1, 1) := by decide +kernel
theorem dX11_steps_46 : decode cX11_steps 46 = .ok (.iload_n 3, 1) := by decide +kernel
theorem dX11_steps_47 : decode cX11_steps 47 = .ok (.iastore, 1) := by decide +kernel
theorem dX11_steps_48 : decode cX11_steps 48 = .ok (.aload_n 0, 1) := by decide +kernel
theorem dX11_steps_49 : decode cX11_steps 49 = .ok (.getfield 31, 3) := by decide +kernel
theorem dX11_steps_52 : decode cX11_steps 52 = .ok (.iconst 1, 1) := by decide +kernel
theorem dX11_steps_53 : decode cX11_steps 53 = .ok (.dup2, 1) := by decide +kernel
theorem dX11_steps_54 : decode cX11_steps 54 = .ok (.iaload, 1) := by decide +kernel
theorem dX11_steps_55 : decode cX11_steps 55 = .ok (.iconst 1, 1) := by decide +kernel
theorem dX11_steps_56 : decode cX11_steps 56 = .ok (.iadd, 1) := by decide +kernel
theorem dX11_steps_57 : decode cX11_steps 57 = .ok (.iastore, 1) := by decide +kernel
theorem dX11_steps_58 : decode cX11_steps 58 = .ok (.iload_n 3, 1) := by decide +kernel
theorem dX11_steps_59 : decode cX11_steps 59 = .ok (.ireturn, 1) := by decide +kernel
theorem dX11_bird_0 : decode cX11_bird 0 = .ok (.aload_n 0, 1) := by decide +kernel
theorem dX11_bird_1 : decode cX11_bird 1 = .ok (.iload_n 1, 1) := by decide +kernel
theorem dX11_bird_2 : decode cX11_bird 2 = .ok (.i2l, 1) := by decide +kernel
theorem dX11_bird_3 : decode cX11_bird 3 = .ok (.invokevirtual 116, 3) := by decide +kernel
theorem dX11_bird_6 : decode cX11_bird 6 = .ok (.ifCond .ne 5, 3) := by decide +kernel
theorem dX11_bird_9 : decode cX11_bird 9 = .ok (.iconst (-1), 1) := by decide +kernel
theorem dX11_bird_10 : decode cX11_bird 10 = .ok (.ireturn, 1) := by decide +kernel
theorem dX11_bird_11 : decode cX11_bird 11 = .ok (.aload_n 0, 1) := by decide +kernel
theorem dX11_bird_12 : decode cX11_bird 12 = .ok (.getfield 9, 3) := by decide +kernel
theorem dX11_bird_15 : decode cX11_bird 15 = .ok (.bipush 16, 2) := by decide +kernel
theorem dX11_bird_17 : decode cX11_bird 17 = .ok (.iload_n 1, 1) := by decide +kernel
theorem dX11_bird_18 : decode cX11_bird 18 = .ok (.iadd, 1) := by decide +kernel
theorem dX11_bird_19 : decode cX11_bird 19 = .ok (.dup2, 1) := by decide +kernel
theorem dX11_bird_20 : decode cX11_bird 20 = .ok (.iaload, 1) := by decide +kernel
theorem dX11_bird_21 : decode cX11_bird 21 = .ok (.aload_n 0, 1) := by decide +kernel
theorem dX11_bird_22 : decode cX11_bird 22 = .ok (.getfield 9, 3) := by decide +kernel
theorem dX11_bird_25 : decode cX11_bird 25 = .ok (.bipush 16, 2) := by decide +kernel
theorem dX11_bird_27 : decode cX11_bird 27 = .ok (.iload_n 1, 1) := by decide +kernel
theorem dX11_bird_28 : decode cX11_bird 28 = .ok (.iadd, 1) := by decide +kernel
theorem dX11_bird_29 : decode cX11_bird 29 = .ok (.iaload, 1) := by decide +kernel
theorem dX11_bird_30 : decode cX11_bird 30 = .ok (.iconst 4, 1) := by decide +kernel
theorem dX11_bird_31 : decode cX11_bird 31 = .ok (.if_icmp .ge 7, 3) := by decide +kernel
theorem dX11_bird_34 : decode cX11_bird 34 = .ok (.iconst 1, 1) := by decide +kernel
theorem dX11_bird_35 : decode cX11_bird 35 = .ok (.goto 4, 3) := by decide +kernel
theorem dX11_bird_38 : decode cX11_bird 38 = .ok (.iconst 0, 1) := by decide +kernel
theorem dX11_bird_39 : decode cX11_bird 39 = .ok (.iadd, 1) := by decide +kernel
theorem dX11_bird_40 : decode cX11_bird 40 = .ok (.iastore, 1) := by decide +kernel
theorem dX11_bird_41 : decode cX11_bird 41 = .ok (.aload_n 0, 1) := by decide +kernel
theorem dX11_bird_42 : decode cX11_bird 42 = .ok (.getfield 31, 3) := by decide +kernel
theorem dX11_bird_45 : decode cX11_bird 45 = .ok (.iconst 2, 1) := by decide +kernel
theorem dX11_bird_46 : decode cX11_bird 46 = .ok (.dup2, 1) := by decide +kernel
theorem dX11_bird_47 : decode cX11_bird 47 = .ok (.iaload, 1) := by decide +kernel
theorem dX11_bird_48 : decode cX11_bird 48 = .ok (.iconst 1, 1) := by decide +kernel
theorem dX11_bird_49 : decode cX11_bird 49 = .ok (.iadd, 1) := by decide +kernel
theorem dX11_bird_50 : decode cX11_bird 50 = .ok (.iastore, 1) := by decide +kernel
theorem dX11_bird_51 : decode cX11_bird 51 = .ok (.aload_n 0, 1) := by decide +kernel
theorem dX11_bird_52 : decode cX11_bird 52 = .ok (.getfield 9, 3) := by decide +kernel
theorem dX11_bird_55 : decode cX11_bird 55 = .ok (.bipush 16, 2) := by decide +kernel
theorem dX11_bird_57 : decode cX11_bird 57 = .ok (.iload_n 1, 1) := by decide +kernel
theorem dX11_bird_58 : decode cX11_bird 58 = .ok (.iadd, 1) := by decide +kernel
theorem dX11_bird_59 : decode cX11_bird 59 = .ok (.iaload, 1) := by decide +kernel
theorem dX11_bird_60 : decode cX11_bird 60 = .ok (.ireturn, 1) := by decide +kernel
theorem dX11_goes_0 : decode cX11_goes 0 = .ok (.aload_n 0, 1) := by decide +kernel
theorem dX11_goes_1 : decode cX11_goes 1 = .ok (.iload_n 1, 1) := by decide +kernel
theorem dX11_goes_2 : decode cX11_goes 2 = .ok (.i2l, 1) := by decide +kernel
theorem dX11_goes_3 : decode cX11_goes 3 = .ok (.invokevirtual 121, 3) := by decide +kernel
theorem dX11_goes_6 : decode cX11_goes 6 = .ok (.ifCond .eq 11, 3) := by decide +kernel
theorem dX11_goes_9 : decode cX11_goes 9 = .ok (.iload_n 2, 1) := by decide +kernel
theorem dX11_goes_10 : decode cX11_goes 10 = .ok (.i2l, 1) := by decide +kernel
theorem dX11_goes_11 : decode cX11_goes 11 = .ok (.invokestatic 89, 3) := by decide +kernel
theorem dX11_goes_14 : decode cX11_goes 14 = .ok (.ifCond .ne 5, 3) := by decide +kernel
theorem dX11_goes_17 : decode cX11_goes 17 = .ok (.iconst (-1), 1) := by decide +kernel
theorem dX11_goes_18 : decode cX11_goes 18 = .ok (.ireturn, 1) := by decide +kernel
theorem dX11_goes_19 : decode cX11_goes 19 = .ok (.aload_n 0, 1) := by decide +kernel
theorem dX11_goes_20 : decode cX11_goes 20 = .ok (.getfield 9, 3) := by decide +kernel
theorem dX11_goes_23 : decode cX11_goes 23 = .ok (.bipush 32, 2) := by decide +kernel
theorem dX11_goes_25 : decode cX11_goes 25 = .ok (.iload_n 1, 1) := by decide +kernel
theorem dX11_goes_26 : decode cX11_goes 26 = .ok (.iadd, 1) := by decide +kernel
theorem dX11_goes_27 : decode cX11_goes 27 = .ok (.iaload, 1) := by decide +kernel
theorem dX11_goes_28 : decode cX11_goes 28 = .ok (.istore_n 3, 1) := by decide +kernel
theorem dX11_goes_29 : decode cX11_goes 29 = .ok (.aload_n 0, 1) := by decide +kernel
theorem dX11_goes_30 : decode cX11_goes 30 = .ok (.getfield 9, 3) := by decide +kernel
theorem dX11_goes_33 : decode cX11_goes 33 = .ok (.bipush 32, 2) := by decide +kernel
theorem dX11_goes_35 : decode cX11_goes 35 = .ok (.iload_n 1, 1) := by decide +kernel
theorem dX11_goes_36 : decode cX11_goes 36 = .ok (.iadd, 1) := by decide +kernel
theorem dX11_goes_37 : decode cX11_goes 37 = .ok (.iload_n 2, 1) := by decide +kernel
theorem dX11_goes_38 : decode cX11_goes 38 = .ok (.iastore, 1) := by decide +kernel
theorem dX11_goes_39 : decode cX11_goes 39 = .ok (.iload_n 3, 1) := by decide +kernel
theorem dX11_goes_40 : decode cX11_goes 40 = .ok (.ireturn, 1) := by decide +kernel
theorem dX11_led_0 : decode cX11_led 0 = .ok (.iload_n 1, 1) := by decide +kernel
theorem dX11_led_1 : decode cX11_led 1 = .ok (.i2l, 1) := by decide +kernel
theorem dX11_led_2 : decode cX11_led 2 = .ok (.lconst 0, 1) := by decide +kernel
theorem dX11_led_3 : decode cX11_led 3 = .ok (.ldc2_w 119, 3) := by decide +kernel
theorem dX11_led_6 : decode cX11_led 6 = .ok (.invokestatic 78, 3) := by decide +kernel
theorem dX11_led_9 : decode cX11_led 9 = .ok (.ifCond .eq 12, 3) := by decide +kernel
theorem dX11_led_12 : decode cX11_led 12 = .ok (.aload_n 0, 1) := by decide +kernel
theorem dX11_led_13 : decode cX11_led 13 = .ok (.getfield 31, 3) := by decide +kernel
theorem dX11_led_16 : decode cX11_led 16 = .ok (.iload_n 1, 1) := by decide +kernel
theorem dX11_led_17 : decode cX11_led 17 = .ok (.iaload, 1) := by decide +kernel
theorem dX11_led_18 : decode cX11_led 18 = .ok (.goto 16, 3) := by decide +kernel
theorem dX11_led_21 : decode cX11_led 21 = .ok (.iload_n 1, 1) := by decide +kernel
theorem dX11_led_22 : decode cX11_led 22 = .ok (.iconst 5, 1) := by decide +kernel
theorem dX11_led_23 : decode cX11_led 23 = .ok (.if_icmp .ne 10, 3) := by decide +kernel
theorem dX11_led_26 : decode cX11_led 26 = .ok (.aload_n 0, 1) := by decide +kernel
theorem dX11_led_27 : decode cX11_led 27 = .ok (.getfield 263, 3) := by decide +kernel
theorem dX11_led_30 : decode cX11_led 30 = .ok (.goto 4, 3) := by decide +kernel
theorem dX11_led_33 : decode cX11_led 33 = .ok (.iconst (-1), 1) := by decide +kernel
theorem dX11_led_34 : decode cX11_led 34 = .ok (.ireturn, 1) := by decide +kernel
theorem dX11_image_0 : decode cX11_image 0 = .ok (.aload_n 0, 1) := by decide +kernel
theorem dX11_image_1 : decode cX11_image 1 = .ok (.iconst 1, 1) := by decide +kernel
theorem dX11_image_2 : decode cX11_image 2 = .ok (.putfield 268, 3) := by decide +kernel
theorem dX11_image_5 : decode cX11_image 5 = .ok (.aload_n 0, 1) := by decide +kernel
theorem dX11_image_6 : decode cX11_image 6 = .ok (.aload_n 0, 1) := by decide +kernel
theorem dX11_image_7 : decode cX11_image 7 = .ok (.getfield 75, 3) := by decide +kernel
theorem dX11_image_10 : decode cX11_image 10 = .ok (.putfield 272, 3) := by decide +kernel
theorem dX11_image_13 : decode cX11_image 13 = .ok (.aload_n 0, 1) := by decide +kernel
theorem dX11_image_14 : decode cX11_image 14 = .ok (.aload_n 0, 1) := by decide +kernel
theorem dX11_image_15 : decode cX11_image 15 = .ok (.getfield 82, 3) := by decide +kernel
theorem dX11_image_18 : decode cX11_image 18 = .ok (.putfield 275, 3) := by decide +kernel
theorem dX11_image_21 : decode cX11_image 21 = .ok (.aload_n 0, 1) := by decide +kernel
theorem dX11_image_22 : decode cX11_image 22 = .ok (.aload_n 0, 1) := by decide +kernel
theorem dX11_image_23 : decode cX11_image 23 = .ok (.getfield 263, 3) := by decide +kernel
theorem dX11_image_26 : decode cX11_image 26 = .ok (.putfield 278, 3) := by decide +kernel
theorem dX11_image_29 : decode cX11_image 29 = .ok (.iconst 0, 1) := by decide +kernel
theorem dX11_image_30 : decode cX11_image 30 = .ok (.istore_n 1, 1) := by decide +kernel
theorem dX11_image_31 : decode cX11_image 31 = .ok (.iload_n 1, 1) := by decide +kernel
theorem dX11_image_32 : decode cX11_image 32 = .ok (.aload_n 0, 1) := by decide +kernel
theorem dX11_image_33 : decode cX11_image 33 = .ok (.getfield 75, 3) := by decide +kernel
theorem dX11_image_36 : decode cX11_image 36 = .ok (.if_icmp .ge 36, 3) := by decide +kernel
theorem dX11_image_39 : decode cX11_image 39 = .ok (.aload_n 0, 1) := by decide +kernel
theorem dX11_image_40 : decode cX11_image 40 = .ok (.getfield 34, 3) := by decide +kernel
theorem dX11_image_43 : decode cX11_image 43 = .ok (.iload_n 1, 1) := by decide +kernel
theorem dX11_image_44 : decode cX11_image 44 = .ok (.aload_n 0, 1) := by decide +kernel
theorem dX11_image_45 : decode cX11_image 45 = .ok (.getfield 9, 3) := by decide +kernel
theorem dX11_image_48 : decode cX11_image 48 = .ok (.iload_n 1, 1) := by decide +kernel
theorem dX11_image_49 : decode cX11_image 49 = .ok (.iaload, 1) := by decide +kernel
theorem dX11_image_50 : decode cX11_image 50 = .ok (.iastore, 1) := by decide +kernel
theorem dX11_image_51 : decode cX11_image 51 = .ok (.aload_n 0, 1) := by decide +kernel
theorem dX11_image_52 : decode cX11_image 52 = .ok (.getfield 37, 3) := by decide +kernel
theorem dX11_image_55 : decode cX11_image 55 = .ok (.iload_n 1, 1) := by decide +kernel
theorem dX11_image_56 : decode cX11_image 56 = .ok (.aload_n 0, 1) := by decide +kernel
theorem dX11_image_57 : decode cX11_image 57 = .ok (.getfield 9, 3) := by decide +kernel
theorem dX11_image_60 : decode cX11_image 60 = .ok (.bipush 16, 2) := by decide +kernel
theorem dX11_image_62 : decode cX11_image 62 = .ok (.iload_n 1, 1) := by decide +kernel
theorem dX11_image_63 : decode cX11_image 63 = .ok (.iadd, 1) := by decide +kernel
theorem dX11_image_64 : decode cX11_image 64 = .ok (.iaload, 1) := by decide +kernel
theorem dX11_image_65 : decode cX11_image 65 = .ok (.iastore, 1) := by decide +kernel
theorem dX11_image_66 : decode cX11_image 66 = .ok (.iinc 1 1, 3) := by decide +kernel
theorem dX11_image_69 : decode cX11_image 69 = .ok (.goto (-38), 3) := by decide +kernel
theorem dX11_image_72 : decode cX11_image 72 = .ok (.iconst 0, 1) := by decide +kernel
theorem dX11_image_73 : decode cX11_image 73 = .ok (.istore_n 1, 1) := by decide +kernel
theorem dX11_image_74 : decode cX11_image 74 = .ok (.iload_n 1, 1) := by decide +kernel
theorem dX11_image_75 : decode cX11_image 75 = .ok (.aload_n 0, 1) := by decide +kernel
theorem dX11_image_76 : decode cX11_image 76 = .ok (.getfield 82, 3) := by decide +kernel
theorem dX11_image_79 : decode cX11_image 79 = .ok (.if_icmp .ge 24, 3) := by decide +kernel
theorem dX11_image_82 : decode cX11_image 82 = .ok (.aload_n 0, 1) := by decide +kernel
theorem dX11_image_83 : decode cX11_image 83 = .ok (.getfield 40, 3) := by decide +kernel
theorem dX11_image_86 : decode cX11_image 86 = .ok (.iload_n 1, 1) := by decide +kernel
theorem dX11_image_87 : decode cX11_image 87 = .ok (.aload_n 0, 1) := by decide +kernel
theorem dX11_image_88 : decode cX11_image 88 = .ok (.getfield 9, 3) := by decide +kernel
theorem dX11_image_91 : decode cX11_image 91 = .ok (.bipush 32, 2) := by decide +kernel
theorem dX11_image_93 : decode cX11_image 93 = .ok (.iload_n 1, 1) := by decide +kernel
theorem dX11_image_94 : decode cX11_image 94 = .ok (.iadd, 1) := by decide +kernel
theorem dX11_image_95 : decode cX11_image 95 = .ok (.iaload, 1) := by decide +kernel
theorem dX11_image_96 : decode cX11_image 96 = .ok (.iastore, 1) := by decide +kernel
theorem dX11_image_97 : decode cX11_image 97 = .ok (.iinc 1 1, 3) := by decide +kernel
theorem dX11_image_100 : decode cX11_image 100 = .ok (.goto (-26), 3) := by decide +kernel
theorem dX11_image_103 : decode cX11_image 103 = .ok (.iconst 0, 1) := by decide +kernel
theorem dX11_image_104 : decode cX11_image 104 = .ok (.istore_n 1, 1) := by decide +kernel
theorem dX11_image_105 : decode cX11_image 105 = .ok (.iload_n 1, 1) := by decide +kernel
theorem dX11_image_106 : decode cX11_image 106 = .ok (.iconst 5, 1) := by decide +kernel
theorem dX11_image_107 : decode cX11_image 107 = .ok (.if_icmp .ge 21, 3) := by decide +kernel
theorem dX11_image_110 : decode cX11_image 110 = .ok (.aload_n 0, 1) := by decide +kernel
