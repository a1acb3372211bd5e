theorem dX11_image_111 : decode cX11_image 111 = .ok (.getfield 43, 3) := by decide +kernel
theorem dX11_image_114 : decode cX11_image 114 = .ok (.iload_n 1, 1) := by decide +kernel
theorem dX11_image_115 : decode cX11_image 115 = .ok (.aload_n 0, 1) := by decide +kernel
theorem dX11_image_116 : decode cX11_image 116 = .ok (.getfield 31, 3) := by decide +kernel
theorem dX11_image_119 : decode cX11_image 119 = .ok (.iload_n 1, 1) := by decide +kernel
theorem dX11_image_120 : decode cX11_image 120 = .ok (.iaload, 1) := by decide +kernel
theorem dX11_image_121 : decode cX11_image 121 = .ok (.iastore, 1) := by decide +kernel
theorem dX11_image_122 : decode cX11_image 122 = .ok (.iinc 1 1, 3) := by decide +kernel
theorem dX11_image_125 : decode cX11_image 125 = .ok (.goto (-20), 3) := by decide +kernel
theorem dX11_image_128 : decode cX11_image 128 = .ok (.aload_n 0, 1) := by decide +kernel
theorem dX11_image_129 : decode cX11_image 129 = .ok (.getfield 31, 3) := by decide +kernel
theorem dX11_image_132 : decode cX11_image 132 = .ok (.iconst 0, 1) := by decide +kernel
theorem dX11_image_133 : decode cX11_image 133 = .ok (.iaload, 1) := by decide +kernel
theorem dX11_image_134 : decode cX11_image 134 = .ok (.ireturn, 1) := by decide +kernel
theorem dX11_back_0 : decode cX11_back 0 = .ok (.aload_n 0, 1) := by decide +kernel
theorem dX11_back_1 : decode cX11_back 1 = .ok (.getfield 268, 3) := by decide +kernel
theorem dX11_back_4 : decode cX11_back 4 = .ok (.ifCond .ne 6, 3) := by decide +kernel
theorem dX11_back_7 : decode cX11_back 7 = .ok (.bipush (-5), 2) := by decide +kernel
theorem dX11_back_9 : decode cX11_back 9 = .ok (.ireturn, 1) := by decide +kernel
theorem dX11_back_10 : decode cX11_back 10 = .ok (.iconst 0, 1) := by decide +kernel
theorem dX11_back_11 : decode cX11_back 11 = .ok (.istore_n 1, 1) := by decide +kernel
theorem dX11_back_12 : decode cX11_back 12 = .ok (.iload_n 1, 1) := by decide +kernel
theorem dX11_back_13 : decode cX11_back 13 = .ok (.aload_n 0, 1) := by decide +kernel
theorem dX11_back_14 : decode cX11_back 14 = .ok (.getfield 272, 3) := by decide +kernel
theorem dX11_back_17 : decode cX11_back 17 = .ok (.if_icmp .ge 36, 3) := by decide +kernel
theorem dX11_back_20 : decode cX11_back 20 = .ok (.aload_n 0, 1) := by decide +kernel
theorem dX11_back_21 : decode cX11_back 21 = .ok (.getfield 9, 3) := by decide +kernel
theorem dX11_back_24 : decode cX11_back 24 = .ok (.iload_n 1, 1) := by decide +kernel
theorem dX11_back_25 : decode cX11_back 25 = .ok (.aload_n 0, 1) := by decide +kernel
theorem dX11_back_26 : decode cX11_back 26 = .ok (.getfield 34, 3) := by decide +kernel
theorem dX11_back_29 : decode cX11_back 29 = .ok (.iload_n 1, 1) := by decide +kernel
theorem dX11_back_30 : decode cX11_back 30 = .ok (.iaload, 1) := by decide +kernel
theorem dX11_back_31 : decode cX11_back 31 = .ok (.iastore, 1) := by decide +kernel
theorem dX11_back_32 : decode cX11_back 32 = .ok (.aload_n 0, 1) := by decide +kernel
theorem dX11_back_33 : decode cX11_back 33 = .ok (.getfield 9, 3) := by decide +kernel
theorem dX11_back_36 : decode cX11_back 36 = .ok (.bipush 16, 2) := by decide +kernel
theorem dX11_back_38 : decode cX11_back 38 = .ok (.iload_n 1, 1) := by decide +kernel
theorem dX11_back_39 : decode cX11_back 39 = .ok (.iadd, 1) := by decide +kernel
theorem dX11_back_40 : decode cX11_back 40 = .ok (.aload_n 0, 1) := by decide +kernel
theorem dX11_back_41 : decode cX11_back 41 = .ok (.getfield 37, 3) := by decide +kernel
theorem dX11_back_44 : decode cX11_back 44 = .ok (.iload_n 1, 1) := by decide +kernel
theorem dX11_back_45 : decode cX11_back 45 = .ok (.iaload, 1) := by decide +kernel
theorem dX11_back_46 : decode cX11_back 46 = .ok (.iastore, 1) := by decide +kernel
theorem dX11_back_47 : decode cX11_back 47 = .ok (.iinc 1 1, 3) := by decide +kernel
theorem dX11_back_50 : decode cX11_back 50 = .ok (.goto (-38), 3) := by decide +kernel
theorem dX11_back_53 : decode cX11_back 53 = .ok (.iconst 0, 1) := by decide +kernel
theorem dX11_back_54 : decode cX11_back 54 = .ok (.istore_n 1, 1) := by decide +kernel
theorem dX11_back_55 : decode cX11_back 55 = .ok (.iload_n 1, 1) := by decide +kernel
theorem dX11_back_56 : decode cX11_back 56 = .ok (.aload_n 0, 1) := by decide +kernel
theorem dX11_back_57 : decode cX11_back 57 = .ok (.getfield 275, 3) := by decide +kernel
theorem dX11_back_60 : decode cX11_back 60 = .ok (.if_icmp .ge 24, 3) := by decide +kernel
theorem dX11_back_63 : decode cX11_back 63 = .ok (.aload_n 0, 1) := by decide +kernel
theorem dX11_back_64 : decode cX11_back 64 = .ok (.getfield 9, 3) := by decide +kernel
theorem dX11_back_67 : decode cX11_back 67 = .ok (.bipush 32, 2) := by decide +kernel
theorem dX11_back_69 : decode cX11_back 69 = .ok (.iload_n 1, 1) := by decide +kernel
theorem dX11_back_70 : decode cX11_back 70 = .ok (.iadd, 1) := by decide +kernel
theorem dX11_back_71 : decode cX11_back 71 = .ok (.aload_n 0, 1) := by decide +kernel
theorem dX11_back_72 : decode cX11_back 72 = .ok (.getfield 40, 3) := by decide +kernel
theorem dX11_back_75 : decode cX11_back 75 = .ok (.iload_n 1, 1) := by decide +kernel
theorem dX11_back_76 : decode cX11_back 76 = .ok (.iaload, 1) := by decide +kernel
theorem dX11_back_77 : decode cX11_back 77 = .ok (.iastore, 1) := by decide +kernel
theorem dX11_back_78 : decode cX11_back 78 = .ok (.iinc 1 1, 3) := by decide +kernel
theorem dX11_back_81 : decode cX11_back 81 = .ok (.goto (-26), 3) := by decide +kernel
theorem dX11_back_84 : decode cX11_back 84 = .ok (.aload_n 0, 1) := by decide +kernel
theorem dX11_back_85 : decode cX11_back 85 = .ok (.aload_n 0, 1) := by decide +kernel
theorem dX11_back_86 : decode cX11_back 86 = .ok (.getfield 278, 3) := by decide +kernel
theorem dX11_back_89 : decode cX11_back 89 = .ok (.putfield 263, 3) := by decide +kernel
theorem dX11_back_92 : decode cX11_back 92 = .ok (.iconst 0, 1) := by decide +kernel
theorem dX11_back_93 : decode cX11_back 93 = .ok (.istore_n 1, 1) := by decide +kernel
theorem dX11_back_94 : decode cX11_back 94 = .ok (.iload_n 1, 1) := by decide +kernel
theorem dX11_back_95 : decode cX11_back 95 = .ok (.iconst 5, 1) := by decide +kernel
theorem dX11_back_96 : decode cX11_back 96 = .ok (.if_icmp .ge 21, 3) := by decide +kernel
theorem dX11_back_99 : decode cX11_back 99 = .ok (.aload_n 0, 1) := by decide +kernel
theorem dX11_back_100 : decode cX11_back 100 = .ok (.getfield 31, 3) := by decide +kernel
theorem dX11_back_103 : decode cX11_back 103 = .ok (.iload_n 1, 1) := by decide +kernel
theorem dX11_back_104 : decode cX11_back 104 = .ok (.aload_n 0, 1) := by decide +kernel
theorem dX11_back_105 : decode cX11_back 105 = .ok (.getfield 43, 3) := by decide +kernel
theorem dX11_back_108 : decode cX11_back 108 = .ok (.iload_n 1, 1) := by decide +kernel
theorem dX11_back_109 : decode cX11_back 109 = .ok (.iaload, 1) := by decide +kernel
theorem dX11_back_110 : decode cX11_back 110 = .ok (.iastore, 1) := by decide +kernel
theorem dX11_back_111 : decode cX11_back 111 = .ok (.iinc 1 1, 3) := by decide +kernel
theorem dX11_back_114 : decode cX11_back 114 = .ok (.goto (-20), 3) := by decide +kernel
theorem dX11_back_117 : decode cX11_back 117 = .ok (.aload_n 0, 1) := by decide +kernel
theorem dX11_back_118 : decode cX11_back 118 = .ok (.getfield 31, 3) := by decide +kernel
theorem dX11_back_121 : decode cX11_back 121 = .ok (.iconst 0, 1) := by decide +kernel
theorem dX11_back_122 : decode cX11_back 122 = .ok (.iaload, 1) := by decide +kernel
theorem dX11_back_123 : decode cX11_back 123 = .ok (.ireturn, 1) := by decide +kernel
theorem dX11_isBody_0 : decode cX11_isBody 0 = .ok (.iload_n 1, 1) := by decide +kernel
theorem dX11_isBody_1 : decode cX11_isBody 1 = .ok (.i2l, 1) := by decide +kernel
theorem dX11_isBody_2 : decode cX11_isBody 2 = .ok (.lconst 0, 1) := by decide +kernel
theorem dX11_isBody_3 : decode cX11_isBody 3 = .ok (.aload_n 0, 1) := by decide +kernel
theorem dX11_isBody_4 : decode cX11_isBody 4 = .ok (.getfield 281, 3) := by decide +kernel
theorem dX11_isBody_7 : decode cX11_isBody 7 = .ok (.iconst 1, 1) := by decide +kernel
theorem dX11_isBody_8 : decode cX11_isBody 8 = .ok (.isub, 1) := by decide +kernel
theorem dX11_isBody_9 : decode cX11_isBody 9 = .ok (.i2l, 1) := by decide +kernel
theorem dX11_isBody_10 : decode cX11_isBody 10 = .ok (.invokestatic 78, 3) := by decide +kernel
theorem dX11_isBody_13 : decode cX11_isBody 13 = .ok (.ireturn, 1) := by decide +kernel
theorem dX11_kindOf_0 : decode cX11_kindOf 0 = .ok (.aload_n 0, 1) := by decide +kernel
theorem dX11_kindOf_1 : decode cX11_kindOf 1 = .ok (.getfield 46, 3) := by decide +kernel
theorem dX11_kindOf_4 : decode cX11_kindOf 4 = .ok (.iload_n 1, 1) := by decide +kernel
theorem dX11_kindOf_5 : decode cX11_kindOf 5 = .ok (.iaload, 1) := by decide +kernel
theorem dX11_kindOf_6 : decode cX11_kindOf 6 = .ok (.ireturn, 1) := by decide +kernel
theorem dX11_body_0 : decode cX11_body 0 = .ok (.iload_n 1, 1) := by decide +kernel
theorem dX11_body_1 : decode cX11_body 1 = .ok (.i2l, 1) := by decide +kernel
theorem dX11_body_2 : decode cX11_body 2 = .ok (.lconst 0, 1) := by decide +kernel
theorem dX11_body_3 : decode cX11_body 3 = .ok (.ldc2_w 284, 3) := by decide +kernel
theorem dX11_body_6 : decode cX11_body 6 = .ok (.invokestatic 78, 3) := by decide +kernel
theorem dX11_body_9 : decode cX11_body 9 = .ok (.ifCond .ne 5, 3) := by decide +kernel
theorem dX11_body_12 : decode cX11_body 12 = .ok (.iconst (-1), 1) := by decide +kernel
theorem dX11_body_13 : decode cX11_body 13 = .ok (.ireturn, 1) := by decide +kernel
theorem dX11_body_14 : decode cX11_body 14 = .ok (.aload_n 0, 1) := by decide +kernel
theorem dX11_body_15 : decode cX11_body 15 = .ok (.getfield 281, 3) := by decide +kernel
theorem dX11_body_18 : decode cX11_body 18 = .ok (.bipush 50, 2) := by decide +kernel
theorem dX11_body_20 : decode cX11_body 20 = .ok (.if_icmp .ne 6, 3) := by decide +kernel
theorem dX11_body_23 : decode cX11_body 23 = .ok (.bipush (-3), 2) := by decide +kernel
theorem dX11_body_25 : decode cX11_body 25 = .ok (.ireturn, 1) := by decide +kernel
theorem dX11_body_26 : decode cX11_body 26 = .ok (.aload_n 0, 1) := by decide +kernel
theorem dX11_body_27 : decode cX11_body 27 = .ok (.getfield 46, 3) := by decide +kernel
theorem dX11_body_30 : decode cX11_body 30 = .ok (.aload_n 0, 1) := by decide +kernel
theorem dX11_body_31 : decode cX11_body 31 = .ok (.getfield 281, 3) := by decide +kernel
theorem dX11_body_34 : decode cX11_body 34 = .ok (.iload_n 1, 1) := by decide +kernel
theorem dX11_body_35 : decode cX11_body 35 = .ok (.iastore, 1) := by decide +kernel
theorem dX11_body_36 : decode cX11_body 36 = .ok (.aload_n 0, 1) := by decide +kernel
theorem dX11_body_37 : decode cX11_body 37 = .ok (.dup, 1) := by decide +kernel
theorem dX11_body_38 : decode cX11_body 38 = .ok (.getfield 281, 3) := by decide +kernel
theorem dX11_body_41 : decode cX11_body 41 = .ok (.iconst 1, 1) := by decide +kernel
theorem dX11_body_42 : decode cX11_body 42 = .ok (.iadd, 1) := by decide +kernel
theorem dX11_body_43 : decode cX11_body 43 = .ok (.putfield 281, 3) := by decide +kernel
theorem dX11_body_46 : decode cX11_body 46 = .ok (.aload_n 0, 1) := by decide +kernel
theorem dX11_body_47 : decode cX11_body 47 = .ok (.getfield 281, 3) := by decide +kernel
theorem dX11_body_50 : decode cX11_body 50 = .ok (.iconst 1, 1) := by decide +kernel
theorem dX11_body_51 : decode cX11_body 51 = .ok (.isub, 1) := by decide +kernel
theorem dX11_body_52 : decode cX11_body 52 = .ok (.ireturn, 1) := by decide +kernel
theorem dX11_above_0 : decode cX11_above 0 = .ok (.iload_n 0, 1) := by decide +kernel
theorem dX11_above_1 : decode cX11_above 1 = .ok (.iconst 3, 1) := by decide +kernel
theorem dX11_above_2 : decode cX11_above 2 = .ok (.if_icmp .ne 7, 3) := by decide +kernel
theorem dX11_above_5 : decode cX11_above 5 = .ok (.iconst 2, 1) := by decide +kernel
theorem dX11_above_6 : decode cX11_above 6 = .ok (.goto 32, 3) := by decide +kernel
theorem dX11_above_9 : decode cX11_above 9 = .ok (.iload_n 0, 1) := by decide +kernel
theorem dX11_above_10 : decode cX11_above 10 = .ok (.iconst 4, 1) := by decide +kernel
theorem dX11_above_11 : decode cX11_above 11 = .ok (.if_icmp .ne 7, 3) := by decide +kernel
theorem dX11_above_14 : decode cX11_above 14 = .ok (.iconst 1, 1) := by decide +kernel
theorem dX11_above_15 : decode cX11_above 15 = .ok (.goto 23, 3) := by decide +kernel
theorem dX11_above_18 : decode cX11_above 18 = .ok (.iload_n 0, 1) := by decide +kernel
theorem dX11_above_19 : decode cX11_above 19 = .ok (.iconst 5, 1) := by decide +kernel
theorem dX11_above_20 : decode cX11_above 20 = .ok (.if_icmp .ne 7, 3) := by decide +kernel
theorem dX11_above_23 : decode cX11_above 23 = .ok (.iconst 3, 1) := by decide +kernel
theorem dX11_above_24 : decode cX11_above 24 = .ok (.goto 14, 3) := by decide +kernel
theorem dX11_above_27 : decode cX11_above 27 = .ok (.iload_n 0, 1) := by decide +kernel
theorem dX11_above_28 : decode cX11_above 28 = .ok (.bipush 7, 2) := by decide +kernel
theorem dX11_above_30 : decode cX11_above 30 = .ok (.if_icmp .ne 7, 3) := by decide +kernel
theorem dX11_above_33 : decode cX11_above 33 = .ok (.iconst 4, 1) := by decide +kernel
theorem dX11_above_34 : decode cX11_above 34 = .ok (.goto 4, 3) := by decide +kernel
theorem dX11_above_37 : decode cX11_above 37 = .ok (.iconst 0, 1) := by decide +kernel
theorem dX11_above_38 : decode cX11_above 38 = .ok (.ireturn, 1) := by decide +kernel
theorem dX11_runs_0 : decode cX11_runs 0 = .ok (.aload_n 0, 1) := by decide +kernel
theorem dX11_runs_1 : decode cX11_runs 1 = .ok (.getfield 286, 3) := by decide +kernel
theorem dX11_runs_4 : decode cX11_runs 4 = .ok (.bipush 24, 2) := by decide +kernel
theorem dX11_runs_6 : decode cX11_runs 6 = .ok (.if_icmp .ge 13, 3) := by decide +kernel
theorem dX11_runs_9 : decode cX11_runs 9 = .ok (.aload_n 0, 1) := by decide +kernel
theorem dX11_runs_10 : decode cX11_runs 10 = .ok (.getfield 49, 3) := by decide +kernel
theorem dX11_runs_13 : decode cX11_runs 13 = .ok (.aload_n 0, 1) := by decide +kernel
theorem dX11_runs_14 : decode cX11_runs 14 = .ok (.getfield 286, 3) := by decide +kernel
theorem dX11_runs_17 : decode cX11_runs 17 = .ok (.iload_n 1, 1) := by decide +kernel
theorem dX11_runs_18 : decode cX11_runs 18 = .ok (.iastore, 1) := by decide +kernel
theorem dX11_runs_19 : decode cX11_runs 19 = .ok (.aload_n 0, 1) := by decide +kernel
theorem dX11_runs_20 : decode cX11_runs 20 = .ok (.dup, 1) := by decide +kernel
theorem dX11_runs_21 : decode cX11_runs 21 = .ok (.getfield 286, 3) := by decide +kernel
theorem dX11_runs_24 : decode cX11_runs 24 = .ok (.iconst 1, 1) := by decide +kernel
theorem dX11_runs_25 : decode cX11_runs 25 = .ok (.iadd, 1) := by decide +kernel
theorem dX11_runs_26 : decode cX11_runs 26 = .ok (.putfield 286, 3) := by decide +kernel
theorem dX11_runs_29 : decode cX11_runs 29 = .ok (.return_, 1) := by decide +kernel
theorem dX11_standsAs_0 : decode cX11_standsAs 0 = .ok (.iload_n 1, 1) := by decide +kernel
theorem dX11_standsAs_1 : decode cX11_standsAs 1 = .ok (.iconst 1, 1) := by decide +kernel
theorem dX11_standsAs_2 : decode cX11_standsAs 2 = .ok (.if_icmp .eq 14, 3) := by decide +kernel
theorem dX11_standsAs_5 : decode cX11_standsAs 5 = .ok (.iload_n 1, 1) := by decide +kernel
theorem dX11_standsAs_6 : decode cX11_standsAs 6 = .ok (.iconst 4, 1) := by decide +kernel
theorem dX11_standsAs_7 : decode cX11_standsAs 7 = .ok (.if_icmp .eq 9, 3) := by decide +kernel
theorem dX11_standsAs_10 : decode cX11_standsAs 10 = .ok (.iload_n 1, 1) := by decide +kernel
theorem dX11_standsAs_11 : decode cX11_standsAs 11 = .ok (.bipush 7, 2) := by decide +kernel
theorem dX11_standsAs_13 : decode cX11_standsAs 13 = .ok (.if_icmp .ne 18, 3) := by decide +kernel
theorem dX11_standsAs_16 : decode cX11_standsAs 16 = .ok (.aload_n 0, 1) := by decide +kernel
theorem dX11_standsAs_17 : decode cX11_standsAs 17 = .ok (.bipush 20, 2) := by decide +kernel
theorem dX11_standsAs_19 : decode cX11_standsAs 19 = .ok (.invokevirtual 289, 3) := by decide +kernel
theorem dX11_standsAs_22 : decode cX11_standsAs 22 = .ok (.aload_n 0, 1) := by decide +kernel
theorem dX11_standsAs_23 : decode cX11_standsAs 23 = .ok (.iconst 0, 1) := by decide +kernel
theorem dX11_standsAs_24 : decode cX11_standsAs 24 = .ok (.iload_n 2, 1) := by decide +kernel
theorem dX11_standsAs_25 : decode cX11_standsAs 25 = .ok (.invokevirtual 293, 3) := by decide +kernel
theorem dX11_standsAs_28 : decode cX11_standsAs 28 = .ok (.iconst 3, 1) := by decide +kernel
theorem dX11_standsAs_29 : decode cX11_standsAs 29 = .ok (.iadd, 1) := by decide +kernel
theorem dX11_standsAs_30 : decode cX11_standsAs 30 = .ok (.ireturn, 1) := by decide +kernel
theorem dX11_standsAs_31 : decode cX11_standsAs 31 = .ok (.iload_n 1, 1) := by decide +kernel
theorem dX11_standsAs_32 : decode cX11_standsAs 32 = .ok (.bipush 6, 2) := by decide +kernel
theorem dX11_standsAs_34 : decode cX11_standsAs 34 = .ok (.if_icmp .ne 18, 3) := by decide +kernel
theorem dX11_standsAs_37 : decode cX11_standsAs 37 = .ok (.aload_n 0, 1) := by decide +kernel
theorem dX11_standsAs_38 : decode cX11_standsAs 38 = .ok (.bipush 70, 2) := by decide +kernel
theorem dX11_standsAs_40 : decode cX11_standsAs 40 = .ok (.invokevirtual 289, 3) := by decide +kernel
theorem dX11_standsAs_43 : decode cX11_standsAs 43 = .ok (.aload_n 0, 1) := by decide +kernel
theorem dX11_standsAs_44 : decode cX11_standsAs 44 = .ok (.iconst 0, 1) := by decide +kernel
theorem dX11_standsAs_45 : decode cX11_standsAs 45 = .ok (.iload_n 2, 1) := by decide +kernel
theorem dX11_standsAs_46 : decode cX11_standsAs 46 = .ok (.invokevirtual 293, 3) := by decide +kernel
theorem dX11_standsAs_49 : decode cX11_standsAs 49 = .ok (.iconst 2, 1) := by decide +kernel
theorem dX11_standsAs_50 : decode cX11_standsAs 50 = .ok (.imul, 1) := by decide +kernel
theorem dX11_standsAs_51 : decode cX11_standsAs 51 = .ok (.ireturn, 1) := by decide +kernel
theorem dX11_standsAs_52 : decode cX11_standsAs 52 = .ok (.aload_n 0, 1) := by decide +kernel
theorem dX11_standsAs_53 : decode cX11_standsAs 53 = .ok (.iconst 1, 1) := by decide +kernel
theorem dX11_standsAs_54 : decode cX11_standsAs 54 = .ok (.invokevirtual 289, 3) := by decide +kernel
theorem dX11_standsAs_57 : decode cX11_standsAs 57 = .ok (.iload_n 2, 1) := by decide +kernel
theorem dX11_standsAs_58 : decode cX11_standsAs 58 = .ok (.aload_n 0, 1) := by decide +kernel
theorem dX11_standsAs_59 : decode cX11_standsAs 59 = .ok (.getfield 296, 3) := by decide +kernel
theorem dX11_standsAs_62 : decode cX11_standsAs 62 = .ok (.iadd, 1) := by decide +kernel
theorem dX11_standsAs_63 : decode cX11_standsAs 63 = .ok (.ireturn, 1) := by decide +kernel
theorem dX11_swaysAs_0 : decode cX11_swaysAs 0 = .ok (.iload_n 1, 1) := by decide +kernel
theorem dX11_swaysAs_1 : decode cX11_swaysAs 1 = .ok (.iconst 3, 1) := by decide +kernel
theorem dX11_swaysAs_2 : decode cX11_swaysAs 2 = .ok (.if_icmp .eq 8, 3) := by decide +kernel
theorem dX11_swaysAs_5 : decode cX11_swaysAs 5 = .ok (.iload_n 1, 1) := by decide +kernel
theorem dX11_swaysAs_6 : decode cX11_swaysAs 6 = .ok (.iconst 5, 1) := by decide +kernel
theorem dX11_swaysAs_7 : decode cX11_swaysAs 7 = .ok (.if_icmp .ne 18, 3) := by decide +kernel
theorem dX11_swaysAs_10 : decode cX11_swaysAs 10 = .ok (.aload_n 0, 1) := by decide +kernel
theorem dX11_swaysAs_11 : decode cX11_swaysAs 11 = .ok (.bipush 41, 2) := by decide +kernel
theorem dX11_swaysAs_13 : decode cX11_swaysAs 13 = .ok (.invokevirtual 289, 3) := by decide +kernel
theorem dX11_swaysAs_16 : decode cX11_swaysAs 16 = .ok (.aload_n 0, 1) := by decide +kernel
theorem dX11_swaysAs_17 : decode cX11_swaysAs 17 = .ok (.iconst 2, 1) := by decide +kernel
theorem dX11_swaysAs_18 : decode cX11_swaysAs 18 = .ok (.iload_n 2, 1) := by decide +kernel
theorem dX11_swaysAs_19 : decode cX11_swaysAs 19 = .ok (.iconst 1, 1) := by decide +kernel
theorem dX11_swaysAs_20 : decode cX11_swaysAs 20 = .ok (.iadd, 1) := by decide +kernel
theorem dX11_swaysAs_21 : decode cX11_swaysAs 21 = .ok (.invokevirtual 299, 3) := by decide +kernel
theorem dX11_swaysAs_24 : decode cX11_swaysAs 24 = .ok (.ireturn, 1) := by decide +kernel
theorem dX11_swaysAs_25 : decode cX11_swaysAs 25 = .ok (.iload_n 1, 1) := by decide +kernel
theorem dX11_swaysAs_26 : decode cX11_swaysAs 26 = .ok (.iconst 2, 1) := by decide +kernel
theorem dX11_swaysAs_27 : decode cX11_swaysAs 27 = .ok (.if_icmp .ne 17, 3) := by decide +kernel
theorem dX11_swaysAs_30 : decode cX11_swaysAs 30 = .ok (.aload_n 0, 1) := by decide +kernel
theorem dX11_swaysAs_31 : decode cX11_swaysAs 31 = .ok (.bipush 30, 2) := by decide +kernel
theorem dX11_swaysAs_33 : decode cX11_swaysAs 33 = .ok (.invokevirtual 289, 3) := by decide +kernel
theorem dX11_swaysAs_36 : decode cX11_swaysAs 36 = .ok (.aload_n 0, 1) := by decide +kernel
theorem dX11_swaysAs_37 : decode cX11_swaysAs 37 = .ok (.iconst 0, 1) := by decide +kernel
theorem dX11_swaysAs_38 : decode cX11_swaysAs 38 = .ok (.iload_n 2, 1) := by decide +kernel
theorem dX11_swaysAs_39 : decode cX11_swaysAs 39 = .ok (.invokevirtual 299, 3) := by decide +kernel
theorem dX11_swaysAs_42 : decode cX11_swaysAs 42 = .ok (.ineg, 1) := by decide +kernel
theorem dX11_swaysAs_43 : decode cX11_swaysAs 43 = .ok (.ireturn, 1) := by decide +kernel
theorem dX11_swaysAs_44 : decode cX11_swaysAs 44 = .ok (.iload_n 1, 1) := by decide +kernel
theorem dX11_swaysAs_45 : decode cX11_swaysAs 45 = .ok (.bipush 7, 2) := by decide +kernel
theorem dX11_swaysAs_47 : decode cX11_swaysAs 47 = .ok (.if_icmp .ne 28, 3) := by decide +kernel
theorem dX11_swaysAs_50 : decode cX11_swaysAs 50 = .ok (.aload_n 0, 1) := by decide +kernel
theorem dX11_swaysAs_51 : decode cX11_swaysAs 51 = .ok (.bipush 80, 2) := by decide +kernel
theorem dX11_swaysAs_53 : decode cX11_swaysAs 53 = .ok (.invokevirtual 289, 3) := by decide +kernel
theorem dX11_swaysAs_56 : decode cX11_swaysAs 56 = .ok (.aload_n 0, 1) := by decide +kernel
theorem dX11_swaysAs_57 : decode cX11_swaysAs 57 = .ok (.iconst 4, 1) := by decide +kernel
theorem dX11_swaysAs_58 : decode cX11_swaysAs 58 = .ok (.iload_n 2, 1) := by decide +kernel
theorem dX11_swaysAs_59 : decode cX11_swaysAs 59 = .ok (.invokevirtual 299, 3) := by decide +kernel
theorem dX11_swaysAs_62 : decode cX11_swaysAs 62 = .ok (.istore_n 3, 1) := by decide +kernel
theorem dX11_swaysAs_63 : decode cX11_swaysAs 63 = .ok (.iload_n 3, 1) := by decide +kernel
theorem dX11_swaysAs_64 : decode cX11_swaysAs 64 = .ok (.aload_n 0, 1) := by decide +kernel
theorem dX11_swaysAs_65 : decode cX11_swaysAs 65 = .ok (.aload_n 0, 1) := by decide +kernel
theorem dX11_swaysAs_66 : decode cX11_swaysAs 66 = .ok (.getfield 302, 3) := by decide +kernel
theorem dX11_swaysAs_69 : decode cX11_swaysAs 69 = .ok (.iconst 2, 1) := by decide +kernel
theorem dX11_swaysAs_70 : decode cX11_swaysAs 70 = .ok (.invokevirtual 305, 3) := by decide +kernel
theorem dX11_swaysAs_73 : decode cX11_swaysAs 73 = .ok (.iadd, 1) := by decide +kernel
theorem dX11_swaysAs_74 : decode cX11_swaysAs 74 = .ok (.ireturn, 1) := by decide +kernel
theorem dX11_swaysAs_75 : decode cX11_swaysAs 75 = .ok (.aload_n 0, 1) := by decide +kernel
theorem dX11_swaysAs_76 : decode cX11_swaysAs 76 = .ok (.bipush 10, 2) := by decide +kernel
theorem dX11_swaysAs_78 : decode cX11_swaysAs 78 = .ok (.invokevirtual 289, 3) := by decide +kernel
theorem dX11_swaysAs_81 : decode cX11_swaysAs 81 = .ok (.aload_n 0, 1) := by decide +kernel
theorem dX11_swaysAs_82 : decode cX11_swaysAs 82 = .ok (.aload_n 0, 1) := by decide +kernel
theorem dX11_swaysAs_83 : decode cX11_swaysAs 83 = .ok (.getfield 302, 3) := by decide +kernel
theorem dX11_swaysAs_86 : decode cX11_swaysAs 86 = .ok (.iload_n 2, 1) := by decide +kernel
theorem dX11_swaysAs_87 : decode cX11_swaysAs 87 = .ok (.invokevirtual 293, 3) := by decide +kernel
theorem dX11_swaysAs_90 : decode cX11_swaysAs 90 = .ok (.iconst 2, 1) := by decide +kernel
theorem dX11_swaysAs_91 : decode cX11_swaysAs 91 = .ok (.imul, 1) := by decide +kernel
theorem dX11_swaysAs_92 : decode cX11_swaysAs 92 = .ok (.ireturn, 1) := by decide +kernel
theorem dX11_letsAs_0 : decode cX11_letsAs 0 = .ok (.iload_n 1, 1) := by decide +kernel
theorem dX11_letsAs_1 : decode cX11_letsAs 1 = .ok (.iconst 3, 1) := by decide +kernel
theorem dX11_letsAs_2 : decode cX11_letsAs 2 = .ok (.if_icmp .eq 8, 3) := by decide +kernel
theorem dX11_letsAs_5 : decode cX11_letsAs 5 = .ok (.iload_n 1, 1) := by decide +kernel
theorem dX11_letsAs_6 : decode cX11_letsAs 6 = .ok (.iconst 5, 1) := by decide +kernel
theorem dX11_letsAs_7 : decode cX11_letsAs 7 = .ok (.if_icmp .ne 18, 3) := by decide +kernel
theorem dX11_letsAs_10 : decode cX11_letsAs 10 = .ok (.aload_n 0, 1) := by decide +kernel
theorem dX11_letsAs_11 : decode cX11_letsAs 11 = .ok (.bipush 40, 2) := by decide +kernel
theorem dX11_letsAs_13 : decode cX11_letsAs 13 = .ok (.invokevirtual 289, 3) := by decide +kernel
theorem dX11_letsAs_16 : decode cX11_letsAs 16 = .ok (.aload_n 0, 1) := by decide +kernel
theorem dX11_letsAs_17 : decode cX11_letsAs 17 = .ok (.iconst 2, 1) := by decide +kernel
theorem dX11_letsAs_18 : decode cX11_letsAs 18 = .ok (.iload_n 2, 1) := by decide +kernel
theorem dX11_letsAs_19 : decode cX11_letsAs 19 = .ok (.invokevirtual 305, 3) := by decide +kernel
theorem dX11_letsAs_22 : decode cX11_letsAs 22 = .ok (.iconst 3, 1) := by decide +kernel
theorem dX11_letsAs_23 : decode cX11_letsAs 23 = .ok (.imul, 1) := by decide +kernel
theorem dX11_letsAs_24 : decode cX11_letsAs 24 = .ok (.ireturn, 1) := by decide +kernel
theorem dX11_letsAs_25 : decode cX11_letsAs 25 = .ok (.iload_n 1, 1) := by decide +kernel
theorem dX11_letsAs_26 : decode cX11_letsAs 26 = .ok (.iconst 4, 1) := by decide +kernel
theorem dX11_letsAs_27 : decode cX11_letsAs 27 = .ok (.if_icmp .eq 9, 3) := by decide +kernel
theorem dX11_letsAs_30 : decode cX11_letsAs 30 = .ok (.iload_n 1, 1) := by decide +kernel
theorem dX11_letsAs_31 : decode cX11_letsAs 31 = .ok (.bipush 7, 2) := by decide +kernel
theorem dX11_letsAs_33 : decode cX11_letsAs 33 = .ok (.if_icmp .ne 28, 3) := by decide +kernel
theorem dX11_letsAs_36 : decode cX11_letsAs 36 = .ok (.aload_n 0, 1) := by decide +kernel
theorem dX11_letsAs_37 : decode cX11_letsAs 37 = .ok (.bipush 50, 2) := by decide +kernel
theorem dX11_letsAs_39 : decode cX11_letsAs 39 = .ok (.invokevirtual 289, 3) := by decide +kernel
theorem dX11_letsAs_42 : decode cX11_letsAs 42 = .ok (.aload_n 0, 1) := by decide +kernel
theorem dX11_letsAs_43 : decode cX11_letsAs 43 = .ok (.iconst 1, 1) := by decide +kernel
theorem dX11_letsAs_44 : decode cX11_letsAs 44 = .ok (.iload_n 2, 1) := by decide +kernel
theorem dX11_letsAs_45 : decode cX11_letsAs 45 = .ok (.invokevirtual 305, 3) := by decide +kernel
theorem dX11_letsAs_48 : decode cX11_letsAs 48 = .ok (.istore_n 3, 1) := by decide +kernel
theorem dX11_letsAs_49 : decode cX11_letsAs 49 = .ok (.iload_n 3, 1) := by decide +kernel
theorem dX11_letsAs_50 : decode cX11_letsAs 50 = .ok (.aload_n 0, 1) := by decide +kernel
theorem dX11_letsAs_51 : decode cX11_letsAs 51 = .ok (.aload_n 0, 1) := by decide +kernel
theorem dX11_letsAs_52 : decode cX11_letsAs 52 = .ok (.getfield 302, 3) := by decide +kernel
theorem dX11_letsAs_55 : decode cX11_letsAs 55 = .ok (.iconst 2, 1) := by decide +kernel
theorem dX11_letsAs_56 : decode cX11_letsAs 56 = .ok (.invokevirtual 293, 3) := by decide +kernel
theorem dX11_letsAs_59 : decode cX11_letsAs 59 = .ok (.isub, 1) := by decide +kernel
theorem dX11_letsAs_60 : decode cX11_letsAs 60 = .ok (.ireturn, 1) := by decide +kernel
theorem dX11_letsAs_61 : decode cX11_letsAs 61 = .ok (.aload_n 0, 1) := by decide +kernel
theorem dX11_letsAs_62 : decode cX11_letsAs 62 = .ok (.bipush 11, 2) := by decide +kernel
theorem dX11_letsAs_64 : decode cX11_letsAs 64 = .ok (.invokevirtual 289, 3) := by decide +kernel
theorem dX11_letsAs_67 : decode cX11_letsAs 67 = .ok (.iload_n 2, 1) := by decide +kernel
theorem dX11_letsAs_68 : decode cX11_letsAs 68 = .ok (.aload_n 0, 1) := by decide +kernel
theorem dX11_letsAs_69 : decode cX11_letsAs 69 = .ok (.getfield 296, 3) := by decide +kernel
theorem dX11_letsAs_72 : decode cX11_letsAs 72 = .ok (.ixor, 1) := by decide +kernel
theorem dX11_letsAs_73 : decode cX11_letsAs 73 = .ok (.ireturn, 1) := by decide +kernel
theorem dX11_tellsAs_0 : decode cX11_tellsAs 0 = .ok (.iload_n 1, 1) := by decide +kernel
theorem dX11_tellsAs_1 : decode cX11_tellsAs 1 = .ok (.iconst 5, 1) := by decide +kernel
theorem dX11_tellsAs_2 : decode cX11_tellsAs 2 = .ok (.if_icmp .ne 18, 3) := by decide +kernel
theorem dX11_tellsAs_5 : decode cX11_tellsAs 5 = .ok (.aload_n 0, 1) := by decide +kernel
theorem dX11_tellsAs_6 : decode cX11_tellsAs 6 = .ok (.bipush 60, 2) := by decide +kernel
theorem dX11_tellsAs_8 : decode cX11_tellsAs 8 = .ok (.invokevirtual 289, 3) := by decide +kernel
theorem dX11_tellsAs_11 : decode cX11_tellsAs 11 = .ok (.aload_n 0, 1) := by decide +kernel
theorem dX11_tellsAs_12 : decode cX11_tellsAs 12 = .ok (.iconst 3, 1) := by decide +kernel
theorem dX11_tellsAs_13 : decode cX11_tellsAs 13 = .ok (.iload_n 2, 1) := by decide +kernel
theorem dX11_tellsAs_14 : decode cX11_tellsAs 14 = .ok (.invokevirtual 308, 3) := by decide +kernel
theorem dX11_tellsAs_17 : decode cX11_tellsAs 17 = .ok (.iconst 5, 1) := by decide +kernel
theorem dX11_tellsAs_18 : decode cX11_tellsAs 18 = .ok (.ixor, 1) := by decide +kernel
theorem dX11_tellsAs_19 : decode cX11_tellsAs 19 = .ok (.ireturn, 1) := by decide +kernel
theorem dX11_tellsAs_20 : decode cX11_tellsAs 20 = .ok (.iload_n 1, 1) := by decide +kernel
theorem dX11_tellsAs_21 : decode cX11_tellsAs 21 = .ok (.bipush 7, 2) := by decide +kernel
theorem dX11_tellsAs_23 : decode cX11_tellsAs 23 = .ok (.if_icmp .ne 18, 3) := by decide +kernel
theorem dX11_tellsAs_26 : decode cX11_tellsAs 26 = .ok (.aload_n 0, 1) := by decide +kernel
theorem dX11_tellsAs_27 : decode cX11_tellsAs 27 = .ok (.bipush 81, 2) := by decide +kernel
theorem dX11_tellsAs_29 : decode cX11_tellsAs 29 = .ok (.invokevirtual 289, 3) := by decide +kernel
theorem dX11_tellsAs_32 : decode cX11_tellsAs 32 = .ok (.aload_n 0, 1) := by decide +kernel
theorem dX11_tellsAs_33 : decode cX11_tellsAs 33 = .ok (.iconst 4, 1) := by decide +kernel
theorem dX11_tellsAs_34 : decode cX11_tellsAs 34 = .ok (.iload_n 2, 1) := by decide +kernel
theorem dX11_tellsAs_35 : decode cX11_tellsAs 35 = .ok (.invokevirtual 308, 3) := by decide +kernel
theorem dX11_tellsAs_38 : decode cX11_tellsAs 38 = .ok (.iconst 1, 1) := by decide +kernel
theorem dX11_tellsAs_39 : decode cX11_tellsAs 39 = .ok (.isub, 1) := by decide +kernel
theorem dX11_tellsAs_40 : decode cX11_tellsAs 40 = .ok (.ireturn, 1) := by decide +kernel
theorem dX11_tellsAs_41 : decode cX11_tellsAs 41 = .ok (.aload_n 0, 1) := by decide +kernel
theorem dX11_tellsAs_42 : decode cX11_tellsAs 42 = .ok (.iconst 2, 1) := by decide +kernel
theorem dX11_tellsAs_43 : decode cX11_tellsAs 43 = .ok (.invokevirtual 289, 3) := by decide +kernel
theorem dX11_tellsAs_46 : decode cX11_tellsAs 46 = .ok (.aload_n 0, 1) := by decide +kernel
theorem dX11_tellsAs_47 : decode cX11_tellsAs 47 = .ok (.aload_n 0, 1) := by decide +kernel
theorem dX11_tellsAs_48 : decode cX11_tellsAs 48 = .ok (.getfield 302, 3) := by decide +kernel
theorem dX11_tellsAs_51 : decode cX11_tellsAs 51 = .ok (.iload_n 2, 1) := by decide +kernel
theorem dX11_tellsAs_52 : decode cX11_tellsAs 52 = .ok (.invokevirtual 299, 3) := by decide +kernel
theorem dX11_tellsAs_55 : decode cX11_tellsAs 55 = .ok (.istore_n 3, 1) := by decide +kernel
theorem dX11_tellsAs_56 : decode cX11_tellsAs 56 = .ok (.iload_n 3, 1) := by decide +kernel
theorem dX11_tellsAs_57 : decode cX11_tellsAs 57 = .ok (.aload_n 0, 1) := by decide +kernel
theorem dX11_tellsAs_58 : decode cX11_tellsAs 58 = .ok (.aload_n 0, 1) := by decide +kernel
theorem dX11_tellsAs_59 : decode cX11_tellsAs 59 = .ok (.getfield 302, 3) := by decide +kernel
theorem dX11_tellsAs_62 : decode cX11_tellsAs 62 = .ok (.iconst 1, 1) := by decide +kernel
theorem dX11_tellsAs_63 : decode cX11_tellsAs 63 = .ok (.invokevirtual 305, 3) := by decide +kernel
theorem dX11_tellsAs_66 : decode cX11_tellsAs 66 = .ok (.isub, 1) := by decide +kernel
theorem dX11_tellsAs_67 : decode cX11_tellsAs 67 = .ok (.ireturn, 1) := by decide +kernel
theorem dX11_act_0 : decode cX11_act 0 = .ok (.aload_n 0, 1) := by decide +kernel
theorem dX11_act_1 : decode cX11_act 1 = .ok (.iconst 0, 1) := by decide +kernel
theorem dX11_act_2 : decode cX11_act 2 = .ok (.putfield 286, 3) := by decide +kernel
theorem dX11_act_5 : decode cX11_act 5 = .ok (.aload_n 0, 1) := by decide +kernel
theorem dX11_act_6 : decode cX11_act 6 = .ok (.iload_n 1, 1) := by decide +kernel
theorem dX11_act_7 : decode cX11_act 7 = .ok (.invokevirtual 311, 3) := by decide +kernel
theorem dX11_act_10 : decode cX11_act 10 = .ok (.ifCond .ne 5, 3) := by decide +kernel
theorem dX11_act_13 : decode cX11_act 13 = .ok (.iconst 0, 1) := by decide +kernel
theorem dX11_act_14 : decode cX11_act 14 = .ok (.ireturn, 1) := by decide +kernel
theorem dX11_act_15 : decode cX11_act 15 = .ok (.aload_n 0, 1) := by decide +kernel
theorem dX11_act_16 : decode cX11_act 16 = .ok (.aload_n 0, 1) := by decide +kernel
theorem dX11_act_17 : decode cX11_act 17 = .ok (.getfield 46, 3) := by decide +kernel
theorem dX11_act_20 : decode cX11_act 20 = .ok (.iload_n 1, 1) := by decide +kernel
theorem dX11_act_21 : decode cX11_act 21 = .ok (.iaload, 1) := by decide +kernel
theorem dX11_act_22 : decode cX11_act 22 = .ok (.putfield 302, 3) := by decide +kernel
theorem dX11_act_25 : decode cX11_act 25 = .ok (.aload_n 0, 1) := by decide +kernel
theorem dX11_act_26 : decode cX11_act 26 = .ok (.iload_n 1, 1) := by decide +kernel
theorem dX11_act_27 : decode cX11_act 27 = .ok (.putfield 296, 3) := by decide +kernel
theorem dX11_act_30 : decode cX11_act 30 = .ok (.iload_n 2, 1) := by decide +kernel
theorem dX11_act_31 : decode cX11_act 31 = .ok (.tableswitch 69 0 3 #[29, 39, 49, 59], 29) := by decide +kernel
theorem dX11_act_60 : decode cX11_act 60 = .ok (.aload_n 0, 1) := by decide +kernel
theorem dX11_act_61 : decode cX11_act 61 = .ok (.aload_n 0, 1) := by decide +kernel
theorem dX11_act_62 : decode cX11_act 62 = .ok (.getfield 302, 3) := by decide +kernel
theorem dX11_act_65 : decode cX11_act 65 = .ok (.iload_n 3, 1) := by decide +kernel
theorem dX11_act_66 : decode cX11_act 66 = .ok (.invokevirtual 293, 3) := by decide +kernel
theorem dX11_act_69 : decode cX11_act 69 = .ok (.ireturn, 1) := by decide +kernel
theorem dX11_act_70 : decode cX11_act 70 = .ok (.aload_n 0, 1) := by decide +kernel
theorem dX11_act_71 : decode cX11_act 71 = .ok (.aload_n 0, 1) := by decide +kernel
theorem dX11_act_72 : decode cX11_act 72 = .ok (.getfield 302, 3) := by decide +kernel
theorem dX11_act_75 : decode cX11_act 75 = .ok (.iload_n 3, 1) := by decide +kernel
theorem dX11_act_76 : decode cX11_act 76 = .ok (.invokevirtual 299, 3) := by decide +kernel
theorem dX11_act_79 : decode cX11_act 79 = .ok (.ireturn, 1) := by decide +kernel
theorem dX11_act_80 : decode cX11_act 80 = .ok (.aload_n 0, 1) := by decide +kernel
theorem dX11_act_81 : decode cX11_act 81 = .ok (.aload_n 0, 1) := by decide +kernel
theorem dX11_act_82 : decode cX11_act 82 = .ok (.getfield 302, 3) := by decide +kernel
theorem dX11_act_85 : decode cX11_act 85 = .ok (.iload_n 3, 1) := by decide +kernel
theorem dX11_act_86 : decode cX11_act 86 = .ok (.invokevirtual 305, 3) := by decide +kernel
theorem dX11_act_89 : decode cX11_act 89 = .ok (.ireturn, 1) := by decide +kernel
theorem dX11_act_90 : decode cX11_act 90 = .ok (.aload_n 0, 1) := by decide +kernel
theorem dX11_act_91 : decode cX11_act 91 = .ok (.aload_n 0, 1) := by decide +kernel
theorem dX11_act_92 : decode cX11_act 92 = .ok (.getfield 302, 3) := by decide +kernel
theorem dX11_act_95 : decode cX11_act 95 = .ok (.iload_n 3, 1) := by decide +kernel
theorem dX11_act_96 : decode cX11_act 96 = .ok (.invokevirtual 308, 3) := by decide +kernel
theorem dX11_act_99 : decode cX11_act 99 = .ok (.ireturn, 1) := by decide +kernel
theorem dX11_act_100 : decode cX11_act 100 = .ok (.iconst 0, 1) := by decide +kernel
theorem dX11_act_101 : decode cX11_act 101 = .ok (.ireturn, 1) := by decide +kernel
theorem dX11_trace_0 : decode cX11_trace 0 = .ok (.iload_n 1, 1) := by decide +kernel
theorem dX11_trace_1 : decode cX11_trace 1 = .ok (.ifCond .lt 26, 3) := by decide +kernel
theorem dX11_trace_4 : decode cX11_trace 4 = .ok (.iload_n 1, 1) := by decide +kernel
theorem dX11_trace_5 : decode cX11_trace 5 = .ok (.aload_n 0, 1) := by decide +kernel
theorem dX11_trace_6 : decode cX11_trace 6 = .ok (.getfield 286, 3) := by decide +kernel
theorem dX11_trace_9 : decode cX11_trace 9 = .ok (.if_icmp .ge 18, 3) := by decide +kernel
theorem dX11_trace_12 : decode cX11_trace 12 = .ok (.iload_n 1, 1) := by decide +kernel
theorem dX11_trace_13 : decode cX11_trace 13 = .ok (.bipush 24, 2) := by decide +kernel
theorem dX11_trace_15 : decode cX11_trace 15 = .ok (.if_icmp .ge 12, 3) := by decide +kernel
theorem dX11_trace_18 : decode cX11_trace 18 = .ok (.aload_n 0, 1) := by decide +kernel
theorem dX11_trace_19 : decode cX11_trace 19 = .ok (.getfield 49, 3) := by decide +kernel
theorem dX11_trace_22 : decode cX11_trace 22 = .ok (.iload_n 1, 1) := by decide +kernel
theorem dX11_trace_23 : decode cX11_trace 23 = .ok (.iaload, 1) := by decide +kernel
theorem dX11_trace_24 : decode cX11_trace 24 = .ok (.goto 4, 3) := by decide +kernel
theorem dX11_trace_27 : decode cX11_trace 27 = .ok (.iconst (-1), 1) := by decide +kernel
theorem dX11_trace_28 : decode cX11_trace 28 = .ok (.ireturn, 1) := by decide +kernel
theorem dX11_isShelf_0 : decode cX11_isShelf 0 = .ok (.iload_n 0, 1) := by decide +kernel
theorem dX11_isShelf_1 : decode cX11_isShelf 1 = .ok (.i2l, 1) := by decide +kernel
theorem dX11_isShelf_2 : decode cX11_isShelf 2 = .ok (.lconst 0, 1) := by decide +kernel
theorem dX11_isShelf_3 : decode cX11_isShelf 3 = .ok (.ldc2_w 314, 3) := by decide +kernel
theorem dX11_isShelf_6 : decode cX11_isShelf 6 = .ok (.invokestatic 78, 3) := by decide +kernel
theorem dX11_isShelf_9 : decode cX11_isShelf 9 = .ok (.ireturn, 1) := by decide +kernel
theorem dX11_keep_0 : decode cX11_keep 0 = .ok (.iload_n 1, 1) := by decide +kernel
theorem dX11_keep_1 : decode cX11_keep 1 = .ok (.invokestatic 108, 3) := by decide +kernel
theorem dX11_keep_4 : decode cX11_keep 4 = .ok (.ifCond .eq 16, 3) := by decide +kernel
theorem dX11_keep_7 : decode cX11_keep 7 = .ok (.iload_n 2, 1) := by decide +kernel
theorem dX11_keep_8 : decode cX11_keep 8 = .ok (.iconst (-1), 1) := by decide +kernel
theorem dX11_keep_9 : decode cX11_keep 9 = .ok (.if_icmp .eq 13, 3) := by decide +kernel
theorem dX11_keep_12 : decode cX11_keep 12 = .ok (.aload_n 0, 1) := by decide +kernel
theorem dX11_keep_13 : decode cX11_keep 13 = .ok (.iload_n 2, 1) := by decide +kernel
theorem dX11_keep_14 : decode cX11_keep 14 = .ok (.invokevirtual 311, 3) := by decide +kernel
theorem dX11_keep_17 : decode cX11_keep 17 = .ok (.ifCond .ne 5, 3) := by decide +kernel
theorem dX11_keep_20 : decode cX11_keep 20 = .ok (.iconst (-1), 1) := by decide +kernel
theorem dX11_keep_21 : decode cX11_keep 21 = .ok (.ireturn, 1) := by decide +kernel
theorem dX11_keep_22 : decode cX11_keep 22 = .ok (.aload_n 0, 1) := by decide +kernel
theorem dX11_keep_23 : decode cX11_keep 23 = .ok (.getfield 52, 3) := by decide +kernel
theorem dX11_keep_26 : decode cX11_keep 26 = .ok (.iload_n 1, 1) := by decide +kernel
theorem dX11_keep_27 : decode cX11_keep 27 = .ok (.iload_n 2, 1) := by decide +kernel
theorem dX11_keep_28 : decode cX11_keep 28 = .ok (.iastore, 1) := by decide +kernel
theorem dX11_keep_29 : decode cX11_keep 29 = .ok (.aload_n 0, 1) := by decide +kernel
theorem dX11_keep_30 : decode cX11_keep 30 = .ok (.getfield 55, 3) := by decide +kernel
theorem dX11_keep_33 : decode cX11_keep 33 = .ok (.iload_n 1, 1) := by decide +kernel
theorem dX11_keep_34 : decode cX11_keep 34 = .ok (.iconst 0, 1) := by decide +kernel
theorem dX11_keep_35 : decode cX11_keep 35 = .ok (.iastore, 1) := by decide +kernel
theorem dX11_keep_36 : decode cX11_keep 36 = .ok (.iconst 1, 1) := by decide +kernel
theorem dX11_keep_37 : decode cX11_keep 37 = .ok (.ireturn, 1) := by decide +kernel
theorem dX11_row_0 : decode cX11_row 0 = .ok (.iload_n 1, 1) := by decide +kernel
theorem dX11_row_1 : decode cX11_row 1 = .ok (.invokestatic 108, 3) := by decide +kernel
theorem dX11_row_4 : decode cX11_row 4 = .ok (.ifCond .eq 21, 3) := by decide +kernel
theorem dX11_row_7 : decode cX11_row 7 = .ok (.iload_n 2, 1) := by decide +kernel
theorem dX11_row_8 : decode cX11_row 8 = .ok (.i2l, 1) := by decide +kernel
theorem dX11_row_9 : decode cX11_row 9 = .ok (.lconst 0, 1) := by decide +kernel
theorem dX11_row_10 : decode cX11_row 10 = .ok (.ldc2_w 119, 3) := by decide +kernel
theorem dX11_row_13 : decode cX11_row 13 = .ok (.invokestatic 78, 3) := by decide +kernel
theorem dX11_row_16 : decode cX11_row 16 = .ok (.ifCond .eq 9, 3) := by decide +kernel
theorem dX11_row_19 : decode cX11_row 19 = .ok (.iload_n 3, 1) := by decide +kernel
theorem dX11_row_20 : decode cX11_row 20 = .ok (.bipush 60, 2) := by decide +kernel
theorem dX11_row_22 : decode cX11_row 22 = .ok (.if_icmp .le 5, 3) := by decide +kernel
theorem dX11_row_25 : decode cX11_row 25 = .ok (.iconst (-1), 1) := by decide +kernel
theorem dX11_row_26 : decode cX11_row 26 = .ok (.ireturn, 1) := by decide +kernel
theorem dX11_row_27 : decode cX11_row 27 = .ok (.iload_n 3, 1) := by decide +kernel
theorem dX11_row_28 : decode cX11_row 28 = .ok (.ifCond .ge 6, 3) := by decide +kernel
theorem dX11_row_31 : decode cX11_row 31 = .ok (.bipush (-14), 2) := by decide +kernel
theorem dX11_row_33 : decode cX11_row 33 = .ok (.ireturn, 1) := by decide +kernel
theorem dX11_row_34 : decode cX11_row 34 = .ok (.aload_n 0, 1) := by decide +kernel
theorem dX11_row_35 : decode cX11_row 35 = .ok (.getfield 52, 3) := by decide +kernel
theorem dX11_row_38 : decode cX11_row 38 = .ok (.iload_n 1, 1) := by decide +kernel
theorem dX11_row_39 : decode cX11_row 39 = .ok (.bipush 50, 2) := by decide +kernel
theorem dX11_row_41 : decode cX11_row 41 = .ok (.iload_n 2, 1) := by decide +kernel
theorem dX11_row_42 : decode cX11_row 42 = .ok (.iadd, 1) := by decide +kernel
theorem dX11_row_43 : decode cX11_row 43 = .ok (.iastore, 1) := by decide +kernel
theorem dX11_row_44 : decode cX11_row 44 = .ok (.aload_n 0, 1) := by decide +kernel
theorem dX11_row_45 : decode cX11_row 45 = .ok (.getfield 55, 3) := by decide +kernel
theorem dX11_row_48 : decode cX11_row 48 = .ok (.iload_n 1, 1) := by decide +kernel
theorem dX11_row_49 : decode cX11_row 49 = .ok (.iload_n 3, 1) := by decide +kernel
theorem dX11_row_50 : decode cX11_row 50 = .ok (.iastore, 1) := by decide +kernel
theorem dX11_row_51 : decode cX11_row 51 = .ok (.bipush 60, 2) := by decide +kernel
theorem dX11_row_53 : decode cX11_row 53 = .ok (.iload_n 1, 1) := by decide +kernel
theorem dX11_row_54 : decode cX11_row 54 = .ok (.imul, 1) := by decide +kernel
theorem dX11_row_55 : decode cX11_row 55 = .ok (.istore 4, 2) := by decide +kernel
theorem dX11_row_57 : decode cX11_row 57 = .ok (.iload 4, 2) := by decide +kernel
theorem dX11_row_59 : decode cX11_row 59 = .ok (.bipush 60, 2) := by decide +kernel
theorem dX11_row_61 : decode cX11_row 61 = .ok (.iload_n 1, 1) := by decide +kernel
theorem dX11_row_62 : decode cX11_row 62 = .ok (.imul, 1) := by decide +kernel
theorem dX11_row_63 : decode cX11_row 63 = .ok (.bipush 60, 2) := by decide +kernel
theorem dX11_row_65 : decode cX11_row 65 = .ok (.iadd, 1) := by decide +kernel
theorem dX11_row_66 : decode cX11_row 66 = .ok (.if_icmp .ge 17, 3) := by decide +kernel
theorem dX11_row_69 : decode cX11_row 69 = .ok (.aload_n 0, 1) := by decide +kernel
theorem dX11_row_70 : decode cX11_row 70 = .ok (.getfield 58, 3) := by decide +kernel
theorem dX11_row_73 : decode cX11_row 73 = .ok (.iload 4, 2) := by decide +kernel
theorem dX11_row_75 : decode cX11_row 75 = .ok (.lconst 0, 1) := by decide +kernel
theorem dX11_row_76 : decode cX11_row 76 = .ok (.lastore, 1) := by decide +kernel
theorem dX11_row_77 : decode cX11_row 77 = .ok (.iinc 4 1, 3) := by decide +kernel
theorem dX11_row_80 : decode cX11_row 80 = .ok (.goto (-23), 3) := by decide +kernel
theorem dX11_row_83 : decode cX11_row 83 = .ok (.iconst 1, 1) := by decide +kernel
theorem dX11_row_84 : decode cX11_row 84 = .ok (.ireturn, 1) := by decide +kernel
theorem dX11_refusal_0 : decode cX11_refusal 0 = .ok (.iload_n 1, 1) := by decide +kernel
theorem dX11_refusal_1 : decode cX11_refusal 1 = .ok (.invokestatic 108, 3) := by decide +kernel
theorem dX11_refusal_4 : decode cX11_refusal 4 = .ok (.ifCond .ne 5, 3) := by decide +kernel
theorem dX11_refusal_7 : decode cX11_refusal 7 = .ok (.iconst (-1), 1) := by decide +kernel
theorem dX11_refusal_8 : decode cX11_refusal 8 = .ok (.ireturn, 1) := by decide +kernel
theorem dX11_refusal_9 : decode cX11_refusal 9 = .ok (.aload_n 0, 1) := by decide +kernel
theorem dX11_refusal_10 : decode cX11_refusal 10 = .ok (.getfield 52, 3) := by decide +kernel
theorem dX11_refusal_13 : decode cX11_refusal 13 = .ok (.iload_n 1, 1) := by decide +kernel
theorem dX11_refusal_14 : decode cX11_refusal 14 = .ok (.iaload, 1) := by decide +kernel
theorem dX11_refusal_15 : decode cX11_refusal 15 = .ok (.ifCond .ge 6, 3) := by decide +kernel
theorem dX11_refusal_18 : decode cX11_refusal 18 = .ok (.bipush (-11), 2) := by decide +kernel
theorem dX11_refusal_20 : decode cX11_refusal 20 = .ok (.ireturn, 1) := by decide +kernel
theorem dX11_refusal_21 : decode cX11_refusal 21 = .ok (.aload_n 0, 1) := by decide +kernel
theorem dX11_refusal_22 : decode cX11_refusal 22 = .ok (.getfield 52, 3) := by decide +kernel
theorem dX11_refusal_25 : decode cX11_refusal 25 = .ok (.iload_n 1, 1) := by decide +kernel
theorem dX11_refusal_26 : decode cX11_refusal 26 = .ok (.iaload, 1) := by decide +kernel
theorem dX11_refusal_27 : decode cX11_refusal 27 = .ok (.bipush 50, 2) := by decide +kernel
theorem dX11_refusal_29 : decode cX11_refusal 29 = .ok (.if_icmp .ge 6, 3) := by decide +kernel
theorem dX11_refusal_32 : decode cX11_refusal 32 = .ok (.bipush (-12), 2) := by decide +kernel
theorem dX11_refusal_34 : decode cX11_refusal 34 = .ok (.ireturn, 1) := by decide +kernel
theorem dX11_refusal_35 : decode cX11_refusal 35 = .ok (.iload_n 2, 1) := by decide +kernel
theorem dX11_refusal_36 : decode cX11_refusal 36 = .ok (.ifCond .lt 17, 3) := by decide +kernel
theorem dX11_refusal_39 : decode cX11_refusal 39 = .ok (.iload_n 2, 1) := by decide +kernel
theorem dX11_refusal_40 : decode cX11_refusal 40 = .ok (.aload_n 0, 1) := by decide +kernel
theorem dX11_refusal_41 : decode cX11_refusal 41 = .ok (.getfield 55, 3) := by decide +kernel
theorem dX11_refusal_44 : decode cX11_refusal 44 = .ok (.iload_n 1, 1) := by decide +kernel
theorem dX11_refusal_45 : decode cX11_refusal 45 = .ok (.iaload, 1) := by decide +kernel
theorem dX11_refusal_46 : decode cX11_refusal 46 = .ok (.if_icmp .ge 7, 3) := by decide +kernel
theorem dX11_refusal_49 : decode cX11_refusal 49 = .ok (.iconst 0, 1) := by decide +kernel
theorem dX11_refusal_50 : decode cX11_refusal 50 = .ok (.goto 5, 3) := by decide +kernel
theorem dX11_refusal_53 : decode cX11_refusal 53 = .ok (.bipush (-13), 2) := by decide +kernel
theorem dX11_refusal_55 : decode cX11_refusal 55 = .ok (.ireturn, 1) := by decide +kernel
theorem dX11_asSort_0 : decode cX11_asSort 0 = .ok (.iload_n 0, 1) := by decide +kernel
theorem dX11_asSort_1 : decode cX11_asSort 1 = .ok (.ifCond .ne 10, 3) := by decide +kernel
theorem dX11_asSort_4 : decode cX11_asSort 4 = .ok (.lload_n 1, 1) := by decide +kernel
theorem dX11_asSort_5 : decode cX11_asSort 5 = .ok (.l2i, 1) := by decide +kernel
theorem dX11_asSort_6 : decode cX11_asSort 6 = .ok (.i2b, 1) := by decide +kernel
theorem dX11_asSort_7 : decode cX11_asSort 7 = .ok (.i2l, 1) := by decide +kernel
theorem dX11_asSort_8 : decode cX11_asSort 8 = .ok (.goto 46, 3) := by decide +kernel
theorem dX11_asSort_11 : decode cX11_asSort 11 = .ok (.iload_n 0, 1) := by decide +kernel
theorem dX11_asSort_12 : decode cX11_asSort 12 = .ok (.iconst 1, 1) := by decide +kernel
theorem dX11_asSort_13 : decode cX11_asSort 13 = .ok (.if_icmp .ne 10, 3) := by decide +kernel
theorem dX11_asSort_16 : decode cX11_asSort 16 = .ok (.lload_n 1, 1) := by decide +kernel
theorem dX11_asSort_17 : decode cX11_asSort 17 = .ok (.l2i, 1) := by decide +kernel
theorem dX11_asSort_18 : decode cX11_asSort 18 = .ok (.i2s, 1) := by decide +kernel
theorem dX11_asSort_19 : decode cX11_asSort 19 = .ok (.i2l, 1) := by decide +kernel
theorem dX11_asSort_20 : decode cX11_asSort 20 = .ok (.goto 34, 3) := by decide +kernel
theorem dX11_asSort_23 : decode cX11_asSort 23 = .ok (.iload_n 0, 1) := by decide +kernel
theorem dX11_asSort_24 : decode cX11_asSort 24 = .ok (.iconst 2, 1) := by decide +kernel
theorem dX11_asSort_25 : decode cX11_asSort 25 = .ok (.if_icmp .ne 9, 3) := by decide +kernel
theorem dX11_asSort_28 : decode cX11_asSort 28 = .ok (.lload_n 1, 1) := by decide +kernel
theorem dX11_asSort_29 : decode cX11_asSort 29 = .ok (.l2i, 1) := by decide +kernel
theorem dX11_asSort_30 : decode cX11_asSort 30 = .ok (.i2l, 1) := by decide +kernel
theorem dX11_asSort_31 : decode cX11_asSort 31 = .ok (.goto 23, 3) := by decide +kernel
theorem dX11_asSort_34 : decode cX11_asSort 34 = .ok (.iload_n 0, 1) := by decide +kernel
theorem dX11_asSort_35 : decode cX11_asSort 35 = .ok (.iconst 4, 1) := by decide +kernel
theorem dX11_asSort_36 : decode cX11_asSort 36 = .ok (.if_icmp .ne 17, 3) := by decide +kernel
theorem dX11_asSort_39 : decode cX11_asSort 39 = .ok (.lload_n 1, 1) := by decide +kernel
theorem dX11_asSort_40 : decode cX11_asSort 40 = .ok (.lconst 0, 1) := by decide +kernel
theorem dX11_asSort_41 : decode cX11_asSort 41 = .ok (.lcmp, 1) := by decide +kernel
theorem dX11_asSort_42 : decode cX11_asSort 42 = .ok (.ifCond .eq 7, 3) := by decide +kernel
theorem dX11_asSort_45 : decode cX11_asSort 45 = .ok (.lconst 1, 1) := by decide +kernel
theorem dX11_asSort_46 : decode cX11_asSort 46 = .ok (.goto 8, 3) := by decide +kernel
theorem dX11_asSort_49 : decode cX11_asSort 49 = .ok (.lconst 0, 1) := by decide +kernel
theorem dX11_asSort_50 : decode cX11_asSort 50 = .ok (.goto 4, 3) := by decide +kernel
theorem dX11_asSort_53 : decode cX11_asSort 53 = .ok (.lload_n 1, 1) := by decide +kernel
theorem dX11_asSort_54 : decode cX11_asSort 54 = .ok (.lreturn, 1) := by decide +kernel
theorem dX11_put_0 : decode cX11_put 0 = .ok (.aload_n 0, 1) := by decide +kernel
theorem dX11_put_1 : decode cX11_put 1 = .ok (.iload_n 1, 1) := by decide +kernel
theorem dX11_put_2 : decode cX11_put 2 = .ok (.iload_n 2, 1) := by decide +kernel
theorem dX11_put_3 : decode cX11_put 3 = .ok (.invokevirtual 316, 3) := by decide +kernel
theorem dX11_put_6 : decode cX11_put 6 = .ok (.istore 5, 2) := by decide +kernel
theorem dX11_put_8 : decode cX11_put 8 = .ok (.iload 5, 2) := by decide +kernel
theorem dX11_put_10 : decode cX11_put 10 = .ok (.ifCond .ne 27, 3) := by decide +kernel
theorem dX11_put_13 : decode cX11_put 13 = .ok (.aload_n 0, 1) := by decide +kernel
theorem dX11_put_14 : decode cX11_put 14 = .ok (.getfield 58, 3) := by decide +kernel
theorem dX11_put_17 : decode cX11_put 17 = .ok (.bipush 60, 2) := by decide +kernel
theorem dX11_put_19 : decode cX11_put 19 = .ok (.iload_n 1, 1) := by decide +kernel
theorem dX11_put_20 : decode cX11_put 20 = .ok (.imul, 1) := by decide +kernel
theorem dX11_put_21 : decode cX11_put 21 = .ok (.iload_n 2, 1) := by decide +kernel
theorem dX11_put_22 : decode cX11_put 22 = .ok (.iadd, 1) := by decide +kernel
theorem dX11_put_23 : decode cX11_put 23 = .ok (.aload_n 0, 1) := by decide +kernel
theorem dX11_put_24 : decode cX11_put 24 = .ok (.getfield 52, 3) := by decide +kernel
theorem dX11_put_27 : decode cX11_put 27 = .ok (.iload_n 1, 1) := by decide +kernel
theorem dX11_put_28 : decode cX11_put 28 = .ok (.iaload, 1) := by decide +kernel
theorem dX11_put_29 : decode cX11_put 29 = .ok (.bipush 50, 2) := by decide +kernel
theorem dX11_put_31 : decode cX11_put 31 = .ok (.isub, 1) := by decide +kernel
theorem dX11_put_32 : decode cX11_put 32 = .ok (.lload_n 3, 1) := by decide +kernel
theorem dX11_put_33 : decode cX11_put 33 = .ok (.invokestatic 319, 3) := by decide +kernel
theorem dX11_put_36 : decode cX11_put 36 = .ok (.lastore, 1) := by decide +kernel
theorem dX11_put_37 : decode cX11_put 37 = .ok (.iload 5, 2) := by decide +kernel
theorem dX11_put_39 : decode cX11_put 39 = .ok (.ifCond .ne 7, 3) := by decide +kernel
theorem dX11_put_42 : decode cX11_put 42 = .ok (.iconst 1, 1) := by decide +kernel
theorem dX11_put_43 : decode cX11_put 43 = .ok (.goto 5, 3) := by decide +kernel
theorem dX11_put_46 : decode cX11_put 46 = .ok (.iload 5, 2) := by decide +kernel
theorem dX11_put_48 : decode cX11_put 48 = .ok (.ireturn, 1) := by decide +kernel
theorem dX11_element_0 : decode cX11_element 0 = .ok (.aload_n 0, 1) := by decide +kernel
theorem dX11_element_1 : decode cX11_element 1 = .ok (.iload_n 1, 1) := by decide +kernel
theorem dX11_element_2 : decode cX11_element 2 = .ok (.iload_n 2, 1) := by decide +kernel
theorem dX11_element_3 : decode cX11_element 3 = .ok (.invokevirtual 316, 3) := by decide +kernel
theorem dX11_element_6 : decode cX11_element 6 = .ok (.ifCond .eq 9, 3) := by decide +kernel
theorem dX11_element_9 : decode cX11_element 9 = .ok (.ldc2_w 325, 3) := by decide +kernel
theorem dX11_element_12 : decode cX11_element 12 = .ok (.goto 14, 3) := by decide +kernel
theorem dX11_element_15 : decode cX11_element 15 = .ok (.aload_n 0, 1) := by decide +kernel
theorem dX11_element_16 : decode cX11_element 16 = .ok (.getfield 58, 3) := by decide +kernel
theorem dX11_element_19 : decode cX11_element 19 = .ok (.bipush 60, 2) := by decide +kernel
theorem dX11_element_21 : decode cX11_element 21 = .ok (.iload_n 1, 1) := by decide +kernel
theorem dX11_element_22 : decode cX11_element 22 = .ok (.imul, 1) := by decide +kernel
theorem dX11_element_23 : decode cX11_element 23 = .ok (.iload_n 2, 1) := by decide +kernel
theorem dX11_element_24 : decode cX11_element 24 = .ok (.iadd, 1) := by decide +kernel
theorem dX11_element_25 : decode cX11_element 25 = .ok (.laload, 1) := by decide +kernel
theorem dX11_element_26 : decode cX11_element 26 = .ok (.lreturn, 1) := by decide +kernel
theorem dX11_shift_0 : decode cX11_shift 0 = .ok (.iload_n 1, 1) := by decide +kernel
theorem dX11_shift_1 : decode cX11_shift 1 = .ok (.invokestatic 108, 3) := by decide +kernel
theorem dX11_shift_4 : decode cX11_shift 4 = .ok (.ifCond .eq 10, 3) := by decide +kernel
theorem dX11_shift_7 : decode cX11_shift 7 = .ok (.iload_n 3, 1) := by decide +kernel
theorem dX11_shift_8 : decode cX11_shift 8 = .ok (.invokestatic 108, 3) := by decide +kernel
theorem dX11_shift_11 : decode cX11_shift 11 = .ok (.ifCond .ne 5, 3) := by decide +kernel
theorem dX11_shift_14 : decode cX11_shift 14 = .ok (.iconst (-1), 1) := by decide +kernel
theorem dX11_shift_15 : decode cX11_shift 15 = .ok (.ireturn, 1) := by decide +kernel
theorem dX11_shift_16 : decode cX11_shift 16 = .ok (.aload_n 0, 1) := by decide +kernel
theorem dX11_shift_17 : decode cX11_shift 17 = .ok (.getfield 52, 3) := by decide +kernel
theorem dX11_shift_20 : decode cX11_shift 20 = .ok (.iload_n 1, 1) := by decide +kernel
theorem dX11_shift_21 : decode cX11_shift 21 = .ok (.iaload, 1) := by decide +kernel
theorem dX11_shift_22 : decode cX11_shift 22 = .ok (.ifCond .lt 12, 3) := by decide +kernel
theorem dX11_shift_25 : decode cX11_shift 25 = .ok (.aload_n 0, 1) := by decide +kernel
theorem dX11_shift_26 : decode cX11_shift 26 = .ok (.getfield 52, 3) := by decide +kernel
theorem dX11_shift_29 : decode cX11_shift 29 = .ok (.iload_n 3, 1) := by decide +kernel
theorem dX11_shift_30 : decode cX11_shift 30 = .ok (.iaload, 1) := by decide +kernel
theorem dX11_shift_31 : decode cX11_shift 31 = .ok (.ifCond .ge 6, 3) := by decide +kernel
theorem dX11_shift_34 : decode cX11_shift 34 = .ok (.bipush (-11), 2) := by decide +kernel
theorem dX11_shift_36 : decode cX11_shift 36 = .ok (.ireturn, 1) := by decide +kernel
theorem dX11_shift_37 : decode cX11_shift 37 = .ok (.aload_n 0, 1) := by decide +kernel
theorem dX11_shift_38 : decode cX11_shift 38 = .ok (.getfield 52, 3) := by decide +kernel
theorem dX11_shift_41 : decode cX11_shift 41 = .ok (.iload_n 1, 1) := by decide +kernel
theorem dX11_shift_42 : decode cX11_shift 42 = .ok (.iaload, 1) := by decide +kernel
theorem dX11_shift_43 : decode cX11_shift 43 = .ok (.bipush 50, 2) := by decide +kernel
theorem dX11_shift_45 : decode cX11_shift 45 = .ok (.if_icmp .lt 18, 3) := by decide +kernel
theorem dX11_shift_48 : decode cX11_shift 48 = .ok (.aload_n 0, 1) := by decide +kernel
theorem dX11_shift_49 : decode cX11_shift 49 = .ok (.getfield 52, 3) := by decide +kernel
theorem dX11_shift_52 : decode cX11_shift 52 = .ok (.iload_n 1, 1) := by decide +kernel
theorem dX11_shift_53 : decode cX11_shift 53 = .ok (.iaload, 1) := by decide +kernel
theorem dX11_shift_54 : decode cX11_shift 54 = .ok (.aload_n 0, 1) := by decide +kernel
theorem dX11_shift_55 : decode cX11_shift 55 = .ok (.getfield 52, 3) := by decide +kernel
theorem dX11_shift_58 : decode cX11_shift 58 = .ok (.iload_n 3, 1) := by decide +kernel
theorem dX11_shift_59 : decode cX11_shift 59 = .ok (.iaload, 1) := by decide +kernel
theorem dX11_shift_60 : decode cX11_shift 60 = .ok (.if_icmp .eq 6, 3) := by decide +kernel
theorem dX11_shift_63 : decode cX11_shift 63 = .ok (.bipush (-12), 2) := by decide +kernel
theorem dX11_shift_65 : decode cX11_shift 65 = .ok (.ireturn, 1) := by decide +kernel
theorem dX11_shift_66 : decode cX11_shift 66 = .ok (.iload 5, 2) := by decide +kernel
theorem dX11_shift_68 : decode cX11_shift 68 = .ok (.ifCond .lt 39, 3) := by decide +kernel
theorem dX11_shift_71 : decode cX11_shift 71 = .ok (.iload_n 2, 1) := by decide +kernel
theorem dX11_shift_72 : decode cX11_shift 72 = .ok (.ifCond .lt 35, 3) := by decide +kernel
theorem dX11_shift_75 : decode cX11_shift 75 = .ok (.iload 4, 2) := by decide +kernel
theorem dX11_shift_77 : decode cX11_shift 77 = .ok (.ifCond .lt 30, 3) := by decide +kernel
theorem dX11_shift_80 : decode cX11_shift 80 = .ok (.iload_n 2, 1) := by decide +kernel
theorem dX11_shift_81 : decode cX11_shift 81 = .ok (.aload_n 0, 1) := by decide +kernel
theorem dX11_shift_82 : decode cX11_shift 82 = .ok (.getfield 55, 3) := by decide +kernel
theorem dX11_shift_85 : decode cX11_shift 85 = .ok (.iload_n 1, 1) := by decide +kernel
theorem dX11_shift_86 : decode cX11_shift 86 = .ok (.iaload, 1) := by decide +kernel
theorem dX11_shift_87 : decode cX11_shift 87 = .ok (.iload 5, 2) := by decide +kernel
theorem dX11_shift_89 : decode cX11_shift 89 = .ok (.isub, 1) := by decide +kernel
theorem dX11_shift_90 : decode cX11_shift 90 = .ok (.if_icmp .gt 17, 3) := by decide +kernel
theorem dX11_shift_93 : decode cX11_shift 93 = .ok (.iload 4, 2) := by decide +kernel
theorem dX11_shift_95 : decode cX11_shift 95 = .ok (.aload_n 0, 1) := by decide +kernel
theorem dX11_shift_96 : decode cX11_shift 96 = .ok (.getfield 55, 3) := by decide +kernel
theorem dX11_shift_99 : decode cX11_shift 99 = .ok (.iload_n 3, 1) := by decide +kernel
theorem dX11_shift_100 : decode cX11_shift 100 = .ok (.iaload, 1) := by decide +kernel
theorem dX11_shift_101 : decode cX11_shift 101 = .ok (.iload 5, 2) := by decide +kernel
theorem dX11_shift_103 : decode cX11_shift 103 = .ok (.isub, 1) := by decide +kernel
theorem dX11_shift_104 : decode cX11_shift 104 = .ok (.if_icmp .le 6, 3) := by decide +kernel
theorem dX11_shift_107 : decode cX11_shift 107 = .ok (.bipush (-13), 2) := by decide +kernel
theorem dX11_shift_109 : decode cX11_shift 109 = .ok (.ireturn, 1) := by decide +kernel
theorem dX11_shift_110 : decode cX11_shift 110 = .ok (.iconst 0, 1) := by decide +kernel
theorem dX11_shift_111 : decode cX11_shift 111 = .ok (.istore 6, 2) := by decide +kernel
theorem dX11_shift_113 : decode cX11_shift 113 = .ok (.iload 6, 2) := by decide +kernel
theorem dX11_shift_115 : decode cX11_shift 115 = .ok (.iload 5, 2) := by decide +kernel
theorem dX11_shift_117 : decode cX11_shift 117 = .ok (.if_icmp .ge 30, 3) := by decide +kernel
theorem dX11_shift_120 : decode cX11_shift 120 = .ok (.aload_n 0, 1) := by decide +kernel
theorem dX11_shift_121 : decode cX11_shift 121 = .ok (.getfield 62, 3) := by decide +kernel
theorem dX11_shift_124 : decode cX11_shift 124 = .ok (.iload 6, 2) := by decide +kernel
theorem dX11_shift_126 : decode cX11_shift 126 = .ok (.aload_n 0, 1) := by decide +kernel
theorem dX11_shift_127 : decode cX11_shift 127 = .ok (.getfield 58, 3) := by decide +kernel
theorem dX11_shift_130 : decode cX11_shift 130 = .ok (.bipush 60, 2) := by decide +kernel
theorem dX11_shift_132 : decode cX11_shift 132 = .ok (.iload_n 1, 1) := by decide +kernel
theorem dX11_shift_133 : decode cX11_shift 133 = .ok (.imul, 1) := by decide +kernel
theorem dX11_shift_134 : decode cX11_shift 134 = .ok (.iload_n 2, 1) := by decide +kernel
theorem dX11_shift_135 : decode cX11_shift 135 = .ok (.iadd, 1) := by decide +kernel
theorem dX11_shift_136 : decode cX11_shift 136 = .ok (.iload 6, 2) := by decide +kernel
theorem dX11_shift_138 : decode cX11_shift 138 = .ok (.iadd, 1) := by decide +kernel
theorem dX11_shift_139 : decode cX11_shift 139 = .ok (.laload, 1) := by decide +kernel
theorem dX11_shift_140 : decode cX11_shift 140 = .ok (.lastore, 1) := by decide +kernel
theorem dX11_shift_141 : decode cX11_shift 141 = .ok (.iinc 6 1, 3) := by decide +kernel
theorem dX11_shift_144 : decode cX11_shift 144 = .ok (.goto (-31), 3) := by decide +kernel
theorem dX11_shift_147 : decode cX11_shift 147 = .ok (.iconst 0, 1) := by decide +kernel
theorem dX11_shift_148 : decode cX11_shift 148 = .ok (.istore 6, 2) := by decide +kernel
theorem dX11_shift_150 : decode cX11_shift 150 = .ok (.iload 6, 2) := by decide +kernel
theorem dX11_shift_152 : decode cX11_shift 152 = .ok (.iload 5, 2) := by decide +kernel
theorem dX11_shift_154 : decode cX11_shift 154 = .ok (.if_icmp .ge 31, 3) := by decide +kernel
theorem dX11_shift_157 : decode cX11_shift 157 = .ok (.aload_n 0, 1) := by decide +kernel
theorem dX11_shift_158 : decode cX11_shift 158 = .ok (.getfield 58, 3) := by decide +kernel
theorem dX11_shift_161 : decode cX11_shift 161 = .ok (.bipush 60, 2) := by decide +kernel
theorem dX11_shift_163 : decode cX11_shift 163 = .ok (.iload_n 3, 1) := by decide +kernel
theorem dX11_shift_164 : decode cX11_shift 164 = .ok (.imul, 1) := by decide +kernel
theorem dX11_shift_165 : decode cX11_shift 165 = .ok (.iload 4, 2) := by decide +kernel
theorem dX11_shift_167 : decode cX11_shift 167 = .ok (.iadd, 1) := by decide +kernel
theorem dX11_shift_168 : decode cX11_shift 168 = .ok (.iload 6, 2) := by decide +kernel
theorem dX11_shift_170 : decode cX11_shift 170 = .ok (.iadd, 1) := by decide +kernel
theorem dX11_shift_171 : decode cX11_shift 171 = .ok (.aload_n 0, 1) := by decide +kernel
theorem dX11_shift_172 : decode cX11_shift 172 = .ok (.getfield 62, 3) := by decide +kernel
theorem dX11_shift_175 : decode cX11_shift 175 = .ok (.iload 6, 2) := by decide +kernel
theorem dX11_shift_177 : decode cX11_shift 177 = .ok (.laload, 1) := by decide +kernel
theorem dX11_shift_178 : decode cX11_shift 178 = .ok (.lastore, 1) := by decide +kernel
theorem dX11_shift_179 : decode cX11_shift 179 = .ok (.iinc 6 1, 3) := by decide +kernel
theorem dX11_shift_182 : decode cX11_shift 182 = .ok (.goto (-32), 3) := by decide +kernel
theorem dX11_shift_185 : decode cX11_shift 185 = .ok (.iload 5, 2) := by decide +kernel
theorem dX11_shift_187 : decode cX11_shift 187 = .ok (.ireturn, 1) := by decide +kernel
theorem dX11_taken_0 : decode cX11_taken 0 = .ok (.iload_n 1, 1) := by decide +kernel
theorem dX11_taken_1 : decode cX11_taken 1 = .ok (.invokestatic 108, 3) := by decide +kernel
theorem dX11_taken_4 : decode cX11_taken 4 = .ok (.ifCond .eq 15, 3) := by decide +kernel
theorem dX11_taken_7 : decode cX11_taken 7 = .ok (.iload_n 2, 1) := by decide +kernel
theorem dX11_taken_8 : decode cX11_taken 8 = .ok (.i2l, 1) := by decide +kernel
theorem dX11_taken_9 : decode cX11_taken 9 = .ok (.lconst 0, 1) := by decide +kernel
theorem dX11_taken_10 : decode cX11_taken 10 = .ok (.ldc2_w 284, 3) := by decide +kernel
theorem dX11_taken_13 : decode cX11_taken 13 = .ok (.invokestatic 78, 3) := by decide +kernel
theorem dX11_taken_16 : decode cX11_taken 16 = .ok (.ifCond .ne 5, 3) := by decide +kernel
theorem dX11_taken_19 : decode cX11_taken 19 = .ok (.iconst (-1), 1) := by decide +kernel
theorem dX11_taken_20 : decode cX11_taken 20 = .ok (.ireturn, 1) := by decide +kernel
theorem dX11_taken_21 : decode cX11_taken 21 = .ok (.aload_n 0, 1) := by decide +kernel
theorem dX11_taken_22 : decode cX11_taken 22 = .ok (.getfield 52, 3) := by decide +kernel
theorem dX11_taken_25 : decode cX11_taken 25 = .ok (.iload_n 1, 1) := by decide +kernel
theorem dX11_taken_26 : decode cX11_taken 26 = .ok (.iaload, 1) := by decide +kernel
theorem dX11_taken_27 : decode cX11_taken 27 = .ok (.ifCond .ge 6, 3) := by decide +kernel
theorem dX11_taken_30 : decode cX11_taken 30 = .ok (.bipush (-11), 2) := by decide +kernel
theorem dX11_taken_32 : decode cX11_taken 32 = .ok (.ireturn, 1) := by decide +kernel
theorem dX11_taken_33 : decode cX11_taken 33 = .ok (.aload_n 0, 1) := by decide +kernel
theorem dX11_taken_34 : decode cX11_taken 34 = .ok (.getfield 52, 3) := by decide +kernel
theorem dX11_taken_37 : decode cX11_taken 37 = .ok (.iload_n 1, 1) := by decide +kernel
theorem dX11_taken_38 : decode cX11_taken 38 = .ok (.iaload, 1) := by decide +kernel
theorem dX11_taken_39 : decode cX11_taken 39 = .ok (.bipush 50, 2) := by decide +kernel
theorem dX11_taken_41 : decode cX11_taken 41 = .ok (.if_icmp .lt 6, 3) := by decide +kernel
theorem dX11_taken_44 : decode cX11_taken 44 = .ok (.bipush (-12), 2) := by decide +kernel
theorem dX11_taken_46 : decode cX11_taken 46 = .ok (.ireturn, 1) := by decide +kernel
theorem dX11_taken_47 : decode cX11_taken 47 = .ok (.aload_n 0, 1) := by decide +kernel
theorem dX11_taken_48 : decode cX11_taken 48 = .ok (.aload_n 0, 1) := by decide +kernel
theorem dX11_taken_49 : decode cX11_taken 49 = .ok (.getfield 52, 3) := by decide +kernel
theorem dX11_taken_52 : decode cX11_taken 52 = .ok (.iload_n 1, 1) := by decide +kernel
theorem dX11_taken_53 : decode cX11_taken 53 = .ok (.iaload, 1) := by decide +kernel
theorem dX11_taken_54 : decode cX11_taken 54 = .ok (.invokevirtual 327, 3) := by decide +kernel
theorem dX11_taken_57 : decode cX11_taken 57 = .ok (.istore_n 3, 1) := by decide +kernel
theorem dX11_taken_58 : decode cX11_taken 58 = .ok (.iload_n 3, 1) := by decide +kernel
theorem dX11_taken_59 : decode cX11_taken 59 = .ok (.iload_n 2, 1) := by decide +kernel
theorem dX11_taken_60 : decode cX11_taken 60 = .ok (.if_icmp .eq 15, 3) := by decide +kernel
theorem dX11_taken_63 : decode cX11_taken 63 = .ok (.iload_n 3, 1) := by decide +kernel
theorem dX11_taken_64 : decode cX11_taken 64 = .ok (.ifCond .le 11, 3) := by decide +kernel
theorem dX11_taken_67 : decode cX11_taken 67 = .ok (.iload_n 3, 1) := by decide +kernel
theorem dX11_taken_68 : decode cX11_taken 68 = .ok (.invokestatic 330, 3) := by decide +kernel
theorem dX11_taken_71 : decode cX11_taken 71 = .ok (.istore_n 3, 1) := by decide +kernel
theorem dX11_taken_72 : decode cX11_taken 72 = .ok (.goto (-14), 3) := by decide +kernel
theorem dX11_taken_75 : decode cX11_taken 75 = .ok (.iload_n 3, 1) := by decide +kernel
theorem dX11_taken_76 : decode cX11_taken 76 = .ok (.iload_n 2, 1) := by decide +kernel
theorem dX11_taken_77 : decode cX11_taken 77 = .ok (.if_icmp .ne 16, 3) := by decide +kernel
theorem dX11_taken_80 : decode cX11_taken 80 = .ok (.aload_n 0, 1) := by decide +kernel
theorem dX11_taken_81 : decode cX11_taken 81 = .ok (.aload_n 0, 1) := by decide +kernel
theorem dX11_taken_82 : decode cX11_taken 82 = .ok (.getfield 52, 3) := by decide +kernel
theorem dX11_taken_85 : decode cX11_taken 85 = .ok (.iload_n 1, 1) := by decide +kernel
theorem dX11_taken_86 : decode cX11_taken 86 = .ok (.iaload, 1) := by decide +kernel
theorem dX11_taken_87 : decode cX11_taken 87 = .ok (.invokevirtual 327, 3) := by decide +kernel
theorem dX11_taken_90 : decode cX11_taken 90 = .ok (.goto 5, 3) := by decide +kernel
theorem dX11_taken_93 : decode cX11_taken 93 = .ok (.bipush (-12), 2) := by decide +kernel
theorem dX11_taken_95 : decode cX11_taken 95 = .ok (.ireturn, 1) := by decide +kernel
theorem dX11_count_0 : decode cX11_count 0 = .ok (.iload_n 1, 1) := by decide +kernel
theorem dX11_count_1 : decode cX11_count 1 = .ok (.tableswitch 69 0 5 #[39, 44, 49, 54, 59, 64], 39) := by decide +kernel
theorem dX11_count_40 : decode cX11_count 40 = .ok (.aload_n 0, 1) := by decide +kernel
theorem dX11_count_41 : decode cX11_count 41 = .ok (.getfield 75, 3) := by decide +kernel
theorem dX11_count_44 : decode cX11_count 44 = .ok (.ireturn, 1) := by decide +kernel
theorem dX11_count_45 : decode cX11_count 45 = .ok (.aload_n 0, 1) := by decide +kernel
theorem dX11_count_46 : decode cX11_count 46 = .ok (.getfield 82, 3) := by decide +kernel
theorem dX11_count_49 : decode cX11_count 49 = .ok (.ireturn, 1) := by decide +kernel
theorem dX11_count_50 : decode cX11_count 50 = .ok (.aload_n 0, 1) := by decide +kernel
theorem dX11_count_51 : decode cX11_count 51 = .ok (.getfield 141, 3) := by decide +kernel
theorem dX11_count_54 : decode cX11_count 54 = .ok (.ireturn, 1) := by decide +kernel
theorem dX11_count_55 : decode cX11_count 55 = .ok (.aload_n 0, 1) := by decide +kernel
theorem dX11_count_56 : decode cX11_count 56 = .ok (.getfield 69, 3) := by decide +kernel
theorem dX11_count_59 : decode cX11_count 59 = .ok (.ireturn, 1) := by decide +kernel
theorem dX11_count_60 : decode cX11_count 60 = .ok (.aload_n 0, 1) := by decide +kernel
theorem dX11_count_61 : decode cX11_count 61 = .ok (.getfield 281, 3) := by decide +kernel
theorem dX11_count_64 : decode cX11_count 64 = .ok (.ireturn, 1) := by decide +kernel
theorem dX11_count_65 : decode cX11_count 65 = .ok (.aload_n 0, 1) := by decide +kernel
theorem dX11_count_66 : decode cX11_count 66 = .ok (.getfield 286, 3) := by decide +kernel
theorem dX11_count_69 : decode cX11_count 69 = .ok (.ireturn, 1) := by decide +kernel
theorem dX11_count_70 : decode cX11_count 70 = .ok (.iconst (-1), 1) := by decide +kernel
theorem dX11_count_71 : decode cX11_count 71 = .ok (.ireturn, 1) := by decide +kernel
