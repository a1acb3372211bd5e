theorem dX8_init_0 : decode cX8_init 0 = .ok (.aload_n 0, 1) := by decide +kernel
theorem dX8_init_1 : decode cX8_init 1 = .ok (.invokespecial 3, 3) := by decide +kernel
theorem dX8_init_4 : decode cX8_init 4 = .ok (.aload_n 0, 1) := by decide +kernel
theorem dX8_init_5 : decode cX8_init 5 = .ok (.bipush 50, 2) := by decide +kernel
theorem dX8_init_7 : decode cX8_init 7 = .ok (.newarray .int, 2) := by decide +kernel
theorem dX8_init_9 : decode cX8_init 9 = .ok (.putfield 11, 3) := by decide +kernel
theorem dX8_init_12 : decode cX8_init 12 = .ok (.aload_n 0, 1) := by decide +kernel
theorem dX8_init_13 : decode cX8_init 13 = .ok (.bipush 24, 2) := by decide +kernel
theorem dX8_init_15 : decode cX8_init 15 = .ok (.newarray .int, 2) := by decide +kernel
theorem dX8_init_17 : decode cX8_init 17 = .ok (.putfield 15, 3) := by decide +kernel
theorem dX8_init_20 : decode cX8_init 20 = .ok (.return_, 1) := by decide +kernel
theorem dX8_plant_0 : decode cX8_plant 0 = .ok (.aload_n 0, 1) := by decide +kernel
theorem dX8_plant_1 : decode cX8_plant 1 = .ok (.getfield 18, 3) := by decide +kernel
theorem dX8_plant_4 : decode cX8_plant 4 = .ok (.bipush 50, 2) := by decide +kernel
theorem dX8_plant_6 : decode cX8_plant 6 = .ok (.if_icmp .lt 6, 3) := by decide +kernel
theorem dX8_plant_9 : decode cX8_plant 9 = .ok (.bipush (-3), 2) := by decide +kernel
theorem dX8_plant_11 : decode cX8_plant 11 = .ok (.ireturn, 1) := by decide +kernel
theorem dX8_plant_12 : decode cX8_plant 12 = .ok (.aload_n 0, 1) := by decide +kernel
theorem dX8_plant_13 : decode cX8_plant 13 = .ok (.getfield 11, 3) := by decide +kernel
theorem dX8_plant_16 : decode cX8_plant 16 = .ok (.aload_n 0, 1) := by decide +kernel
theorem dX8_plant_17 : decode cX8_plant 17 = .ok (.getfield 18, 3) := by decide +kernel
theorem dX8_plant_20 : decode cX8_plant 20 = .ok (.iload_n 1, 1) := by decide +kernel
theorem dX8_plant_21 : decode cX8_plant 21 = .ok (.iastore, 1) := by decide +kernel
theorem dX8_plant_22 : decode cX8_plant 22 = .ok (.aload_n 0, 1) := by decide +kernel
theorem dX8_plant_23 : decode cX8_plant 23 = .ok (.dup, 1) := by decide +kernel
theorem dX8_plant_24 : decode cX8_plant 24 = .ok (.getfield 18, 3) := by decide +kernel
theorem dX8_plant_27 : decode cX8_plant 27 = .ok (.iconst 1, 1) := by decide +kernel
theorem dX8_plant_28 : decode cX8_plant 28 = .ok (.iadd, 1) := by decide +kernel
theorem dX8_plant_29 : decode cX8_plant 29 = .ok (.putfield 18, 3) := by decide +kernel
theorem dX8_plant_32 : decode cX8_plant 32 = .ok (.aload_n 0, 1) := by decide +kernel
theorem dX8_plant_33 : decode cX8_plant 33 = .ok (.getfield 18, 3) := by decide +kernel
theorem dX8_plant_36 : decode cX8_plant 36 = .ok (.iconst 1, 1) := by decide +kernel
theorem dX8_plant_37 : decode cX8_plant 37 = .ok (.isub, 1) := by decide +kernel
theorem dX8_plant_38 : decode cX8_plant 38 = .ok (.ireturn, 1) := by decide +kernel
theorem dX8_kindOf_0 : decode cX8_kindOf 0 = .ok (.iload_n 1, 1) := by decide +kernel
theorem dX8_kindOf_1 : decode cX8_kindOf 1 = .ok (.ifCond .lt 20, 3) := by decide +kernel
theorem dX8_kindOf_4 : decode cX8_kindOf 4 = .ok (.iload_n 1, 1) := by decide +kernel
theorem dX8_kindOf_5 : decode cX8_kindOf 5 = .ok (.aload_n 0, 1) := by decide +kernel
theorem dX8_kindOf_6 : decode cX8_kindOf 6 = .ok (.getfield 18, 3) := by decide +kernel
theorem dX8_kindOf_9 : decode cX8_kindOf 9 = .ok (.if_icmp .ge 12, 3) := by decide +kernel
theorem dX8_kindOf_12 : decode cX8_kindOf 12 = .ok (.aload_n 0, 1) := by decide +kernel
theorem dX8_kindOf_13 : decode cX8_kindOf 13 = .ok (.getfield 11, 3) := by decide +kernel
theorem dX8_kindOf_16 : decode cX8_kindOf 16 = .ok (.iload_n 1, 1) := by decide +kernel
theorem dX8_kindOf_17 : decode cX8_kindOf 17 = .ok (.iaload, 1) := by decide +kernel
theorem dX8_kindOf_18 : decode cX8_kindOf 18 = .ok (.goto 4, 3) := by decide +kernel
theorem dX8_kindOf_21 : decode cX8_kindOf 21 = .ok (.iconst (-1), 1) := by decide +kernel
theorem dX8_kindOf_22 : decode cX8_kindOf 22 = .ok (.ireturn, 1) := by decide +kernel
theorem dX8_isUnder_0 : decode cX8_isUnder 0 = .ok (.iload_n 1, 1) := by decide +kernel
theorem dX8_isUnder_1 : decode cX8_isUnder 1 = .ok (.istore_n 3, 1) := by decide +kernel
theorem dX8_isUnder_2 : decode cX8_isUnder 2 = .ok (.iconst 0, 1) := by decide +kernel
theorem dX8_isUnder_3 : decode cX8_isUnder 3 = .ok (.istore 4, 2) := by decide +kernel
theorem dX8_isUnder_5 : decode cX8_isUnder 5 = .ok (.iload 4, 2) := by decide +kernel
theorem dX8_isUnder_7 : decode cX8_isUnder 7 = .ok (.getstatic 22, 3) := by decide +kernel
theorem dX8_isUnder_10 : decode cX8_isUnder 10 = .ok (.arraylength, 1) := by decide +kernel
theorem dX8_isUnder_11 : decode cX8_isUnder 11 = .ok (.if_icmp .ge 34, 3) := by decide +kernel
theorem dX8_isUnder_14 : decode cX8_isUnder 14 = .ok (.iload_n 3, 1) := by decide +kernel
theorem dX8_isUnder_15 : decode cX8_isUnder 15 = .ok (.ifCond .lt 30, 3) := by decide +kernel
theorem dX8_isUnder_18 : decode cX8_isUnder 18 = .ok (.iload_n 3, 1) := by decide +kernel
theorem dX8_isUnder_19 : decode cX8_isUnder 19 = .ok (.getstatic 22, 3) := by decide +kernel
theorem dX8_isUnder_22 : decode cX8_isUnder 22 = .ok (.arraylength, 1) := by decide +kernel
theorem dX8_isUnder_23 : decode cX8_isUnder 23 = .ok (.if_icmp .ge 22, 3) := by decide +kernel
theorem dX8_isUnder_26 : decode cX8_isUnder 26 = .ok (.iload_n 3, 1) := by decide +kernel
theorem dX8_isUnder_27 : decode cX8_isUnder 27 = .ok (.iload_n 2, 1) := by decide +kernel
theorem dX8_isUnder_28 : decode cX8_isUnder 28 = .ok (.if_icmp .ne 5, 3) := by decide +kernel
theorem dX8_isUnder_31 : decode cX8_isUnder 31 = .ok (.iconst 1, 1) := by decide +kernel
theorem dX8_isUnder_32 : decode cX8_isUnder 32 = .ok (.ireturn, 1) := by decide +kernel
theorem dX8_isUnder_33 : decode cX8_isUnder 33 = .ok (.getstatic 22, 3) := by decide +kernel
theorem dX8_isUnder_36 : decode cX8_isUnder 36 = .ok (.iload_n 3, 1) := by decide +kernel
theorem dX8_isUnder_37 : decode cX8_isUnder 37 = .ok (.iaload, 1) := by decide +kernel
theorem dX8_isUnder_38 : decode cX8_isUnder 38 = .ok (.istore_n 3, 1) := by decide +kernel
theorem dX8_isUnder_39 : decode cX8_isUnder 39 = .ok (.iinc 4 1, 3) := by decide +kernel
theorem dX8_isUnder_42 : decode cX8_isUnder 42 = .ok (.goto (-37), 3) := by decide +kernel
theorem dX8_isUnder_45 : decode cX8_isUnder 45 = .ok (.iconst 0, 1) := by decide +kernel
theorem dX8_isUnder_46 : decode cX8_isUnder 46 = .ok (.ireturn, 1) := by decide +kernel
theorem dX8_perform_0 : decode cX8_perform 0 = .ok (.aload_n 0, 1) := by decide +kernel
theorem dX8_perform_1 : decode cX8_perform 1 = .ok (.iconst 0, 1) := by decide +kernel
theorem dX8_perform_2 : decode cX8_perform 2 = .ok (.putfield 25, 3) := by decide +kernel
theorem dX8_perform_5 : decode cX8_perform 5 = .ok (.iload_n 1, 1) := by decide +kernel
theorem dX8_perform_6 : decode cX8_perform 6 = .ok (.ifCond .lt 20, 3) := by decide +kernel
theorem dX8_perform_9 : decode cX8_perform 9 = .ok (.iload_n 1, 1) := by decide +kernel
theorem dX8_perform_10 : decode cX8_perform 10 = .ok (.aload_n 0, 1) := by decide +kernel
theorem dX8_perform_11 : decode cX8_perform 11 = .ok (.getfield 18, 3) := by decide +kernel
theorem dX8_perform_14 : decode cX8_perform 14 = .ok (.if_icmp .ge 12, 3) := by decide +kernel
theorem dX8_perform_17 : decode cX8_perform 17 = .ok (.iload_n 2, 1) := by decide +kernel
theorem dX8_perform_18 : decode cX8_perform 18 = .ok (.ifCond .lt 8, 3) := by decide +kernel
theorem dX8_perform_21 : decode cX8_perform 21 = .ok (.iload_n 2, 1) := by decide +kernel
theorem dX8_perform_22 : decode cX8_perform 22 = .ok (.iconst 4, 1) := by decide +kernel
theorem dX8_perform_23 : decode cX8_perform 23 = .ok (.if_icmp .lt 5, 3) := by decide +kernel
theorem dX8_perform_26 : decode cX8_perform 26 = .ok (.iconst 0, 1) := by decide +kernel
theorem dX8_perform_27 : decode cX8_perform 27 = .ok (.ireturn, 1) := by decide +kernel
theorem dX8_perform_28 : decode cX8_perform 28 = .ok (.aload_n 0, 1) := by decide +kernel
theorem dX8_perform_29 : decode cX8_perform 29 = .ok (.iload_n 1, 1) := by decide +kernel
theorem dX8_perform_30 : decode cX8_perform 30 = .ok (.putfield 28, 3) := by decide +kernel
theorem dX8_perform_33 : decode cX8_perform 33 = .ok (.aload_n 0, 1) := by decide +kernel
theorem dX8_perform_34 : decode cX8_perform 34 = .ok (.iload_n 2, 1) := by decide +kernel
theorem dX8_perform_35 : decode cX8_perform 35 = .ok (.iload_n 3, 1) := by decide +kernel
theorem dX8_perform_36 : decode cX8_perform 36 = .ok (.iconst 0, 1) := by decide +kernel
theorem dX8_perform_37 : decode cX8_perform 37 = .ok (.invokevirtual 31, 3) := by decide +kernel
theorem dX8_perform_40 : decode cX8_perform 40 = .ok (.ireturn, 1) := by decide +kernel
theorem dX8_traced_0 : decode cX8_traced 0 = .ok (.iload_n 1, 1) := by decide +kernel
theorem dX8_traced_1 : decode cX8_traced 1 = .ok (.ifCond .lt 26, 3) := by decide +kernel
theorem dX8_traced_4 : decode cX8_traced 4 = .ok (.iload_n 1, 1) := by decide +kernel
theorem dX8_traced_5 : decode cX8_traced 5 = .ok (.aload_n 0, 1) := by decide +kernel
theorem dX8_traced_6 : decode cX8_traced 6 = .ok (.getfield 25, 3) := by decide +kernel
theorem dX8_traced_9 : decode cX8_traced 9 = .ok (.if_icmp .ge 18, 3) := by decide +kernel
theorem dX8_traced_12 : decode cX8_traced 12 = .ok (.iload_n 1, 1) := by decide +kernel
theorem dX8_traced_13 : decode cX8_traced 13 = .ok (.bipush 24, 2) := by decide +kernel
theorem dX8_traced_15 : decode cX8_traced 15 = .ok (.if_icmp .ge 12, 3) := by decide +kernel
theorem dX8_traced_18 : decode cX8_traced 18 = .ok (.aload_n 0, 1) := by decide +kernel
theorem dX8_traced_19 : decode cX8_traced 19 = .ok (.getfield 15, 3) := by decide +kernel
theorem dX8_traced_22 : decode cX8_traced 22 = .ok (.iload_n 1, 1) := by decide +kernel
theorem dX8_traced_23 : decode cX8_traced 23 = .ok (.iaload, 1) := by decide +kernel
theorem dX8_traced_24 : decode cX8_traced 24 = .ok (.goto 4, 3) := by decide +kernel
theorem dX8_traced_27 : decode cX8_traced 27 = .ok (.iconst (-1), 1) := by decide +kernel
theorem dX8_traced_28 : decode cX8_traced 28 = .ok (.ireturn, 1) := by decide +kernel
theorem dX8_own_0 : decode cX8_own 0 = .ok (.aload_n 0, 1) := by decide +kernel
theorem dX8_own_1 : decode cX8_own 1 = .ok (.aload_n 0, 1) := by decide +kernel
theorem dX8_own_2 : decode cX8_own 2 = .ok (.aload_n 0, 1) := by decide +kernel
theorem dX8_own_3 : decode cX8_own 3 = .ok (.getfield 28, 3) := by decide +kernel
theorem dX8_own_6 : decode cX8_own 6 = .ok (.invokevirtual 35, 3) := by decide +kernel
theorem dX8_own_9 : decode cX8_own 9 = .ok (.iload_n 1, 1) := by decide +kernel
theorem dX8_own_10 : decode cX8_own 10 = .ok (.iload_n 2, 1) := by decide +kernel
theorem dX8_own_11 : decode cX8_own 11 = .ok (.iload_n 3, 1) := by decide +kernel
theorem dX8_own_12 : decode cX8_own 12 = .ok (.invokevirtual 39, 3) := by decide +kernel
theorem dX8_own_15 : decode cX8_own 15 = .ok (.ireturn, 1) := by decide +kernel
theorem dX8_over_0 : decode cX8_over 0 = .ok (.iload_n 1, 1) := by decide +kernel
theorem dX8_over_1 : decode cX8_over 1 = .ok (.ifCond .lt 27, 3) := by decide +kernel
theorem dX8_over_4 : decode cX8_over 4 = .ok (.iload_n 1, 1) := by decide +kernel
theorem dX8_over_5 : decode cX8_over 5 = .ok (.getstatic 22, 3) := by decide +kernel
theorem dX8_over_8 : decode cX8_over 8 = .ok (.arraylength, 1) := by decide +kernel
theorem dX8_over_9 : decode cX8_over 9 = .ok (.if_icmp .ge 19, 3) := by decide +kernel
theorem dX8_over_12 : decode cX8_over 12 = .ok (.aload_n 0, 1) := by decide +kernel
theorem dX8_over_13 : decode cX8_over 13 = .ok (.getstatic 22, 3) := by decide +kernel
theorem dX8_over_16 : decode cX8_over 16 = .ok (.iload_n 1, 1) := by decide +kernel
theorem dX8_over_17 : decode cX8_over 17 = .ok (.iaload, 1) := by decide +kernel
theorem dX8_over_18 : decode cX8_over 18 = .ok (.iload_n 2, 1) := by decide +kernel
theorem dX8_over_19 : decode cX8_over 19 = .ok (.iload_n 3, 1) := by decide +kernel
theorem dX8_over_20 : decode cX8_over 20 = .ok (.iload 4, 2) := by decide +kernel
theorem dX8_over_22 : decode cX8_over 22 = .ok (.invokevirtual 39, 3) := by decide +kernel
theorem dX8_over_25 : decode cX8_over 25 = .ok (.goto 4, 3) := by decide +kernel
theorem dX8_over_28 : decode cX8_over 28 = .ok (.iconst 0, 1) := by decide +kernel
theorem dX8_over_29 : decode cX8_over 29 = .ok (.ireturn, 1) := by decide +kernel
theorem dX8_from_0 : decode cX8_from 0 = .ok (.iload_n 1, 1) := by decide +kernel
theorem dX8_from_1 : decode cX8_from 1 = .ok (.istore 5, 2) := by decide +kernel
theorem dX8_from_3 : decode cX8_from 3 = .ok (.iconst 0, 1) := by decide +kernel
theorem dX8_from_4 : decode cX8_from 4 = .ok (.istore 6, 2) := by decide +kernel
theorem dX8_from_6 : decode cX8_from 6 = .ok (.iload 6, 2) := by decide +kernel
theorem dX8_from_8 : decode cX8_from 8 = .ok (.getstatic 22, 3) := by decide +kernel
theorem dX8_from_11 : decode cX8_from 11 = .ok (.arraylength, 1) := by decide +kernel
theorem dX8_from_12 : decode cX8_from 12 = .ok (.if_icmp .ge 73, 3) := by decide +kernel
theorem dX8_from_15 : decode cX8_from 15 = .ok (.iload 5, 2) := by decide +kernel
theorem dX8_from_17 : decode cX8_from 17 = .ok (.ifCond .lt 68, 3) := by decide +kernel
theorem dX8_from_20 : decode cX8_from 20 = .ok (.iload 5, 2) := by decide +kernel
theorem dX8_from_22 : decode cX8_from 22 = .ok (.getstatic 22, 3) := by decide +kernel
theorem dX8_from_25 : decode cX8_from 25 = .ok (.arraylength, 1) := by decide +kernel
theorem dX8_from_26 : decode cX8_from 26 = .ok (.if_icmp .ge 59, 3) := by decide +kernel
theorem dX8_from_29 : decode cX8_from 29 = .ok (.getstatic 43, 3) := by decide +kernel
theorem dX8_from_32 : decode cX8_from 32 = .ok (.iconst 4, 1) := by decide +kernel
theorem dX8_from_33 : decode cX8_from 33 = .ok (.iload 5, 2) := by decide +kernel
theorem dX8_from_35 : decode cX8_from 35 = .ok (.imul, 1) := by decide +kernel
theorem dX8_from_36 : decode cX8_from 36 = .ok (.iload_n 2, 1) := by decide +kernel
theorem dX8_from_37 : decode cX8_from 37 = .ok (.iadd, 1) := by decide +kernel
theorem dX8_from_38 : decode cX8_from 38 = .ok (.iaload, 1) := by decide +kernel
theorem dX8_from_39 : decode cX8_from 39 = .ok (.istore 7, 2) := by decide +kernel
theorem dX8_from_41 : decode cX8_from 41 = .ok (.iload 7, 2) := by decide +kernel
theorem dX8_from_43 : decode cX8_from 43 = .ok (.ifCond .eq 28, 3) := by decide +kernel
theorem dX8_from_46 : decode cX8_from 46 = .ok (.iload 4, 2) := by decide +kernel
theorem dX8_from_48 : decode cX8_from 48 = .ok (.bipush 40, 2) := by decide +kernel
theorem dX8_from_50 : decode cX8_from 50 = .ok (.if_icmp .ge 19, 3) := by decide +kernel
theorem dX8_from_53 : decode cX8_from 53 = .ok (.aload_n 0, 1) := by decide +kernel
theorem dX8_from_54 : decode cX8_from 54 = .ok (.iload 7, 2) := by decide +kernel
theorem dX8_from_56 : decode cX8_from 56 = .ok (.iload 5, 2) := by decide +kernel
theorem dX8_from_58 : decode cX8_from 58 = .ok (.iload_n 3, 1) := by decide +kernel
theorem dX8_from_59 : decode cX8_from 59 = .ok (.iload 4, 2) := by decide +kernel
theorem dX8_from_61 : decode cX8_from 61 = .ok (.iconst 1, 1) := by decide +kernel
theorem dX8_from_62 : decode cX8_from 62 = .ok (.iadd, 1) := by decide +kernel
theorem dX8_from_63 : decode cX8_from 63 = .ok (.invokevirtual 46, 3) := by decide +kernel
theorem dX8_from_66 : decode cX8_from 66 = .ok (.goto 4, 3) := by decide +kernel
theorem dX8_from_69 : decode cX8_from 69 = .ok (.iconst 0, 1) := by decide +kernel
theorem dX8_from_70 : decode cX8_from 70 = .ok (.ireturn, 1) := by decide +kernel
theorem dX8_from_71 : decode cX8_from 71 = .ok (.getstatic 22, 3) := by decide +kernel
theorem dX8_from_74 : decode cX8_from 74 = .ok (.iload 5, 2) := by decide +kernel
theorem dX8_from_76 : decode cX8_from 76 = .ok (.iaload, 1) := by decide +kernel
theorem dX8_from_77 : decode cX8_from 77 = .ok (.istore 5, 2) := by decide +kernel
theorem dX8_from_79 : decode cX8_from 79 = .ok (.iinc 6 1, 3) := by decide +kernel
theorem dX8_from_82 : decode cX8_from 82 = .ok (.goto (-76), 3) := by decide +kernel
theorem dX8_from_85 : decode cX8_from 85 = .ok (.iconst 0, 1) := by decide +kernel
theorem dX8_from_86 : decode cX8_from 86 = .ok (.ireturn, 1) := by decide +kernel
theorem dX8_run_0 : decode cX8_run 0 = .ok (.aload_n 0, 1) := by decide +kernel
theorem dX8_run_1 : decode cX8_run 1 = .ok (.getfield 25, 3) := by decide +kernel
theorem dX8_run_4 : decode cX8_run 4 = .ok (.bipush 24, 2) := by decide +kernel
theorem dX8_run_6 : decode cX8_run 6 = .ok (.if_icmp .ge 13, 3) := by decide +kernel
theorem dX8_run_9 : decode cX8_run 9 = .ok (.aload_n 0, 1) := by decide +kernel
theorem dX8_run_10 : decode cX8_run 10 = .ok (.getfield 15, 3) := by decide +kernel
theorem dX8_run_13 : decode cX8_run 13 = .ok (.aload_n 0, 1) := by decide +kernel
theorem dX8_run_14 : decode cX8_run 14 = .ok (.getfield 25, 3) := by decide +kernel
theorem dX8_run_17 : decode cX8_run 17 = .ok (.iload_n 1, 1) := by decide +kernel
theorem dX8_run_18 : decode cX8_run 18 = .ok (.iastore, 1) := by decide +kernel
theorem dX8_run_19 : decode cX8_run 19 = .ok (.aload_n 0, 1) := by decide +kernel
theorem dX8_run_20 : decode cX8_run 20 = .ok (.dup, 1) := by decide +kernel
theorem dX8_run_21 : decode cX8_run 21 = .ok (.getfield 25, 3) := by decide +kernel
theorem dX8_run_24 : decode cX8_run 24 = .ok (.iconst 1, 1) := by decide +kernel
theorem dX8_run_25 : decode cX8_run 25 = .ok (.iadd, 1) := by decide +kernel
theorem dX8_run_26 : decode cX8_run 26 = .ok (.putfield 25, 3) := by decide +kernel
theorem dX8_run_29 : decode cX8_run 29 = .ok (.iload_n 1, 1) := by decide +kernel
theorem dX8_run_30 : decode cX8_run 30 = .ok (.lookupswitch 278 #[(1, 114), (2, 139), (10, 121), (11, 132), (20, 157), (30, 169), (40, 180), (41, 192), (50, 204), (60, 223), (70, 235), (80, 247), (81, 266)], 114) := by decide +kernel
theorem dX8_run_144 : decode cX8_run 144 = .ok (.iload_n 3, 1) := by decide +kernel
theorem dX8_run_145 : decode cX8_run 145 = .ok (.aload_n 0, 1) := by decide +kernel
theorem dX8_run_146 : decode cX8_run 146 = .ok (.getfield 28, 3) := by decide +kernel
theorem dX8_run_149 : decode cX8_run 149 = .ok (.iadd, 1) := by decide +kernel
theorem dX8_run_150 : decode cX8_run 150 = .ok (.ireturn, 1) := by decide +kernel
theorem dX8_run_151 : decode cX8_run 151 = .ok (.aload_n 0, 1) := by decide +kernel
theorem dX8_run_152 : decode cX8_run 152 = .ok (.iconst 0, 1) := by decide +kernel
theorem dX8_run_153 : decode cX8_run 153 = .ok (.iload_n 3, 1) := by decide +kernel
theorem dX8_run_154 : decode cX8_run 154 = .ok (.iload 4, 2) := by decide +kernel
theorem dX8_run_156 : decode cX8_run 156 = .ok (.invokevirtual 31, 3) := by decide +kernel
theorem dX8_run_159 : decode cX8_run 159 = .ok (.iconst 2, 1) := by decide +kernel
theorem dX8_run_160 : decode cX8_run 160 = .ok (.imul, 1) := by decide +kernel
theorem dX8_run_161 : decode cX8_run 161 = .ok (.ireturn, 1) := by decide +kernel
theorem dX8_run_162 : decode cX8_run 162 = .ok (.iload_n 3, 1) := by decide +kernel
theorem dX8_run_163 : decode cX8_run 163 = .ok (.aload_n 0, 1) := by decide +kernel
theorem dX8_run_164 : decode cX8_run 164 = .ok (.getfield 28, 3) := by decide +kernel
theorem dX8_run_167 : decode cX8_run 167 = .ok (.ixor, 1) := by decide +kernel
theorem dX8_run_168 : decode cX8_run 168 = .ok (.ireturn, 1) := by decide +kernel
theorem dX8_run_169 : decode cX8_run 169 = .ok (.aload_n 0, 1) := by decide +kernel
theorem dX8_run_170 : decode cX8_run 170 = .ok (.iconst 1, 1) := by decide +kernel
theorem dX8_run_171 : decode cX8_run 171 = .ok (.iload_n 3, 1) := by decide +kernel
theorem dX8_run_172 : decode cX8_run 172 = .ok (.iload 4, 2) := by decide +kernel
theorem dX8_run_174 : decode cX8_run 174 = .ok (.invokevirtual 31, 3) := by decide +kernel
theorem dX8_run_177 : decode cX8_run 177 = .ok (.aload_n 0, 1) := by decide +kernel
theorem dX8_run_178 : decode cX8_run 178 = .ok (.iconst 2, 1) := by decide +kernel
theorem dX8_run_179 : decode cX8_run 179 = .ok (.iconst 1, 1) := by decide +kernel
theorem dX8_run_180 : decode cX8_run 180 = .ok (.iload 4, 2) := by decide +kernel
theorem dX8_run_182 : decode cX8_run 182 = .ok (.invokevirtual 31, 3) := by decide +kernel
theorem dX8_run_185 : decode cX8_run 185 = .ok (.isub, 1) := by decide +kernel
theorem dX8_run_186 : decode cX8_run 186 = .ok (.ireturn, 1) := by decide +kernel
theorem dX8_run_187 : decode cX8_run 187 = .ok (.aload_n 0, 1) := by decide +kernel
theorem dX8_run_188 : decode cX8_run 188 = .ok (.iload_n 2, 1) := by decide +kernel
theorem dX8_run_189 : decode cX8_run 189 = .ok (.iconst 0, 1) := by decide +kernel
theorem dX8_run_190 : decode cX8_run 190 = .ok (.iload_n 3, 1) := by decide +kernel
theorem dX8_run_191 : decode cX8_run 191 = .ok (.iload 4, 2) := by decide +kernel
theorem dX8_run_193 : decode cX8_run 193 = .ok (.invokevirtual 49, 3) := by decide +kernel
theorem dX8_run_196 : decode cX8_run 196 = .ok (.iconst 3, 1) := by decide +kernel
theorem dX8_run_197 : decode cX8_run 197 = .ok (.iadd, 1) := by decide +kernel
theorem dX8_run_198 : decode cX8_run 198 = .ok (.ireturn, 1) := by decide +kernel
theorem dX8_run_199 : decode cX8_run 199 = .ok (.aload_n 0, 1) := by decide +kernel
theorem dX8_run_200 : decode cX8_run 200 = .ok (.iload_n 2, 1) := by decide +kernel
theorem dX8_run_201 : decode cX8_run 201 = .ok (.iconst 1, 1) := by decide +kernel
theorem dX8_run_202 : decode cX8_run 202 = .ok (.iload_n 3, 1) := by decide +kernel
theorem dX8_run_203 : decode cX8_run 203 = .ok (.iload 4, 2) := by decide +kernel
theorem dX8_run_205 : decode cX8_run 205 = .ok (.invokevirtual 49, 3) := by decide +kernel
theorem dX8_run_208 : decode cX8_run 208 = .ok (.ineg, 1) := by decide +kernel
theorem dX8_run_209 : decode cX8_run 209 = .ok (.ireturn, 1) := by decide +kernel
theorem dX8_run_210 : decode cX8_run 210 = .ok (.aload_n 0, 1) := by decide +kernel
theorem dX8_run_211 : decode cX8_run 211 = .ok (.iload_n 2, 1) := by decide +kernel
theorem dX8_run_212 : decode cX8_run 212 = .ok (.iconst 2, 1) := by decide +kernel
theorem dX8_run_213 : decode cX8_run 213 = .ok (.iload_n 3, 1) := by decide +kernel
theorem dX8_run_214 : decode cX8_run 214 = .ok (.iload 4, 2) := by decide +kernel
theorem dX8_run_216 : decode cX8_run 216 = .ok (.invokevirtual 49, 3) := by decide +kernel
theorem dX8_run_219 : decode cX8_run 219 = .ok (.iconst 3, 1) := by decide +kernel
theorem dX8_run_220 : decode cX8_run 220 = .ok (.imul, 1) := by decide +kernel
theorem dX8_run_221 : decode cX8_run 221 = .ok (.ireturn, 1) := by decide +kernel
theorem dX8_run_222 : decode cX8_run 222 = .ok (.aload_n 0, 1) := by decide +kernel
theorem dX8_run_223 : decode cX8_run 223 = .ok (.iload_n 2, 1) := by decide +kernel
theorem dX8_run_224 : decode cX8_run 224 = .ok (.iconst 1, 1) := by decide +kernel
theorem dX8_run_225 : decode cX8_run 225 = .ok (.iload_n 3, 1) := by decide +kernel
theorem dX8_run_226 : decode cX8_run 226 = .ok (.iconst 1, 1) := by decide +kernel
theorem dX8_run_227 : decode cX8_run 227 = .ok (.iadd, 1) := by decide +kernel
theorem dX8_run_228 : decode cX8_run 228 = .ok (.iload 4, 2) := by decide +kernel
theorem dX8_run_230 : decode cX8_run 230 = .ok (.invokevirtual 49, 3) := by decide +kernel
theorem dX8_run_233 : decode cX8_run 233 = .ok (.ireturn, 1) := by decide +kernel
theorem dX8_run_234 : decode cX8_run 234 = .ok (.aload_n 0, 1) := by decide +kernel
theorem dX8_run_235 : decode cX8_run 235 = .ok (.iload_n 2, 1) := by decide +kernel
theorem dX8_run_236 : decode cX8_run 236 = .ok (.iconst 2, 1) := by decide +kernel
theorem dX8_run_237 : decode cX8_run 237 = .ok (.iload_n 3, 1) := by decide +kernel
theorem dX8_run_238 : decode cX8_run 238 = .ok (.iload 4, 2) := by decide +kernel
theorem dX8_run_240 : decode cX8_run 240 = .ok (.invokevirtual 49, 3) := by decide +kernel
theorem dX8_run_243 : decode cX8_run 243 = .ok (.aload_n 0, 1) := by decide +kernel
theorem dX8_run_244 : decode cX8_run 244 = .ok (.iconst 0, 1) := by decide +kernel
theorem dX8_run_245 : decode cX8_run 245 = .ok (.iconst 2, 1) := by decide +kernel
theorem dX8_run_246 : decode cX8_run 246 = .ok (.iload 4, 2) := by decide +kernel
theorem dX8_run_248 : decode cX8_run 248 = .ok (.invokevirtual 31, 3) := by decide +kernel
theorem dX8_run_251 : decode cX8_run 251 = .ok (.isub, 1) := by decide +kernel
theorem dX8_run_252 : decode cX8_run 252 = .ok (.ireturn, 1) := by decide +kernel
theorem dX8_run_253 : decode cX8_run 253 = .ok (.aload_n 0, 1) := by decide +kernel
theorem dX8_run_254 : decode cX8_run 254 = .ok (.iload_n 2, 1) := by decide +kernel
theorem dX8_run_255 : decode cX8_run 255 = .ok (.iconst 3, 1) := by decide +kernel
theorem dX8_run_256 : decode cX8_run 256 = .ok (.iload_n 3, 1) := by decide +kernel
theorem dX8_run_257 : decode cX8_run 257 = .ok (.iload 4, 2) := by decide +kernel
theorem dX8_run_259 : decode cX8_run 259 = .ok (.invokevirtual 49, 3) := by decide +kernel
theorem dX8_run_262 : decode cX8_run 262 = .ok (.iconst 5, 1) := by decide +kernel
theorem dX8_run_263 : decode cX8_run 263 = .ok (.ixor, 1) := by decide +kernel
theorem dX8_run_264 : decode cX8_run 264 = .ok (.ireturn, 1) := by decide +kernel
theorem dX8_run_265 : decode cX8_run 265 = .ok (.aload_n 0, 1) := by decide +kernel
theorem dX8_run_266 : decode cX8_run 266 = .ok (.iload_n 2, 1) := by decide +kernel
theorem dX8_run_267 : decode cX8_run 267 = .ok (.iconst 0, 1) := by decide +kernel
theorem dX8_run_268 : decode cX8_run 268 = .ok (.iload_n 3, 1) := by decide +kernel
theorem dX8_run_269 : decode cX8_run 269 = .ok (.iload 4, 2) := by decide +kernel
theorem dX8_run_271 : decode cX8_run 271 = .ok (.invokevirtual 49, 3) := by decide +kernel
theorem dX8_run_274 : decode cX8_run 274 = .ok (.iconst 2, 1) := by decide +kernel
theorem dX8_run_275 : decode cX8_run 275 = .ok (.imul, 1) := by decide +kernel
theorem dX8_run_276 : decode cX8_run 276 = .ok (.ireturn, 1) := by decide +kernel
theorem dX8_run_277 : decode cX8_run 277 = .ok (.aload_n 0, 1) := by decide +kernel
theorem dX8_run_278 : decode cX8_run 278 = .ok (.iload_n 2, 1) := by decide +kernel
theorem dX8_run_279 : decode cX8_run 279 = .ok (.iconst 1, 1) := by decide +kernel
theorem dX8_run_280 : decode cX8_run 280 = .ok (.iload_n 3, 1) := by decide +kernel
theorem dX8_run_281 : decode cX8_run 281 = .ok (.iload 4, 2) := by decide +kernel
theorem dX8_run_283 : decode cX8_run 283 = .ok (.invokevirtual 49, 3) := by decide +kernel
theorem dX8_run_286 : decode cX8_run 286 = .ok (.aload_n 0, 1) := by decide +kernel
theorem dX8_run_287 : decode cX8_run 287 = .ok (.iconst 2, 1) := by decide +kernel
theorem dX8_run_288 : decode cX8_run 288 = .ok (.iconst 2, 1) := by decide +kernel
theorem dX8_run_289 : decode cX8_run 289 = .ok (.iload 4, 2) := by decide +kernel
theorem dX8_run_291 : decode cX8_run 291 = .ok (.invokevirtual 31, 3) := by decide +kernel
theorem dX8_run_294 : decode cX8_run 294 = .ok (.iadd, 1) := by decide +kernel
theorem dX8_run_295 : decode cX8_run 295 = .ok (.ireturn, 1) := by decide +kernel
theorem dX8_run_296 : decode cX8_run 296 = .ok (.aload_n 0, 1) := by decide +kernel
theorem dX8_run_297 : decode cX8_run 297 = .ok (.iload_n 2, 1) := by decide +kernel
theorem dX8_run_298 : decode cX8_run 298 = .ok (.iconst 3, 1) := by decide +kernel
theorem dX8_run_299 : decode cX8_run 299 = .ok (.iload_n 3, 1) := by decide +kernel
theorem dX8_run_300 : decode cX8_run 300 = .ok (.iload 4, 2) := by decide +kernel
theorem dX8_run_302 : decode cX8_run 302 = .ok (.invokevirtual 49, 3) := by decide +kernel
theorem dX8_run_305 : decode cX8_run 305 = .ok (.iconst 1, 1) := by decide +kernel
theorem dX8_run_306 : decode cX8_run 306 = .ok (.isub, 1) := by decide +kernel
theorem dX8_run_307 : decode cX8_run 307 = .ok (.ireturn, 1) := by decide +kernel
theorem dX8_run_308 : decode cX8_run 308 = .ok (.iconst 0, 1) := by decide +kernel
theorem dX8_run_309 : decode cX8_run 309 = .ok (.ireturn, 1) := by decide +kernel
