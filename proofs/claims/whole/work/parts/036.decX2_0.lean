theorem dX2_init_0 : decode cX2_init 0 = .ok (.aload_n 0, 1) := by decide +kernel
theorem dX2_init_1 : decode cX2_init 1 = .ok (.invokespecial 3, 3) := by decide +kernel
theorem dX2_init_4 : decode cX2_init 4 = .ok (.aload_n 0, 1) := by decide +kernel
theorem dX2_init_5 : decode cX2_init 5 = .ok (.bipush 6, 2) := by decide +kernel
theorem dX2_init_7 : decode cX2_init 7 = .ok (.newarray .int, 2) := by decide +kernel
theorem dX2_init_9 : decode cX2_init 9 = .ok (.putfield 9, 3) := by decide +kernel
theorem dX2_init_12 : decode cX2_init 12 = .ok (.aload_n 0, 1) := by decide +kernel
theorem dX2_init_13 : decode cX2_init 13 = .ok (.bipush 7, 2) := by decide +kernel
theorem dX2_init_15 : decode cX2_init 15 = .ok (.newarray .int, 2) := by decide +kernel
theorem dX2_init_17 : decode cX2_init 17 = .ok (.putfield 15, 3) := by decide +kernel
theorem dX2_init_20 : decode cX2_init 20 = .ok (.aload_n 0, 1) := by decide +kernel
theorem dX2_init_21 : decode cX2_init 21 = .ok (.bipush 7, 2) := by decide +kernel
theorem dX2_init_23 : decode cX2_init 23 = .ok (.newarray .int, 2) := by decide +kernel
theorem dX2_init_25 : decode cX2_init 25 = .ok (.putfield 18, 3) := by decide +kernel
theorem dX2_init_28 : decode cX2_init 28 = .ok (.aload_n 0, 1) := by decide +kernel
theorem dX2_init_29 : decode cX2_init 29 = .ok (.bipush 8, 2) := by decide +kernel
theorem dX2_init_31 : decode cX2_init 31 = .ok (.newarray .int, 2) := by decide +kernel
theorem dX2_init_33 : decode cX2_init 33 = .ok (.putfield 21, 3) := by decide +kernel
theorem dX2_init_36 : decode cX2_init 36 = .ok (.aload_n 0, 1) := by decide +kernel
theorem dX2_init_37 : decode cX2_init 37 = .ok (.bipush 6, 2) := by decide +kernel
theorem dX2_init_39 : decode cX2_init 39 = .ok (.newarray .int, 2) := by decide +kernel
theorem dX2_init_41 : decode cX2_init 41 = .ok (.putfield 24, 3) := by decide +kernel
theorem dX2_init_44 : decode cX2_init 44 = .ok (.aload_n 0, 1) := by decide +kernel
theorem dX2_init_45 : decode cX2_init 45 = .ok (.aload_n 1, 1) := by decide +kernel
theorem dX2_init_46 : decode cX2_init 46 = .ok (.putfield 27, 3) := by decide +kernel
theorem dX2_init_49 : decode cX2_init 49 = .ok (.return_, 1) := by decide +kernel
theorem dX2_hour_0 : decode cX2_hour 0 = .ok (.aload_n 0, 1) := by decide +kernel
theorem dX2_hour_1 : decode cX2_hour 1 = .ok (.getfield 9, 3) := by decide +kernel
theorem dX2_hour_4 : decode cX2_hour 4 = .ok (.iconst 5, 1) := by decide +kernel
theorem dX2_hour_5 : decode cX2_hour 5 = .ok (.iaload, 1) := by decide +kernel
theorem dX2_hour_6 : decode cX2_hour 6 = .ok (.ireturn, 1) := by decide +kernel
theorem dX2_told_0 : decode cX2_told 0 = .ok (.iload_n 1, 1) := by decide +kernel
theorem dX2_told_1 : decode cX2_told 1 = .ok (.ifCond .lt 21, 3) := by decide +kernel
theorem dX2_told_4 : decode cX2_told 4 = .ok (.iload_n 1, 1) := by decide +kernel
theorem dX2_told_5 : decode cX2_told 5 = .ok (.aload_n 0, 1) := by decide +kernel
theorem dX2_told_6 : decode cX2_told 6 = .ok (.getfield 9, 3) := by decide +kernel
theorem dX2_told_9 : decode cX2_told 9 = .ok (.arraylength, 1) := by decide +kernel
theorem dX2_told_10 : decode cX2_told 10 = .ok (.if_icmp .ge 12, 3) := by decide +kernel
theorem dX2_told_13 : decode cX2_told 13 = .ok (.aload_n 0, 1) := by decide +kernel
theorem dX2_told_14 : decode cX2_told 14 = .ok (.getfield 9, 3) := by decide +kernel
theorem dX2_told_17 : decode cX2_told 17 = .ok (.iload_n 1, 1) := by decide +kernel
theorem dX2_told_18 : decode cX2_told 18 = .ok (.iaload, 1) := by decide +kernel
theorem dX2_told_19 : decode cX2_told 19 = .ok (.goto 4, 3) := by decide +kernel
theorem dX2_told_22 : decode cX2_told 22 = .ok (.iconst (-1), 1) := by decide +kernel
theorem dX2_told_23 : decode cX2_told 23 = .ok (.ireturn, 1) := by decide +kernel
theorem dX2_hourPasses_0 : decode cX2_hourPasses 0 = .ok (.aload_n 0, 1) := by decide +kernel
theorem dX2_hourPasses_1 : decode cX2_hourPasses 1 = .ok (.getfield 9, 3) := by decide +kernel
theorem dX2_hourPasses_4 : decode cX2_hourPasses 4 = .ok (.iconst 0, 1) := by decide +kernel
theorem dX2_hourPasses_5 : decode cX2_hourPasses 5 = .ok (.dup2, 1) := by decide +kernel
theorem dX2_hourPasses_6 : decode cX2_hourPasses 6 = .ok (.iaload, 1) := by decide +kernel
theorem dX2_hourPasses_7 : decode cX2_hourPasses 7 = .ok (.iconst 1, 1) := by decide +kernel
theorem dX2_hourPasses_8 : decode cX2_hourPasses 8 = .ok (.iadd, 1) := by decide +kernel
theorem dX2_hourPasses_9 : decode cX2_hourPasses 9 = .ok (.iastore, 1) := by decide +kernel
theorem dX2_hourPasses_10 : decode cX2_hourPasses 10 = .ok (.aload_n 0, 1) := by decide +kernel
theorem dX2_hourPasses_11 : decode cX2_hourPasses 11 = .ok (.getfield 9, 3) := by decide +kernel
theorem dX2_hourPasses_14 : decode cX2_hourPasses 14 = .ok (.iconst 3, 1) := by decide +kernel
theorem dX2_hourPasses_15 : decode cX2_hourPasses 15 = .ok (.dup2, 1) := by decide +kernel
theorem dX2_hourPasses_16 : decode cX2_hourPasses 16 = .ok (.iaload, 1) := by decide +kernel
theorem dX2_hourPasses_17 : decode cX2_hourPasses 17 = .ok (.aload_n 0, 1) := by decide +kernel
theorem dX2_hourPasses_18 : decode cX2_hourPasses 18 = .ok (.getfield 27, 3) := by decide +kernel
theorem dX2_hourPasses_21 : decode cX2_hourPasses 21 = .ok (.aload_n 0, 1) := by decide +kernel
theorem dX2_hourPasses_22 : decode cX2_hourPasses 22 = .ok (.getfield 27, 3) := by decide +kernel
theorem dX2_hourPasses_25 : decode cX2_hourPasses 25 = .ok (.invokevirtual 31, 3) := by decide +kernel
theorem dX2_hourPasses_28 : decode cX2_hourPasses 28 = .ok (.invokevirtual 37, 3) := by decide +kernel
theorem dX2_hourPasses_31 : decode cX2_hourPasses 31 = .ok (.iadd, 1) := by decide +kernel
theorem dX2_hourPasses_32 : decode cX2_hourPasses 32 = .ok (.iastore, 1) := by decide +kernel
theorem dX2_hourPasses_33 : decode cX2_hourPasses 33 = .ok (.aload_n 0, 1) := by decide +kernel
theorem dX2_hourPasses_34 : decode cX2_hourPasses 34 = .ok (.getfield 9, 3) := by decide +kernel
theorem dX2_hourPasses_37 : decode cX2_hourPasses 37 = .ok (.iconst 4, 1) := by decide +kernel
theorem dX2_hourPasses_38 : decode cX2_hourPasses 38 = .ok (.dup2, 1) := by decide +kernel
theorem dX2_hourPasses_39 : decode cX2_hourPasses 39 = .ok (.iaload, 1) := by decide +kernel
theorem dX2_hourPasses_40 : decode cX2_hourPasses 40 = .ok (.iload_n 1, 1) := by decide +kernel
theorem dX2_hourPasses_41 : decode cX2_hourPasses 41 = .ok (.iadd, 1) := by decide +kernel
theorem dX2_hourPasses_42 : decode cX2_hourPasses 42 = .ok (.iastore, 1) := by decide +kernel
theorem dX2_hourPasses_43 : decode cX2_hourPasses 43 = .ok (.aload_n 0, 1) := by decide +kernel
theorem dX2_hourPasses_44 : decode cX2_hourPasses 44 = .ok (.getfield 9, 3) := by decide +kernel
theorem dX2_hourPasses_47 : decode cX2_hourPasses 47 = .ok (.iconst 5, 1) := by decide +kernel
theorem dX2_hourPasses_48 : decode cX2_hourPasses 48 = .ok (.aload_n 0, 1) := by decide +kernel
theorem dX2_hourPasses_49 : decode cX2_hourPasses 49 = .ok (.getfield 9, 3) := by decide +kernel
theorem dX2_hourPasses_52 : decode cX2_hourPasses 52 = .ok (.iconst 5, 1) := by decide +kernel
theorem dX2_hourPasses_53 : decode cX2_hourPasses 53 = .ok (.iaload, 1) := by decide +kernel
theorem dX2_hourPasses_54 : decode cX2_hourPasses 54 = .ok (.iconst 1, 1) := by decide +kernel
theorem dX2_hourPasses_55 : decode cX2_hourPasses 55 = .ok (.iadd, 1) := by decide +kernel
theorem dX2_hourPasses_56 : decode cX2_hourPasses 56 = .ok (.bipush 12, 2) := by decide +kernel
theorem dX2_hourPasses_58 : decode cX2_hourPasses 58 = .ok (.irem, 1) := by decide +kernel
theorem dX2_hourPasses_59 : decode cX2_hourPasses 59 = .ok (.iastore, 1) := by decide +kernel
theorem dX2_hourPasses_60 : decode cX2_hourPasses 60 = .ok (.return_, 1) := by decide +kernel
theorem dX2_manSteps_0 : decode cX2_manSteps 0 = .ok (.aload_n 0, 1) := by decide +kernel
theorem dX2_manSteps_1 : decode cX2_manSteps 1 = .ok (.getfield 27, 3) := by decide +kernel
theorem dX2_manSteps_4 : decode cX2_manSteps 4 = .ok (.iload_n 1, 1) := by decide +kernel
theorem dX2_manSteps_5 : decode cX2_manSteps 5 = .ok (.iconst 0, 1) := by decide +kernel
theorem dX2_manSteps_6 : decode cX2_manSteps 6 = .ok (.invokevirtual 41, 3) := by decide +kernel
theorem dX2_manSteps_9 : decode cX2_manSteps 9 = .ok (.iload_n 2, 1) := by decide +kernel
theorem dX2_manSteps_10 : decode cX2_manSteps 10 = .ok (.invokestatic 45, 3) := by decide +kernel
theorem dX2_manSteps_13 : decode cX2_manSteps 13 = .ok (.istore_n 3, 1) := by decide +kernel
theorem dX2_manSteps_14 : decode cX2_manSteps 14 = .ok (.iload_n 3, 1) := by decide +kernel
theorem dX2_manSteps_15 : decode cX2_manSteps 15 = .ok (.ifCond .ge 6, 3) := by decide +kernel
theorem dX2_manSteps_18 : decode cX2_manSteps 18 = .ok (.bipush (-5), 2) := by decide +kernel
theorem dX2_manSteps_20 : decode cX2_manSteps 20 = .ok (.ireturn, 1) := by decide +kernel
theorem dX2_manSteps_21 : decode cX2_manSteps 21 = .ok (.aload_n 0, 1) := by decide +kernel
theorem dX2_manSteps_22 : decode cX2_manSteps 22 = .ok (.getfield 27, 3) := by decide +kernel
theorem dX2_manSteps_25 : decode cX2_manSteps 25 = .ok (.iload_n 1, 1) := by decide +kernel
theorem dX2_manSteps_26 : decode cX2_manSteps 26 = .ok (.iconst 0, 1) := by decide +kernel
theorem dX2_manSteps_27 : decode cX2_manSteps 27 = .ok (.iload_n 3, 1) := by decide +kernel
theorem dX2_manSteps_28 : decode cX2_manSteps 28 = .ok (.invokevirtual 48, 3) := by decide +kernel
theorem dX2_manSteps_31 : decode cX2_manSteps 31 = .ok (.aload_n 0, 1) := by decide +kernel
theorem dX2_manSteps_32 : decode cX2_manSteps 32 = .ok (.getfield 9, 3) := by decide +kernel
theorem dX2_manSteps_35 : decode cX2_manSteps 35 = .ok (.iconst 1, 1) := by decide +kernel
theorem dX2_manSteps_36 : decode cX2_manSteps 36 = .ok (.dup2, 1) := by decide +kernel
theorem dX2_manSteps_37 : decode cX2_manSteps 37 = .ok (.iaload, 1) := by decide +kernel
theorem dX2_manSteps_38 : decode cX2_manSteps 38 = .ok (.iconst 1, 1) := by decide +kernel
theorem dX2_manSteps_39 : decode cX2_manSteps 39 = .ok (.iadd, 1) := by decide +kernel
theorem dX2_manSteps_40 : decode cX2_manSteps 40 = .ok (.iastore, 1) := by decide +kernel
theorem dX2_manSteps_41 : decode cX2_manSteps 41 = .ok (.iload_n 3, 1) := by decide +kernel
theorem dX2_manSteps_42 : decode cX2_manSteps 42 = .ok (.ireturn, 1) := by decide +kernel
theorem dX2_birdGetsIn_0 : decode cX2_birdGetsIn 0 = .ok (.iconst 4, 1) := by decide +kernel
theorem dX2_birdGetsIn_1 : decode cX2_birdGetsIn 1 = .ok (.aload_n 0, 1) := by decide +kernel
theorem dX2_birdGetsIn_2 : decode cX2_birdGetsIn 2 = .ok (.getfield 27, 3) := by decide +kernel
theorem dX2_birdGetsIn_5 : decode cX2_birdGetsIn 5 = .ok (.iload_n 1, 1) := by decide +kernel
theorem dX2_birdGetsIn_6 : decode cX2_birdGetsIn 6 = .ok (.iconst 2, 1) := by decide +kernel
theorem dX2_birdGetsIn_7 : decode cX2_birdGetsIn 7 = .ok (.invokevirtual 41, 3) := by decide +kernel
theorem dX2_birdGetsIn_10 : decode cX2_birdGetsIn 10 = .ok (.iconst 1, 1) := by decide +kernel
theorem dX2_birdGetsIn_11 : decode cX2_birdGetsIn 11 = .ok (.iadd, 1) := by decide +kernel
theorem dX2_birdGetsIn_12 : decode cX2_birdGetsIn 12 = .ok (.invokestatic 52, 3) := by decide +kernel
theorem dX2_birdGetsIn_15 : decode cX2_birdGetsIn 15 = .ok (.istore_n 2, 1) := by decide +kernel
theorem dX2_birdGetsIn_16 : decode cX2_birdGetsIn 16 = .ok (.aload_n 0, 1) := by decide +kernel
theorem dX2_birdGetsIn_17 : decode cX2_birdGetsIn 17 = .ok (.getfield 27, 3) := by decide +kernel
theorem dX2_birdGetsIn_20 : decode cX2_birdGetsIn 20 = .ok (.iload_n 1, 1) := by decide +kernel
theorem dX2_birdGetsIn_21 : decode cX2_birdGetsIn 21 = .ok (.iconst 2, 1) := by decide +kernel
theorem dX2_birdGetsIn_22 : decode cX2_birdGetsIn 22 = .ok (.iload_n 2, 1) := by decide +kernel
theorem dX2_birdGetsIn_23 : decode cX2_birdGetsIn 23 = .ok (.invokevirtual 48, 3) := by decide +kernel
theorem dX2_birdGetsIn_26 : decode cX2_birdGetsIn 26 = .ok (.aload_n 0, 1) := by decide +kernel
theorem dX2_birdGetsIn_27 : decode cX2_birdGetsIn 27 = .ok (.getfield 9, 3) := by decide +kernel
theorem dX2_birdGetsIn_30 : decode cX2_birdGetsIn 30 = .ok (.iconst 2, 1) := by decide +kernel
theorem dX2_birdGetsIn_31 : decode cX2_birdGetsIn 31 = .ok (.dup2, 1) := by decide +kernel
theorem dX2_birdGetsIn_32 : decode cX2_birdGetsIn 32 = .ok (.iaload, 1) := by decide +kernel
theorem dX2_birdGetsIn_33 : decode cX2_birdGetsIn 33 = .ok (.iconst 1, 1) := by decide +kernel
theorem dX2_birdGetsIn_34 : decode cX2_birdGetsIn 34 = .ok (.iadd, 1) := by decide +kernel
theorem dX2_birdGetsIn_35 : decode cX2_birdGetsIn 35 = .ok (.iastore, 1) := by decide +kernel
theorem dX2_birdGetsIn_36 : decode cX2_birdGetsIn 36 = .ok (.iload_n 2, 1) := by decide +kernel
theorem dX2_birdGetsIn_37 : decode cX2_birdGetsIn 37 = .ok (.ireturn, 1) := by decide +kernel
theorem dX2_keepImage_0 : decode cX2_keepImage 0 = .ok (.aload_n 0, 1) := by decide +kernel
theorem dX2_keepImage_1 : decode cX2_keepImage 1 = .ok (.iconst 1, 1) := by decide +kernel
theorem dX2_keepImage_2 : decode cX2_keepImage 2 = .ok (.putfield 57, 3) := by decide +kernel
theorem dX2_keepImage_5 : decode cX2_keepImage 5 = .ok (.aload_n 0, 1) := by decide +kernel
theorem dX2_keepImage_6 : decode cX2_keepImage 6 = .ok (.aload_n 0, 1) := by decide +kernel
theorem dX2_keepImage_7 : decode cX2_keepImage 7 = .ok (.getfield 27, 3) := by decide +kernel
theorem dX2_keepImage_10 : decode cX2_keepImage 10 = .ok (.getfield 61, 3) := by decide +kernel
theorem dX2_keepImage_13 : decode cX2_keepImage 13 = .ok (.putfield 65, 3) := by decide +kernel
theorem dX2_keepImage_16 : decode cX2_keepImage 16 = .ok (.aload_n 0, 1) := by decide +kernel
theorem dX2_keepImage_17 : decode cX2_keepImage 17 = .ok (.aload_n 0, 1) := by decide +kernel
theorem dX2_keepImage_18 : decode cX2_keepImage 18 = .ok (.getfield 27, 3) := by decide +kernel
theorem dX2_keepImage_21 : decode cX2_keepImage 21 = .ok (.getfield 68, 3) := by decide +kernel
theorem dX2_keepImage_24 : decode cX2_keepImage 24 = .ok (.putfield 71, 3) := by decide +kernel
theorem dX2_keepImage_27 : decode cX2_keepImage 27 = .ok (.iconst 0, 1) := by decide +kernel
theorem dX2_keepImage_28 : decode cX2_keepImage 28 = .ok (.istore_n 1, 1) := by decide +kernel
theorem dX2_keepImage_29 : decode cX2_keepImage 29 = .ok (.iload_n 1, 1) := by decide +kernel
theorem dX2_keepImage_30 : decode cX2_keepImage 30 = .ok (.aload_n 0, 1) := by decide +kernel
theorem dX2_keepImage_31 : decode cX2_keepImage 31 = .ok (.getfield 65, 3) := by decide +kernel
theorem dX2_keepImage_34 : decode cX2_keepImage 34 = .ok (.if_icmp .ge 39, 3) := by decide +kernel
theorem dX2_keepImage_37 : decode cX2_keepImage 37 = .ok (.aload_n 0, 1) := by decide +kernel
theorem dX2_keepImage_38 : decode cX2_keepImage 38 = .ok (.getfield 15, 3) := by decide +kernel
theorem dX2_keepImage_41 : decode cX2_keepImage 41 = .ok (.iload_n 1, 1) := by decide +kernel
theorem dX2_keepImage_42 : decode cX2_keepImage 42 = .ok (.aload_n 0, 1) := by decide +kernel
theorem dX2_keepImage_43 : decode cX2_keepImage 43 = .ok (.getfield 27, 3) := by decide +kernel
theorem dX2_keepImage_46 : decode cX2_keepImage 46 = .ok (.iload_n 1, 1) := by decide +kernel
theorem dX2_keepImage_47 : decode cX2_keepImage 47 = .ok (.iconst 0, 1) := by decide +kernel
theorem dX2_keepImage_48 : decode cX2_keepImage 48 = .ok (.invokevirtual 41, 3) := by decide +kernel
theorem dX2_keepImage_51 : decode cX2_keepImage 51 = .ok (.iastore, 1) := by decide +kernel
theorem dX2_keepImage_52 : decode cX2_keepImage 52 = .ok (.aload_n 0, 1) := by decide +kernel
theorem dX2_keepImage_53 : decode cX2_keepImage 53 = .ok (.getfield 18, 3) := by decide +kernel
theorem dX2_keepImage_56 : decode cX2_keepImage 56 = .ok (.iload_n 1, 1) := by decide +kernel
theorem dX2_keepImage_57 : decode cX2_keepImage 57 = .ok (.aload_n 0, 1) := by decide +kernel
theorem dX2_keepImage_58 : decode cX2_keepImage 58 = .ok (.getfield 27, 3) := by decide +kernel
theorem dX2_keepImage_61 : decode cX2_keepImage 61 = .ok (.iload_n 1, 1) := by decide +kernel
theorem dX2_keepImage_62 : decode cX2_keepImage 62 = .ok (.iconst 2, 1) := by decide +kernel
theorem dX2_keepImage_63 : decode cX2_keepImage 63 = .ok (.invokevirtual 41, 3) := by decide +kernel
theorem dX2_keepImage_66 : decode cX2_keepImage 66 = .ok (.iastore, 1) := by decide +kernel
theorem dX2_keepImage_67 : decode cX2_keepImage 67 = .ok (.iinc 1 1, 3) := by decide +kernel
theorem dX2_keepImage_70 : decode cX2_keepImage 70 = .ok (.goto (-41), 3) := by decide +kernel
theorem dX2_keepImage_73 : decode cX2_keepImage 73 = .ok (.iconst 0, 1) := by decide +kernel
theorem dX2_keepImage_74 : decode cX2_keepImage 74 = .ok (.istore_n 1, 1) := by decide +kernel
theorem dX2_keepImage_75 : decode cX2_keepImage 75 = .ok (.iload_n 1, 1) := by decide +kernel
theorem dX2_keepImage_76 : decode cX2_keepImage 76 = .ok (.aload_n 0, 1) := by decide +kernel
theorem dX2_keepImage_77 : decode cX2_keepImage 77 = .ok (.getfield 71, 3) := by decide +kernel
theorem dX2_keepImage_80 : decode cX2_keepImage 80 = .ok (.if_icmp .ge 24, 3) := by decide +kernel
theorem dX2_keepImage_83 : decode cX2_keepImage 83 = .ok (.aload_n 0, 1) := by decide +kernel
theorem dX2_keepImage_84 : decode cX2_keepImage 84 = .ok (.getfield 21, 3) := by decide +kernel
theorem dX2_keepImage_87 : decode cX2_keepImage 87 = .ok (.iload_n 1, 1) := by decide +kernel
theorem dX2_keepImage_88 : decode cX2_keepImage 88 = .ok (.aload_n 0, 1) := by decide +kernel
theorem dX2_keepImage_89 : decode cX2_keepImage 89 = .ok (.getfield 27, 3) := by decide +kernel
theorem dX2_keepImage_92 : decode cX2_keepImage 92 = .ok (.iload_n 1, 1) := by decide +kernel
theorem dX2_keepImage_93 : decode cX2_keepImage 93 = .ok (.iconst 4, 1) := by decide +kernel
theorem dX2_keepImage_94 : decode cX2_keepImage 94 = .ok (.invokevirtual 41, 3) := by decide +kernel
theorem dX2_keepImage_97 : decode cX2_keepImage 97 = .ok (.iastore, 1) := by decide +kernel
theorem dX2_keepImage_98 : decode cX2_keepImage 98 = .ok (.iinc 1 1, 3) := by decide +kernel
theorem dX2_keepImage_101 : decode cX2_keepImage 101 = .ok (.goto (-26), 3) := by decide +kernel
theorem dX2_keepImage_104 : decode cX2_keepImage 104 = .ok (.aload_n 0, 1) := by decide +kernel
theorem dX2_keepImage_105 : decode cX2_keepImage 105 = .ok (.getfield 9, 3) := by decide +kernel
theorem dX2_keepImage_108 : decode cX2_keepImage 108 = .ok (.iconst 0, 1) := by decide +kernel
theorem dX2_keepImage_109 : decode cX2_keepImage 109 = .ok (.aload_n 0, 1) := by decide +kernel
theorem dX2_keepImage_110 : decode cX2_keepImage 110 = .ok (.getfield 24, 3) := by decide +kernel
theorem dX2_keepImage_113 : decode cX2_keepImage 113 = .ok (.iconst 0, 1) := by decide +kernel
theorem dX2_keepImage_114 : decode cX2_keepImage 114 = .ok (.aload_n 0, 1) := by decide +kernel
theorem dX2_keepImage_115 : decode cX2_keepImage 115 = .ok (.getfield 9, 3) := by decide +kernel
theorem dX2_keepImage_118 : decode cX2_keepImage 118 = .ok (.arraylength, 1) := by decide +kernel
theorem dX2_keepImage_119 : decode cX2_keepImage 119 = .ok (.invokestatic 74, 3) := by decide +kernel
theorem dX2_keepImage_122 : decode cX2_keepImage 122 = .ok (.aload_n 0, 1) := by decide +kernel
theorem dX2_keepImage_123 : decode cX2_keepImage 123 = .ok (.getfield 9, 3) := by decide +kernel
theorem dX2_keepImage_126 : decode cX2_keepImage 126 = .ok (.iconst 0, 1) := by decide +kernel
theorem dX2_keepImage_127 : decode cX2_keepImage 127 = .ok (.iaload, 1) := by decide +kernel
theorem dX2_keepImage_128 : decode cX2_keepImage 128 = .ok (.ireturn, 1) := by decide +kernel
theorem dX2_layBack_0 : decode cX2_layBack 0 = .ok (.aload_n 0, 1) := by decide +kernel
theorem dX2_layBack_1 : decode cX2_layBack 1 = .ok (.getfield 57, 3) := by decide +kernel
theorem dX2_layBack_4 : decode cX2_layBack 4 = .ok (.ifCond .ne 6, 3) := by decide +kernel
theorem dX2_layBack_7 : decode cX2_layBack 7 = .ok (.bipush (-5), 2) := by decide +kernel
theorem dX2_layBack_9 : decode cX2_layBack 9 = .ok (.ireturn, 1) := by decide +kernel
theorem dX2_layBack_10 : decode cX2_layBack 10 = .ok (.iconst 0, 1) := by decide +kernel
theorem dX2_layBack_11 : decode cX2_layBack 11 = .ok (.istore_n 1, 1) := by decide +kernel
theorem dX2_layBack_12 : decode cX2_layBack 12 = .ok (.iload_n 1, 1) := by decide +kernel
theorem dX2_layBack_13 : decode cX2_layBack 13 = .ok (.aload_n 0, 1) := by decide +kernel
theorem dX2_layBack_14 : decode cX2_layBack 14 = .ok (.getfield 65, 3) := by decide +kernel
theorem dX2_layBack_17 : decode cX2_layBack 17 = .ok (.if_icmp .ge 39, 3) := by decide +kernel
theorem dX2_layBack_20 : decode cX2_layBack 20 = .ok (.aload_n 0, 1) := by decide +kernel
theorem dX2_layBack_21 : decode cX2_layBack 21 = .ok (.getfield 27, 3) := by decide +kernel
theorem dX2_layBack_24 : decode cX2_layBack 24 = .ok (.iload_n 1, 1) := by decide +kernel
theorem dX2_layBack_25 : decode cX2_layBack 25 = .ok (.iconst 0, 1) := by decide +kernel
theorem dX2_layBack_26 : decode cX2_layBack 26 = .ok (.aload_n 0, 1) := by decide +kernel
theorem dX2_layBack_27 : decode cX2_layBack 27 = .ok (.getfield 15, 3) := by decide +kernel
theorem dX2_layBack_30 : decode cX2_layBack 30 = .ok (.iload_n 1, 1) := by decide +kernel
theorem dX2_layBack_31 : decode cX2_layBack 31 = .ok (.iaload, 1) := by decide +kernel
theorem dX2_layBack_32 : decode cX2_layBack 32 = .ok (.invokevirtual 48, 3) := by decide +kernel
theorem dX2_layBack_35 : decode cX2_layBack 35 = .ok (.aload_n 0, 1) := by decide +kernel
theorem dX2_layBack_36 : decode cX2_layBack 36 = .ok (.getfield 27, 3) := by decide +kernel
theorem dX2_layBack_39 : decode cX2_layBack 39 = .ok (.iload_n 1, 1) := by decide +kernel
theorem dX2_layBack_40 : decode cX2_layBack 40 = .ok (.iconst 2, 1) := by decide +kernel
theorem dX2_layBack_41 : decode cX2_layBack 41 = .ok (.aload_n 0, 1) := by decide +kernel
theorem dX2_layBack_42 : decode cX2_layBack 42 = .ok (.getfield 18, 3) := by decide +kernel
theorem dX2_layBack_45 : decode cX2_layBack 45 = .ok (.iload_n 1, 1) := by decide +kernel
theorem dX2_layBack_46 : decode cX2_layBack 46 = .ok (.iaload, 1) := by decide +kernel
theorem dX2_layBack_47 : decode cX2_layBack 47 = .ok (.invokevirtual 48, 3) := by decide +kernel
theorem dX2_layBack_50 : decode cX2_layBack 50 = .ok (.iinc 1 1, 3) := by decide +kernel
theorem dX2_layBack_53 : decode cX2_layBack 53 = .ok (.goto (-41), 3) := by decide +kernel
theorem dX2_layBack_56 : decode cX2_layBack 56 = .ok (.iconst 0, 1) := by decide +kernel
theorem dX2_layBack_57 : decode cX2_layBack 57 = .ok (.istore_n 1, 1) := by decide +kernel
theorem dX2_layBack_58 : decode cX2_layBack 58 = .ok (.iload_n 1, 1) := by decide +kernel
theorem dX2_layBack_59 : decode cX2_layBack 59 = .ok (.aload_n 0, 1) := by decide +kernel
theorem dX2_layBack_60 : decode cX2_layBack 60 = .ok (.getfield 71, 3) := by decide +kernel
theorem dX2_layBack_63 : decode cX2_layBack 63 = .ok (.if_icmp .ge 24, 3) := by decide +kernel
theorem dX2_layBack_66 : decode cX2_layBack 66 = .ok (.aload_n 0, 1) := by decide +kernel
theorem dX2_layBack_67 : decode cX2_layBack 67 = .ok (.getfield 27, 3) := by decide +kernel
theorem dX2_layBack_70 : decode cX2_layBack 70 = .ok (.iload_n 1, 1) := by decide +kernel
theorem dX2_layBack_71 : decode cX2_layBack 71 = .ok (.iconst 4, 1) := by decide +kernel
theorem dX2_layBack_72 : decode cX2_layBack 72 = .ok (.aload_n 0, 1) := by decide +kernel
theorem dX2_layBack_73 : decode cX2_layBack 73 = .ok (.getfield 21, 3) := by decide +kernel
theorem dX2_layBack_76 : decode cX2_layBack 76 = .ok (.iload_n 1, 1) := by decide +kernel
theorem dX2_layBack_77 : decode cX2_layBack 77 = .ok (.iaload, 1) := by decide +kernel
theorem dX2_layBack_78 : decode cX2_layBack 78 = .ok (.invokevirtual 48, 3) := by decide +kernel
theorem dX2_layBack_81 : decode cX2_layBack 81 = .ok (.iinc 1 1, 3) := by decide +kernel
theorem dX2_layBack_84 : decode cX2_layBack 84 = .ok (.goto (-26), 3) := by decide +kernel
theorem dX2_layBack_87 : decode cX2_layBack 87 = .ok (.aload_n 0, 1) := by decide +kernel
theorem dX2_layBack_88 : decode cX2_layBack 88 = .ok (.getfield 24, 3) := by decide +kernel
theorem dX2_layBack_91 : decode cX2_layBack 91 = .ok (.iconst 0, 1) := by decide +kernel
theorem dX2_layBack_92 : decode cX2_layBack 92 = .ok (.aload_n 0, 1) := by decide +kernel
theorem dX2_layBack_93 : decode cX2_layBack 93 = .ok (.getfield 9, 3) := by decide +kernel
theorem dX2_layBack_96 : decode cX2_layBack 96 = .ok (.iconst 0, 1) := by decide +kernel
theorem dX2_layBack_97 : decode cX2_layBack 97 = .ok (.aload_n 0, 1) := by decide +kernel
theorem dX2_layBack_98 : decode cX2_layBack 98 = .ok (.getfield 9, 3) := by decide +kernel
theorem dX2_layBack_101 : decode cX2_layBack 101 = .ok (.arraylength, 1) := by decide +kernel
theorem dX2_layBack_102 : decode cX2_layBack 102 = .ok (.invokestatic 74, 3) := by decide +kernel
theorem dX2_layBack_105 : decode cX2_layBack 105 = .ok (.aload_n 0, 1) := by decide +kernel
theorem dX2_layBack_106 : decode cX2_layBack 106 = .ok (.getfield 9, 3) := by decide +kernel
theorem dX2_layBack_109 : decode cX2_layBack 109 = .ok (.iconst 0, 1) := by decide +kernel
theorem dX2_layBack_110 : decode cX2_layBack 110 = .ok (.iaload, 1) := by decide +kernel
theorem dX2_layBack_111 : decode cX2_layBack 111 = .ok (.ireturn, 1) := by decide +kernel
