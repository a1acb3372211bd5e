theorem dX1_init_0 : decode cX1_init 0 = .ok (.aload_n 0, 1) := by decide +kernel
theorem dX1_init_1 : decode cX1_init 1 = .ok (.invokespecial 3, 3) := by decide +kernel
theorem dX1_init_4 : decode cX1_init 4 = .ok (.aload_n 0, 1) := by decide +kernel
theorem dX1_init_5 : decode cX1_init 5 = .ok (.sipush 160, 3) := by decide +kernel
theorem dX1_init_8 : decode cX1_init 8 = .ok (.newarray .int, 2) := by decide +kernel
theorem dX1_init_10 : decode cX1_init 10 = .ok (.putfield 11, 3) := by decide +kernel
theorem dX1_init_13 : decode cX1_init 13 = .ok (.aload_n 0, 1) := by decide +kernel
theorem dX1_init_14 : decode cX1_init 14 = .ok (.aload_n 1, 1) := by decide +kernel
theorem dX1_init_15 : decode cX1_init 15 = .ok (.putfield 15, 3) := by decide +kernel
theorem dX1_init_18 : decode cX1_init 18 = .ok (.return_, 1) := by decide +kernel
theorem dX1_add_0 : decode cX1_add 0 = .ok (.aload_n 0, 1) := by decide +kernel
theorem dX1_add_1 : decode cX1_add 1 = .ok (.getfield 19, 3) := by decide +kernel
theorem dX1_add_4 : decode cX1_add 4 = .ok (.bipush 40, 2) := by decide +kernel
theorem dX1_add_6 : decode cX1_add 6 = .ok (.if_icmp .lt 25, 3) := by decide +kernel
theorem dX1_add_9 : decode cX1_add 9 = .ok (.aload_n 0, 1) := by decide +kernel
theorem dX1_add_10 : decode cX1_add 10 = .ok (.getfield 11, 3) := by decide +kernel
theorem dX1_add_13 : decode cX1_add 13 = .ok (.iconst 4, 1) := by decide +kernel
theorem dX1_add_14 : decode cX1_add 14 = .ok (.aload_n 0, 1) := by decide +kernel
theorem dX1_add_15 : decode cX1_add 15 = .ok (.getfield 11, 3) := by decide +kernel
theorem dX1_add_18 : decode cX1_add 18 = .ok (.iconst 0, 1) := by decide +kernel
theorem dX1_add_19 : decode cX1_add 19 = .ok (.sipush 156, 3) := by decide +kernel
theorem dX1_add_22 : decode cX1_add 22 = .ok (.invokestatic 23, 3) := by decide +kernel
theorem dX1_add_25 : decode cX1_add 25 = .ok (.aload_n 0, 1) := by decide +kernel
theorem dX1_add_26 : decode cX1_add 26 = .ok (.bipush 39, 2) := by decide +kernel
theorem dX1_add_28 : decode cX1_add 28 = .ok (.putfield 19, 3) := by decide +kernel
theorem dX1_add_31 : decode cX1_add 31 = .ok (.aload_n 0, 1) := by decide +kernel
theorem dX1_add_32 : decode cX1_add 32 = .ok (.getfield 19, 3) := by decide +kernel
theorem dX1_add_35 : decode cX1_add 35 = .ok (.iconst 4, 1) := by decide +kernel
theorem dX1_add_36 : decode cX1_add 36 = .ok (.imul, 1) := by decide +kernel
theorem dX1_add_37 : decode cX1_add 37 = .ok (.istore 4, 2) := by decide +kernel
theorem dX1_add_39 : decode cX1_add 39 = .ok (.aload_n 0, 1) := by decide +kernel
theorem dX1_add_40 : decode cX1_add 40 = .ok (.getfield 11, 3) := by decide +kernel
theorem dX1_add_43 : decode cX1_add 43 = .ok (.iload 4, 2) := by decide +kernel
theorem dX1_add_45 : decode cX1_add 45 = .ok (.iload_n 1, 1) := by decide +kernel
theorem dX1_add_46 : decode cX1_add 46 = .ok (.iastore, 1) := by decide +kernel
theorem dX1_add_47 : decode cX1_add 47 = .ok (.aload_n 0, 1) := by decide +kernel
theorem dX1_add_48 : decode cX1_add 48 = .ok (.getfield 11, 3) := by decide +kernel
theorem dX1_add_51 : decode cX1_add 51 = .ok (.iload 4, 2) := by decide +kernel
theorem dX1_add_53 : decode cX1_add 53 = .ok (.iconst 1, 1) := by decide +kernel
theorem dX1_add_54 : decode cX1_add 54 = .ok (.iadd, 1) := by decide +kernel
theorem dX1_add_55 : decode cX1_add 55 = .ok (.iload_n 2, 1) := by decide +kernel
theorem dX1_add_56 : decode cX1_add 56 = .ok (.iastore, 1) := by decide +kernel
theorem dX1_add_57 : decode cX1_add 57 = .ok (.aload_n 0, 1) := by decide +kernel
theorem dX1_add_58 : decode cX1_add 58 = .ok (.getfield 11, 3) := by decide +kernel
theorem dX1_add_61 : decode cX1_add 61 = .ok (.iload 4, 2) := by decide +kernel
theorem dX1_add_63 : decode cX1_add 63 = .ok (.iconst 2, 1) := by decide +kernel
theorem dX1_add_64 : decode cX1_add 64 = .ok (.iadd, 1) := by decide +kernel
theorem dX1_add_65 : decode cX1_add 65 = .ok (.aload_n 0, 1) := by decide +kernel
theorem dX1_add_66 : decode cX1_add 66 = .ok (.getfield 15, 3) := by decide +kernel
theorem dX1_add_69 : decode cX1_add 69 = .ok (.iload_n 1, 1) := by decide +kernel
theorem dX1_add_70 : decode cX1_add 70 = .ok (.iload_n 2, 1) := by decide +kernel
theorem dX1_add_71 : decode cX1_add 71 = .ok (.invokevirtual 29, 3) := by decide +kernel
theorem dX1_add_74 : decode cX1_add 74 = .ok (.iastore, 1) := by decide +kernel
theorem dX1_add_75 : decode cX1_add 75 = .ok (.aload_n 0, 1) := by decide +kernel
theorem dX1_add_76 : decode cX1_add 76 = .ok (.getfield 11, 3) := by decide +kernel
theorem dX1_add_79 : decode cX1_add 79 = .ok (.iload 4, 2) := by decide +kernel
theorem dX1_add_81 : decode cX1_add 81 = .ok (.iconst 3, 1) := by decide +kernel
theorem dX1_add_82 : decode cX1_add 82 = .ok (.iadd, 1) := by decide +kernel
theorem dX1_add_83 : decode cX1_add 83 = .ok (.iload_n 3, 1) := by decide +kernel
theorem dX1_add_84 : decode cX1_add 84 = .ok (.iastore, 1) := by decide +kernel
theorem dX1_add_85 : decode cX1_add 85 = .ok (.aload_n 0, 1) := by decide +kernel
theorem dX1_add_86 : decode cX1_add 86 = .ok (.dup, 1) := by decide +kernel
theorem dX1_add_87 : decode cX1_add 87 = .ok (.getfield 19, 3) := by decide +kernel
theorem dX1_add_90 : decode cX1_add 90 = .ok (.iconst 1, 1) := by decide +kernel
theorem dX1_add_91 : decode cX1_add 91 = .ok (.iadd, 1) := by decide +kernel
theorem dX1_add_92 : decode cX1_add 92 = .ok (.putfield 19, 3) := by decide +kernel
theorem dX1_add_95 : decode cX1_add 95 = .ok (.aload_n 0, 1) := by decide +kernel
theorem dX1_add_96 : decode cX1_add 96 = .ok (.aload_n 0, 1) := by decide +kernel
theorem dX1_add_97 : decode cX1_add 97 = .ok (.getfield 19, 3) := by decide +kernel
theorem dX1_add_100 : decode cX1_add 100 = .ok (.putfield 35, 3) := by decide +kernel
theorem dX1_add_103 : decode cX1_add 103 = .ok (.aload_n 0, 1) := by decide +kernel
theorem dX1_add_104 : decode cX1_add 104 = .ok (.getfield 15, 3) := by decide +kernel
theorem dX1_add_107 : decode cX1_add 107 = .ok (.iload_n 1, 1) := by decide +kernel
theorem dX1_add_108 : decode cX1_add 108 = .ok (.iload_n 2, 1) := by decide +kernel
theorem dX1_add_109 : decode cX1_add 109 = .ok (.iload_n 3, 1) := by decide +kernel
theorem dX1_add_110 : decode cX1_add 110 = .ok (.invokevirtual 38, 3) := by decide +kernel
theorem dX1_add_113 : decode cX1_add 113 = .ok (.return_, 1) := by decide +kernel
theorem dX1_takeBack_0 : decode cX1_takeBack 0 = .ok (.aload_n 0, 1) := by decide +kernel
theorem dX1_takeBack_1 : decode cX1_takeBack 1 = .ok (.getfield 19, 3) := by decide +kernel
theorem dX1_takeBack_4 : decode cX1_takeBack 4 = .ok (.ifCond .gt 6, 3) := by decide +kernel
theorem dX1_takeBack_7 : decode cX1_takeBack 7 = .ok (.bipush (-5), 2) := by decide +kernel
theorem dX1_takeBack_9 : decode cX1_takeBack 9 = .ok (.ireturn, 1) := by decide +kernel
theorem dX1_takeBack_10 : decode cX1_takeBack 10 = .ok (.aload_n 0, 1) := by decide +kernel
theorem dX1_takeBack_11 : decode cX1_takeBack 11 = .ok (.dup, 1) := by decide +kernel
theorem dX1_takeBack_12 : decode cX1_takeBack 12 = .ok (.getfield 19, 3) := by decide +kernel
theorem dX1_takeBack_15 : decode cX1_takeBack 15 = .ok (.iconst 1, 1) := by decide +kernel
theorem dX1_takeBack_16 : decode cX1_takeBack 16 = .ok (.isub, 1) := by decide +kernel
theorem dX1_takeBack_17 : decode cX1_takeBack 17 = .ok (.putfield 19, 3) := by decide +kernel
theorem dX1_takeBack_20 : decode cX1_takeBack 20 = .ok (.aload_n 0, 1) := by decide +kernel
theorem dX1_takeBack_21 : decode cX1_takeBack 21 = .ok (.getfield 19, 3) := by decide +kernel
theorem dX1_takeBack_24 : decode cX1_takeBack 24 = .ok (.iconst 4, 1) := by decide +kernel
theorem dX1_takeBack_25 : decode cX1_takeBack 25 = .ok (.imul, 1) := by decide +kernel
theorem dX1_takeBack_26 : decode cX1_takeBack 26 = .ok (.istore_n 1, 1) := by decide +kernel
theorem dX1_takeBack_27 : decode cX1_takeBack 27 = .ok (.aload_n 0, 1) := by decide +kernel
theorem dX1_takeBack_28 : decode cX1_takeBack 28 = .ok (.getfield 15, 3) := by decide +kernel
theorem dX1_takeBack_31 : decode cX1_takeBack 31 = .ok (.aload_n 0, 1) := by decide +kernel
theorem dX1_takeBack_32 : decode cX1_takeBack 32 = .ok (.getfield 11, 3) := by decide +kernel
theorem dX1_takeBack_35 : decode cX1_takeBack 35 = .ok (.iload_n 1, 1) := by decide +kernel
theorem dX1_takeBack_36 : decode cX1_takeBack 36 = .ok (.iaload, 1) := by decide +kernel
theorem dX1_takeBack_37 : decode cX1_takeBack 37 = .ok (.aload_n 0, 1) := by decide +kernel
theorem dX1_takeBack_38 : decode cX1_takeBack 38 = .ok (.getfield 11, 3) := by decide +kernel
theorem dX1_takeBack_41 : decode cX1_takeBack 41 = .ok (.iload_n 1, 1) := by decide +kernel
theorem dX1_takeBack_42 : decode cX1_takeBack 42 = .ok (.iconst 1, 1) := by decide +kernel
theorem dX1_takeBack_43 : decode cX1_takeBack 43 = .ok (.iadd, 1) := by decide +kernel
theorem dX1_takeBack_44 : decode cX1_takeBack 44 = .ok (.iaload, 1) := by decide +kernel
theorem dX1_takeBack_45 : decode cX1_takeBack 45 = .ok (.aload_n 0, 1) := by decide +kernel
theorem dX1_takeBack_46 : decode cX1_takeBack 46 = .ok (.getfield 11, 3) := by decide +kernel
theorem dX1_takeBack_49 : decode cX1_takeBack 49 = .ok (.iload_n 1, 1) := by decide +kernel
theorem dX1_takeBack_50 : decode cX1_takeBack 50 = .ok (.iconst 2, 1) := by decide +kernel
theorem dX1_takeBack_51 : decode cX1_takeBack 51 = .ok (.iadd, 1) := by decide +kernel
theorem dX1_takeBack_52 : decode cX1_takeBack 52 = .ok (.iaload, 1) := by decide +kernel
theorem dX1_takeBack_53 : decode cX1_takeBack 53 = .ok (.invokevirtual 38, 3) := by decide +kernel
theorem dX1_takeBack_56 : decode cX1_takeBack 56 = .ok (.aload_n 0, 1) := by decide +kernel
theorem dX1_takeBack_57 : decode cX1_takeBack 57 = .ok (.getfield 19, 3) := by decide +kernel
theorem dX1_takeBack_60 : decode cX1_takeBack 60 = .ok (.ireturn, 1) := by decide +kernel
theorem dX1_doAgain_0 : decode cX1_doAgain 0 = .ok (.aload_n 0, 1) := by decide +kernel
theorem dX1_doAgain_1 : decode cX1_doAgain 1 = .ok (.getfield 19, 3) := by decide +kernel
theorem dX1_doAgain_4 : decode cX1_doAgain 4 = .ok (.aload_n 0, 1) := by decide +kernel
theorem dX1_doAgain_5 : decode cX1_doAgain 5 = .ok (.getfield 35, 3) := by decide +kernel
theorem dX1_doAgain_8 : decode cX1_doAgain 8 = .ok (.if_icmp .lt 6, 3) := by decide +kernel
theorem dX1_doAgain_11 : decode cX1_doAgain 11 = .ok (.bipush (-5), 2) := by decide +kernel
theorem dX1_doAgain_13 : decode cX1_doAgain 13 = .ok (.ireturn, 1) := by decide +kernel
theorem dX1_doAgain_14 : decode cX1_doAgain 14 = .ok (.aload_n 0, 1) := by decide +kernel
theorem dX1_doAgain_15 : decode cX1_doAgain 15 = .ok (.getfield 19, 3) := by decide +kernel
theorem dX1_doAgain_18 : decode cX1_doAgain 18 = .ok (.iconst 4, 1) := by decide +kernel
theorem dX1_doAgain_19 : decode cX1_doAgain 19 = .ok (.imul, 1) := by decide +kernel
theorem dX1_doAgain_20 : decode cX1_doAgain 20 = .ok (.istore_n 1, 1) := by decide +kernel
theorem dX1_doAgain_21 : decode cX1_doAgain 21 = .ok (.aload_n 0, 1) := by decide +kernel
theorem dX1_doAgain_22 : decode cX1_doAgain 22 = .ok (.getfield 15, 3) := by decide +kernel
theorem dX1_doAgain_25 : decode cX1_doAgain 25 = .ok (.aload_n 0, 1) := by decide +kernel
theorem dX1_doAgain_26 : decode cX1_doAgain 26 = .ok (.getfield 11, 3) := by decide +kernel
theorem dX1_doAgain_29 : decode cX1_doAgain 29 = .ok (.iload_n 1, 1) := by decide +kernel
theorem dX1_doAgain_30 : decode cX1_doAgain 30 = .ok (.iaload, 1) := by decide +kernel
theorem dX1_doAgain_31 : decode cX1_doAgain 31 = .ok (.aload_n 0, 1) := by decide +kernel
theorem dX1_doAgain_32 : decode cX1_doAgain 32 = .ok (.getfield 11, 3) := by decide +kernel
theorem dX1_doAgain_35 : decode cX1_doAgain 35 = .ok (.iload_n 1, 1) := by decide +kernel
theorem dX1_doAgain_36 : decode cX1_doAgain 36 = .ok (.iconst 1, 1) := by decide +kernel
theorem dX1_doAgain_37 : decode cX1_doAgain 37 = .ok (.iadd, 1) := by decide +kernel
theorem dX1_doAgain_38 : decode cX1_doAgain 38 = .ok (.iaload, 1) := by decide +kernel
theorem dX1_doAgain_39 : decode cX1_doAgain 39 = .ok (.aload_n 0, 1) := by decide +kernel
theorem dX1_doAgain_40 : decode cX1_doAgain 40 = .ok (.getfield 11, 3) := by decide +kernel
theorem dX1_doAgain_43 : decode cX1_doAgain 43 = .ok (.iload_n 1, 1) := by decide +kernel
theorem dX1_doAgain_44 : decode cX1_doAgain 44 = .ok (.iconst 3, 1) := by decide +kernel
theorem dX1_doAgain_45 : decode cX1_doAgain 45 = .ok (.iadd, 1) := by decide +kernel
theorem dX1_doAgain_46 : decode cX1_doAgain 46 = .ok (.iaload, 1) := by decide +kernel
theorem dX1_doAgain_47 : decode cX1_doAgain 47 = .ok (.invokevirtual 38, 3) := by decide +kernel
theorem dX1_doAgain_50 : decode cX1_doAgain 50 = .ok (.aload_n 0, 1) := by decide +kernel
theorem dX1_doAgain_51 : decode cX1_doAgain 51 = .ok (.dup, 1) := by decide +kernel
theorem dX1_doAgain_52 : decode cX1_doAgain 52 = .ok (.getfield 19, 3) := by decide +kernel
theorem dX1_doAgain_55 : decode cX1_doAgain 55 = .ok (.iconst 1, 1) := by decide +kernel
theorem dX1_doAgain_56 : decode cX1_doAgain 56 = .ok (.iadd, 1) := by decide +kernel
theorem dX1_doAgain_57 : decode cX1_doAgain 57 = .ok (.putfield 19, 3) := by decide +kernel
theorem dX1_doAgain_60 : decode cX1_doAgain 60 = .ok (.aload_n 0, 1) := by decide +kernel
theorem dX1_doAgain_61 : decode cX1_doAgain 61 = .ok (.getfield 35, 3) := by decide +kernel
theorem dX1_doAgain_64 : decode cX1_doAgain 64 = .ok (.aload_n 0, 1) := by decide +kernel
theorem dX1_doAgain_65 : decode cX1_doAgain 65 = .ok (.getfield 19, 3) := by decide +kernel
theorem dX1_doAgain_68 : decode cX1_doAgain 68 = .ok (.isub, 1) := by decide +kernel
theorem dX1_doAgain_69 : decode cX1_doAgain 69 = .ok (.ireturn, 1) := by decide +kernel
