theorem dX0_init_0 : decode cX0_init 0 = .ok (.aload_n 0, 1) := by decide +kernel
theorem dX0_init_1 : decode cX0_init 1 = .ok (.invokespecial 3, 3) := by decide +kernel
theorem dX0_init_4 : decode cX0_init 4 = .ok (.aload_n 0, 1) := by decide +kernel
theorem dX0_init_5 : decode cX0_init 5 = .ok (.bipush 20, 2) := by decide +kernel
theorem dX0_init_7 : decode cX0_init 7 = .ok (.newarray .int, 2) := by decide +kernel
theorem dX0_init_9 : decode cX0_init 9 = .ok (.putfield 11, 3) := by decide +kernel
theorem dX0_init_12 : decode cX0_init 12 = .ok (.aload_n 0, 1) := by decide +kernel
theorem dX0_init_13 : decode cX0_init 13 = .ok (.bipush 20, 2) := by decide +kernel
theorem dX0_init_15 : decode cX0_init 15 = .ok (.newarray .int, 2) := by decide +kernel
theorem dX0_init_17 : decode cX0_init 17 = .ok (.putfield 15, 3) := by decide +kernel
theorem dX0_init_20 : decode cX0_init 20 = .ok (.aload_n 0, 1) := by decide +kernel
theorem dX0_init_21 : decode cX0_init 21 = .ok (.bipush 20, 2) := by decide +kernel
theorem dX0_init_23 : decode cX0_init 23 = .ok (.newarray .int, 2) := by decide +kernel
theorem dX0_init_25 : decode cX0_init 25 = .ok (.putfield 18, 3) := by decide +kernel
theorem dX0_init_28 : decode cX0_init 28 = .ok (.aload_n 0, 1) := by decide +kernel
theorem dX0_init_29 : decode cX0_init 29 = .ok (.sipush 140, 3) := by decide +kernel
theorem dX0_init_32 : decode cX0_init 32 = .ok (.newarray .int, 2) := by decide +kernel
theorem dX0_init_34 : decode cX0_init 34 = .ok (.putfield 21, 3) := by decide +kernel
theorem dX0_init_37 : decode cX0_init 37 = .ok (.aload_n 0, 1) := by decide +kernel
theorem dX0_init_38 : decode cX0_init 38 = .ok (.aload_n 1, 1) := by decide +kernel
theorem dX0_init_39 : decode cX0_init 39 = .ok (.putfield 24, 3) := by decide +kernel
theorem dX0_init_42 : decode cX0_init 42 = .ok (.aload_n 0, 1) := by decide +kernel
theorem dX0_init_43 : decode cX0_init 43 = .ok (.aload_n 2, 1) := by decide +kernel
theorem dX0_init_44 : decode cX0_init 44 = .ok (.putfield 28, 3) := by decide +kernel
theorem dX0_init_47 : decode cX0_init 47 = .ok (.return_, 1) := by decide +kernel
theorem dX0_open_0 : decode cX0_open 0 = .ok (.aload_n 0, 1) := by decide +kernel
theorem dX0_open_1 : decode cX0_open 1 = .ok (.iconst 0, 1) := by decide +kernel
theorem dX0_open_2 : decode cX0_open 2 = .ok (.putfield 32, 3) := by decide +kernel
theorem dX0_open_5 : decode cX0_open 5 = .ok (.aload_n 0, 1) := by decide +kernel
theorem dX0_open_6 : decode cX0_open 6 = .ok (.iconst 0, 1) := by decide +kernel
theorem dX0_open_7 : decode cX0_open 7 = .ok (.putfield 36, 3) := by decide +kernel
theorem dX0_open_10 : decode cX0_open 10 = .ok (.iconst 0, 1) := by decide +kernel
theorem dX0_open_11 : decode cX0_open 11 = .ok (.istore_n 2, 1) := by decide +kernel
theorem dX0_open_12 : decode cX0_open 12 = .ok (.iload_n 2, 1) := by decide +kernel
theorem dX0_open_13 : decode cX0_open 13 = .ok (.aload_n 1, 1) := by decide +kernel
theorem dX0_open_14 : decode cX0_open 14 = .ok (.invokevirtual 40, 3) := by decide +kernel
theorem dX0_open_17 : decode cX0_open 17 = .ok (.if_icmp .ge 96, 3) := by decide +kernel
theorem dX0_open_20 : decode cX0_open 20 = .ok (.aload_n 0, 1) := by decide +kernel
theorem dX0_open_21 : decode cX0_open 21 = .ok (.getfield 32, 3) := by decide +kernel
theorem dX0_open_24 : decode cX0_open 24 = .ok (.bipush 20, 2) := by decide +kernel
theorem dX0_open_26 : decode cX0_open 26 = .ok (.if_icmp .ge 87, 3) := by decide +kernel
theorem dX0_open_29 : decode cX0_open 29 = .ok (.iload_n 2, 1) := by decide +kernel
theorem dX0_open_30 : decode cX0_open 30 = .ok (.iconst 2, 1) := by decide +kernel
theorem dX0_open_31 : decode cX0_open 31 = .ok (.iadd, 1) := by decide +kernel
theorem dX0_open_32 : decode cX0_open 32 = .ok (.aload_n 1, 1) := by decide +kernel
theorem dX0_open_33 : decode cX0_open 33 = .ok (.invokevirtual 40, 3) := by decide +kernel
theorem dX0_open_36 : decode cX0_open 36 = .ok (.if_icmp .ge 11, 3) := by decide +kernel
theorem dX0_open_39 : decode cX0_open 39 = .ok (.aload_n 1, 1) := by decide +kernel
theorem dX0_open_40 : decode cX0_open 40 = .ok (.iload_n 2, 1) := by decide +kernel
theorem dX0_open_41 : decode cX0_open 41 = .ok (.invokestatic 46, 3) := by decide +kernel
theorem dX0_open_44 : decode cX0_open 44 = .ok (.ifCond .ne 9, 3) := by decide +kernel
theorem dX0_open_47 : decode cX0_open 47 = .ok (.aload_n 0, 1) := by decide +kernel
theorem dX0_open_48 : decode cX0_open 48 = .ok (.iconst 1, 1) := by decide +kernel
theorem dX0_open_49 : decode cX0_open 49 = .ok (.putfield 36, 3) := by decide +kernel
theorem dX0_open_52 : decode cX0_open 52 = .ok (.return_, 1) := by decide +kernel
theorem dX0_open_53 : decode cX0_open 53 = .ok (.aload_n 0, 1) := by decide +kernel
theorem dX0_open_54 : decode cX0_open 54 = .ok (.getfield 11, 3) := by decide +kernel
theorem dX0_open_57 : decode cX0_open 57 = .ok (.aload_n 0, 1) := by decide +kernel
theorem dX0_open_58 : decode cX0_open 58 = .ok (.getfield 32, 3) := by decide +kernel
theorem dX0_open_61 : decode cX0_open 61 = .ok (.bipush 12, 2) := by decide +kernel
theorem dX0_open_63 : decode cX0_open 63 = .ok (.aload_n 1, 1) := by decide +kernel
theorem dX0_open_64 : decode cX0_open 64 = .ok (.iload_n 2, 1) := by decide +kernel
theorem dX0_open_65 : decode cX0_open 65 = .ok (.iconst 1, 1) := by decide +kernel
theorem dX0_open_66 : decode cX0_open 66 = .ok (.iadd, 1) := by decide +kernel
theorem dX0_open_67 : decode cX0_open 67 = .ok (.invokevirtual 50, 3) := by decide +kernel
theorem dX0_open_70 : decode cX0_open 70 = .ok (.l2i, 1) := by decide +kernel
theorem dX0_open_71 : decode cX0_open 71 = .ok (.imul, 1) := by decide +kernel
theorem dX0_open_72 : decode cX0_open 72 = .ok (.aload_n 1, 1) := by decide +kernel
theorem dX0_open_73 : decode cX0_open 73 = .ok (.iload_n 2, 1) := by decide +kernel
theorem dX0_open_74 : decode cX0_open 74 = .ok (.invokevirtual 50, 3) := by decide +kernel
theorem dX0_open_77 : decode cX0_open 77 = .ok (.l2i, 1) := by decide +kernel
theorem dX0_open_78 : decode cX0_open 78 = .ok (.iadd, 1) := by decide +kernel
theorem dX0_open_79 : decode cX0_open 79 = .ok (.iastore, 1) := by decide +kernel
theorem dX0_open_80 : decode cX0_open 80 = .ok (.aload_n 0, 1) := by decide +kernel
theorem dX0_open_81 : decode cX0_open 81 = .ok (.getfield 15, 3) := by decide +kernel
theorem dX0_open_84 : decode cX0_open 84 = .ok (.aload_n 0, 1) := by decide +kernel
theorem dX0_open_85 : decode cX0_open 85 = .ok (.getfield 32, 3) := by decide +kernel
theorem dX0_open_88 : decode cX0_open 88 = .ok (.aload_n 1, 1) := by decide +kernel
theorem dX0_open_89 : decode cX0_open 89 = .ok (.iload_n 2, 1) := by decide +kernel
theorem dX0_open_90 : decode cX0_open 90 = .ok (.iconst 2, 1) := by decide +kernel
theorem dX0_open_91 : decode cX0_open 91 = .ok (.iadd, 1) := by decide +kernel
theorem dX0_open_92 : decode cX0_open 92 = .ok (.invokevirtual 50, 3) := by decide +kernel
theorem dX0_open_95 : decode cX0_open 95 = .ok (.l2i, 1) := by decide +kernel
theorem dX0_open_96 : decode cX0_open 96 = .ok (.iastore, 1) := by decide +kernel
theorem dX0_open_97 : decode cX0_open 97 = .ok (.aload_n 0, 1) := by decide +kernel
theorem dX0_open_98 : decode cX0_open 98 = .ok (.dup, 1) := by decide +kernel
theorem dX0_open_99 : decode cX0_open 99 = .ok (.getfield 32, 3) := by decide +kernel
theorem dX0_open_102 : decode cX0_open 102 = .ok (.iconst 1, 1) := by decide +kernel
theorem dX0_open_103 : decode cX0_open 103 = .ok (.iadd, 1) := by decide +kernel
theorem dX0_open_104 : decode cX0_open 104 = .ok (.putfield 32, 3) := by decide +kernel
theorem dX0_open_107 : decode cX0_open 107 = .ok (.iinc 2 3, 3) := by decide +kernel
theorem dX0_open_110 : decode cX0_open 110 = .ok (.goto (-98), 3) := by decide +kernel
theorem dX0_open_113 : decode cX0_open 113 = .ok (.return_, 1) := by decide +kernel
theorem dX0_isThree_0 : decode cX0_isThree 0 = .ok (.aload_n 0, 1) := by decide +kernel
theorem dX0_isThree_1 : decode cX0_isThree 1 = .ok (.iload_n 1, 1) := by decide +kernel
theorem dX0_isThree_2 : decode cX0_isThree 2 = .ok (.invokevirtual 50, 3) := by decide +kernel
theorem dX0_isThree_5 : decode cX0_isThree 5 = .ok (.lstore_n 2, 1) := by decide +kernel
theorem dX0_isThree_6 : decode cX0_isThree 6 = .ok (.aload_n 0, 1) := by decide +kernel
theorem dX0_isThree_7 : decode cX0_isThree 7 = .ok (.iload_n 1, 1) := by decide +kernel
theorem dX0_isThree_8 : decode cX0_isThree 8 = .ok (.iconst 1, 1) := by decide +kernel
theorem dX0_isThree_9 : decode cX0_isThree 9 = .ok (.iadd, 1) := by decide +kernel
theorem dX0_isThree_10 : decode cX0_isThree 10 = .ok (.invokevirtual 50, 3) := by decide +kernel
theorem dX0_isThree_13 : decode cX0_isThree 13 = .ok (.lstore 4, 2) := by decide +kernel
theorem dX0_isThree_15 : decode cX0_isThree 15 = .ok (.lload_n 2, 1) := by decide +kernel
theorem dX0_isThree_16 : decode cX0_isThree 16 = .ok (.lconst 0, 1) := by decide +kernel
theorem dX0_isThree_17 : decode cX0_isThree 17 = .ok (.lcmp, 1) := by decide +kernel
theorem dX0_isThree_18 : decode cX0_isThree 18 = .ok (.ifCond .lt 31, 3) := by decide +kernel
theorem dX0_isThree_21 : decode cX0_isThree 21 = .ok (.lload_n 2, 1) := by decide +kernel
theorem dX0_isThree_22 : decode cX0_isThree 22 = .ok (.ldc2_w 54, 3) := by decide +kernel
theorem dX0_isThree_25 : decode cX0_isThree 25 = .ok (.lcmp, 1) := by decide +kernel
theorem dX0_isThree_26 : decode cX0_isThree 26 = .ok (.ifCond .ge 23, 3) := by decide +kernel
theorem dX0_isThree_29 : decode cX0_isThree 29 = .ok (.lload 4, 2) := by decide +kernel
theorem dX0_isThree_31 : decode cX0_isThree 31 = .ok (.lconst 0, 1) := by decide +kernel
theorem dX0_isThree_32 : decode cX0_isThree 32 = .ok (.lcmp, 1) := by decide +kernel
theorem dX0_isThree_33 : decode cX0_isThree 33 = .ok (.ifCond .lt 16, 3) := by decide +kernel
theorem dX0_isThree_36 : decode cX0_isThree 36 = .ok (.lload 4, 2) := by decide +kernel
theorem dX0_isThree_38 : decode cX0_isThree 38 = .ok (.ldc2_w 54, 3) := by decide +kernel
theorem dX0_isThree_41 : decode cX0_isThree 41 = .ok (.lcmp, 1) := by decide +kernel
theorem dX0_isThree_42 : decode cX0_isThree 42 = .ok (.ifCond .ge 7, 3) := by decide +kernel
theorem dX0_isThree_45 : decode cX0_isThree 45 = .ok (.iconst 1, 1) := by decide +kernel
theorem dX0_isThree_46 : decode cX0_isThree 46 = .ok (.goto 4, 3) := by decide +kernel
theorem dX0_isThree_49 : decode cX0_isThree 49 = .ok (.iconst 0, 1) := by decide +kernel
theorem dX0_isThree_50 : decode cX0_isThree 50 = .ok (.ireturn, 1) := by decide +kernel
theorem dX0_firstWrong_0 : decode cX0_firstWrong 0 = .ok (.iconst 0, 1) := by decide +kernel
theorem dX0_firstWrong_1 : decode cX0_firstWrong 1 = .ok (.istore_n 2, 1) := by decide +kernel
theorem dX0_firstWrong_2 : decode cX0_firstWrong 2 = .ok (.iload_n 2, 1) := by decide +kernel
theorem dX0_firstWrong_3 : decode cX0_firstWrong 3 = .ok (.aload_n 0, 1) := by decide +kernel
theorem dX0_firstWrong_4 : decode cX0_firstWrong 4 = .ok (.getfield 32, 3) := by decide +kernel
theorem dX0_firstWrong_7 : decode cX0_firstWrong 7 = .ok (.if_icmp .ge 39, 3) := by decide +kernel
theorem dX0_firstWrong_10 : decode cX0_firstWrong 10 = .ok (.bipush 12, 2) := by decide +kernel
theorem dX0_firstWrong_12 : decode cX0_firstWrong 12 = .ok (.aload_n 0, 1) := by decide +kernel
theorem dX0_firstWrong_13 : decode cX0_firstWrong 13 = .ok (.getfield 28, 3) := by decide +kernel
theorem dX0_firstWrong_16 : decode cX0_firstWrong 16 = .ok (.aload_n 0, 1) := by decide +kernel
theorem dX0_firstWrong_17 : decode cX0_firstWrong 17 = .ok (.getfield 11, 3) := by decide +kernel
theorem dX0_firstWrong_20 : decode cX0_firstWrong 20 = .ok (.iload_n 2, 1) := by decide +kernel
theorem dX0_firstWrong_21 : decode cX0_firstWrong 21 = .ok (.iaload, 1) := by decide +kernel
theorem dX0_firstWrong_22 : decode cX0_firstWrong 22 = .ok (.iload_n 1, 1) := by decide +kernel
theorem dX0_firstWrong_23 : decode cX0_firstWrong 23 = .ok (.invokevirtual 56, 3) := by decide +kernel
theorem dX0_firstWrong_26 : decode cX0_firstWrong 26 = .ok (.invokestatic 62, 3) := by decide +kernel
theorem dX0_firstWrong_29 : decode cX0_firstWrong 29 = .ok (.aload_n 0, 1) := by decide +kernel
theorem dX0_firstWrong_30 : decode cX0_firstWrong 30 = .ok (.getfield 15, 3) := by decide +kernel
theorem dX0_firstWrong_33 : decode cX0_firstWrong 33 = .ok (.iload_n 2, 1) := by decide +kernel
theorem dX0_firstWrong_34 : decode cX0_firstWrong 34 = .ok (.iaload, 1) := by decide +kernel
theorem dX0_firstWrong_35 : decode cX0_firstWrong 35 = .ok (.if_icmp .eq 5, 3) := by decide +kernel
theorem dX0_firstWrong_38 : decode cX0_firstWrong 38 = .ok (.iload_n 2, 1) := by decide +kernel
theorem dX0_firstWrong_39 : decode cX0_firstWrong 39 = .ok (.ireturn, 1) := by decide +kernel
theorem dX0_firstWrong_40 : decode cX0_firstWrong 40 = .ok (.iinc 2 1, 3) := by decide +kernel
theorem dX0_firstWrong_43 : decode cX0_firstWrong 43 = .ok (.goto (-41), 3) := by decide +kernel
theorem dX0_firstWrong_46 : decode cX0_firstWrong 46 = .ok (.aload_n 0, 1) := by decide +kernel
theorem dX0_firstWrong_47 : decode cX0_firstWrong 47 = .ok (.getfield 36, 3) := by decide +kernel
theorem dX0_firstWrong_50 : decode cX0_firstWrong 50 = .ok (.ifCond .eq 10, 3) := by decide +kernel
theorem dX0_firstWrong_53 : decode cX0_firstWrong 53 = .ok (.aload_n 0, 1) := by decide +kernel
theorem dX0_firstWrong_54 : decode cX0_firstWrong 54 = .ok (.getfield 32, 3) := by decide +kernel
theorem dX0_firstWrong_57 : decode cX0_firstWrong 57 = .ok (.goto 5, 3) := by decide +kernel
theorem dX0_firstWrong_60 : decode cX0_firstWrong 60 = .ok (.bipush (-2), 2) := by decide +kernel
theorem dX0_firstWrong_62 : decode cX0_firstWrong 62 = .ok (.ireturn, 1) := by decide +kernel
theorem dX0_leaveOut_0 : decode cX0_leaveOut 0 = .ok (.aload_n 0, 1) := by decide +kernel
theorem dX0_leaveOut_1 : decode cX0_leaveOut 1 = .ok (.iload_n 1, 1) := by decide +kernel
theorem dX0_leaveOut_2 : decode cX0_leaveOut 2 = .ok (.putfield 67, 3) := by decide +kernel
theorem dX0_leaveOut_5 : decode cX0_leaveOut 5 = .ok (.aload_n 0, 1) := by decide +kernel
theorem dX0_leaveOut_6 : decode cX0_leaveOut 6 = .ok (.iload_n 2, 1) := by decide +kernel
theorem dX0_leaveOut_7 : decode cX0_leaveOut 7 = .ok (.putfield 70, 3) := by decide +kernel
theorem dX0_leaveOut_10 : decode cX0_leaveOut 10 = .ok (.iconst 0, 1) := by decide +kernel
theorem dX0_leaveOut_11 : decode cX0_leaveOut 11 = .ok (.istore_n 3, 1) := by decide +kernel
theorem dX0_leaveOut_12 : decode cX0_leaveOut 12 = .ok (.iload_n 3, 1) := by decide +kernel
theorem dX0_leaveOut_13 : decode cX0_leaveOut 13 = .ok (.aload_n 0, 1) := by decide +kernel
theorem dX0_leaveOut_14 : decode cX0_leaveOut 14 = .ok (.getfield 32, 3) := by decide +kernel
theorem dX0_leaveOut_17 : decode cX0_leaveOut 17 = .ok (.if_icmp .ge 45, 3) := by decide +kernel
theorem dX0_leaveOut_20 : decode cX0_leaveOut 20 = .ok (.aload_n 0, 1) := by decide +kernel
theorem dX0_leaveOut_21 : decode cX0_leaveOut 21 = .ok (.getfield 18, 3) := by decide +kernel
theorem dX0_leaveOut_24 : decode cX0_leaveOut 24 = .ok (.iload_n 3, 1) := by decide +kernel
theorem dX0_leaveOut_25 : decode cX0_leaveOut 25 = .ok (.aload_n 0, 1) := by decide +kernel
theorem dX0_leaveOut_26 : decode cX0_leaveOut 26 = .ok (.getfield 28, 3) := by decide +kernel
theorem dX0_leaveOut_29 : decode cX0_leaveOut 29 = .ok (.aload_n 0, 1) := by decide +kernel
theorem dX0_leaveOut_30 : decode cX0_leaveOut 30 = .ok (.getfield 11, 3) := by decide +kernel
theorem dX0_leaveOut_33 : decode cX0_leaveOut 33 = .ok (.iload_n 3, 1) := by decide +kernel
theorem dX0_leaveOut_34 : decode cX0_leaveOut 34 = .ok (.iaload, 1) := by decide +kernel
theorem dX0_leaveOut_35 : decode cX0_leaveOut 35 = .ok (.iload_n 2, 1) := by decide +kernel
theorem dX0_leaveOut_36 : decode cX0_leaveOut 36 = .ok (.invokevirtual 56, 3) := by decide +kernel
theorem dX0_leaveOut_39 : decode cX0_leaveOut 39 = .ok (.aload_n 0, 1) := by decide +kernel
theorem dX0_leaveOut_40 : decode cX0_leaveOut 40 = .ok (.getfield 28, 3) := by decide +kernel
theorem dX0_leaveOut_43 : decode cX0_leaveOut 43 = .ok (.iload_n 1, 1) := by decide +kernel
theorem dX0_leaveOut_44 : decode cX0_leaveOut 44 = .ok (.aload_n 0, 1) := by decide +kernel
theorem dX0_leaveOut_45 : decode cX0_leaveOut 45 = .ok (.getfield 11, 3) := by decide +kernel
theorem dX0_leaveOut_48 : decode cX0_leaveOut 48 = .ok (.iload_n 3, 1) := by decide +kernel
theorem dX0_leaveOut_49 : decode cX0_leaveOut 49 = .ok (.iaload, 1) := by decide +kernel
theorem dX0_leaveOut_50 : decode cX0_leaveOut 50 = .ok (.iload_n 2, 1) := by decide +kernel
theorem dX0_leaveOut_51 : decode cX0_leaveOut 51 = .ok (.invokevirtual 73, 3) := by decide +kernel
theorem dX0_leaveOut_54 : decode cX0_leaveOut 54 = .ok (.isub, 1) := by decide +kernel
theorem dX0_leaveOut_55 : decode cX0_leaveOut 55 = .ok (.iastore, 1) := by decide +kernel
theorem dX0_leaveOut_56 : decode cX0_leaveOut 56 = .ok (.iinc 3 1, 3) := by decide +kernel
theorem dX0_leaveOut_59 : decode cX0_leaveOut 59 = .ok (.goto (-47), 3) := by decide +kernel
theorem dX0_leaveOut_62 : decode cX0_leaveOut 62 = .ok (.return_, 1) := by decide +kernel
theorem dX0_cellsThatFit_0 : decode cX0_cellsThatFit 0 = .ok (.iconst 0, 1) := by decide +kernel
theorem dX0_cellsThatFit_1 : decode cX0_cellsThatFit 1 = .ok (.istore_n 1, 1) := by decide +kernel
theorem dX0_cellsThatFit_2 : decode cX0_cellsThatFit 2 = .ok (.iconst 0, 1) := by decide +kernel
theorem dX0_cellsThatFit_3 : decode cX0_cellsThatFit 3 = .ok (.istore_n 2, 1) := by decide +kernel
theorem dX0_cellsThatFit_4 : decode cX0_cellsThatFit 4 = .ok (.iload_n 2, 1) := by decide +kernel
theorem dX0_cellsThatFit_5 : decode cX0_cellsThatFit 5 = .ok (.sipush 144, 3) := by decide +kernel
theorem dX0_cellsThatFit_8 : decode cX0_cellsThatFit 8 = .ok (.if_icmp .ge 32, 3) := by decide +kernel
theorem dX0_cellsThatFit_11 : decode cX0_cellsThatFit 11 = .ok (.aload_n 0, 1) := by decide +kernel
theorem dX0_cellsThatFit_12 : decode cX0_cellsThatFit 12 = .ok (.iload_n 2, 1) := by decide +kernel
theorem dX0_cellsThatFit_13 : decode cX0_cellsThatFit 13 = .ok (.aload_n 0, 1) := by decide +kernel
theorem dX0_cellsThatFit_14 : decode cX0_cellsThatFit 14 = .ok (.getfield 24, 3) := by decide +kernel
theorem dX0_cellsThatFit_17 : decode cX0_cellsThatFit 17 = .ok (.aload_n 0, 1) := by decide +kernel
theorem dX0_cellsThatFit_18 : decode cX0_cellsThatFit 18 = .ok (.getfield 67, 3) := by decide +kernel
theorem dX0_cellsThatFit_21 : decode cX0_cellsThatFit 21 = .ok (.iconst 1, 1) := by decide +kernel
theorem dX0_cellsThatFit_22 : decode cX0_cellsThatFit 22 = .ok (.invokevirtual 77, 3) := by decide +kernel
theorem dX0_cellsThatFit_25 : decode cX0_cellsThatFit 25 = .ok (.invokevirtual 81, 3) := by decide +kernel
theorem dX0_cellsThatFit_28 : decode cX0_cellsThatFit 28 = .ok (.ifCond .eq 6, 3) := by decide +kernel
theorem dX0_cellsThatFit_31 : decode cX0_cellsThatFit 31 = .ok (.iinc 1 1, 3) := by decide +kernel
theorem dX0_cellsThatFit_34 : decode cX0_cellsThatFit 34 = .ok (.iinc 2 1, 3) := by decide +kernel
theorem dX0_cellsThatFit_37 : decode cX0_cellsThatFit 37 = .ok (.goto (-33), 3) := by decide +kernel
theorem dX0_cellsThatFit_40 : decode cX0_cellsThatFit 40 = .ok (.iload_n 1, 1) := by decide +kernel
theorem dX0_cellsThatFit_41 : decode cX0_cellsThatFit 41 = .ok (.ireturn, 1) := by decide +kernel
theorem dX0_leastCellThatFits_0 : decode cX0_leastCellThatFits 0 = .ok (.iconst 0, 1) := by decide +kernel
theorem dX0_leastCellThatFits_1 : decode cX0_leastCellThatFits 1 = .ok (.istore_n 1, 1) := by decide +kernel
theorem dX0_leastCellThatFits_2 : decode cX0_leastCellThatFits 2 = .ok (.iload_n 1, 1) := by decide +kernel
theorem dX0_leastCellThatFits_3 : decode cX0_leastCellThatFits 3 = .ok (.sipush 144, 3) := by decide +kernel
theorem dX0_leastCellThatFits_6 : decode cX0_leastCellThatFits 6 = .ok (.if_icmp .ge 31, 3) := by decide +kernel
theorem dX0_leastCellThatFits_9 : decode cX0_leastCellThatFits 9 = .ok (.aload_n 0, 1) := by decide +kernel
theorem dX0_leastCellThatFits_10 : decode cX0_leastCellThatFits 10 = .ok (.iload_n 1, 1) := by decide +kernel
theorem dX0_leastCellThatFits_11 : decode cX0_leastCellThatFits 11 = .ok (.aload_n 0, 1) := by decide +kernel
theorem dX0_leastCellThatFits_12 : decode cX0_leastCellThatFits 12 = .ok (.getfield 24, 3) := by decide +kernel
theorem dX0_leastCellThatFits_15 : decode cX0_leastCellThatFits 15 = .ok (.aload_n 0, 1) := by decide +kernel
theorem dX0_leastCellThatFits_16 : decode cX0_leastCellThatFits 16 = .ok (.getfield 67, 3) := by decide +kernel
theorem dX0_leastCellThatFits_19 : decode cX0_leastCellThatFits 19 = .ok (.iconst 1, 1) := by decide +kernel
theorem dX0_leastCellThatFits_20 : decode cX0_leastCellThatFits 20 = .ok (.invokevirtual 77, 3) := by decide +kernel
theorem dX0_leastCellThatFits_23 : decode cX0_leastCellThatFits 23 = .ok (.invokevirtual 81, 3) := by decide +kernel
theorem dX0_leastCellThatFits_26 : decode cX0_leastCellThatFits 26 = .ok (.ifCond .eq 5, 3) := by decide +kernel
theorem dX0_leastCellThatFits_29 : decode cX0_leastCellThatFits 29 = .ok (.iload_n 1, 1) := by decide +kernel
theorem dX0_leastCellThatFits_30 : decode cX0_leastCellThatFits 30 = .ok (.ireturn, 1) := by decide +kernel
theorem dX0_leastCellThatFits_31 : decode cX0_leastCellThatFits 31 = .ok (.iinc 1 1, 3) := by decide +kernel
theorem dX0_leastCellThatFits_34 : decode cX0_leastCellThatFits 34 = .ok (.goto (-32), 3) := by decide +kernel
theorem dX0_leastCellThatFits_37 : decode cX0_leastCellThatFits 37 = .ok (.bipush (-2), 2) := by decide +kernel
theorem dX0_leastCellThatFits_39 : decode cX0_leastCellThatFits 39 = .ok (.ireturn, 1) := by decide +kernel
theorem dX0_kindsThatFit_0 : decode cX0_kindsThatFit 0 = .ok (.iconst 0, 1) := by decide +kernel
theorem dX0_kindsThatFit_1 : decode cX0_kindsThatFit 1 = .ok (.istore_n 1, 1) := by decide +kernel
theorem dX0_kindsThatFit_2 : decode cX0_kindsThatFit 2 = .ok (.iconst 0, 1) := by decide +kernel
theorem dX0_kindsThatFit_3 : decode cX0_kindsThatFit 3 = .ok (.istore_n 2, 1) := by decide +kernel
theorem dX0_kindsThatFit_4 : decode cX0_kindsThatFit 4 = .ok (.iload_n 2, 1) := by decide +kernel
theorem dX0_kindsThatFit_5 : decode cX0_kindsThatFit 5 = .ok (.iconst 2, 1) := by decide +kernel
theorem dX0_kindsThatFit_6 : decode cX0_kindsThatFit 6 = .ok (.if_icmp .gt 35, 3) := by decide +kernel
theorem dX0_kindsThatFit_9 : decode cX0_kindsThatFit 9 = .ok (.aload_n 0, 1) := by decide +kernel
theorem dX0_kindsThatFit_10 : decode cX0_kindsThatFit 10 = .ok (.aload_n 0, 1) := by decide +kernel
theorem dX0_kindsThatFit_11 : decode cX0_kindsThatFit 11 = .ok (.getfield 24, 3) := by decide +kernel
theorem dX0_kindsThatFit_14 : decode cX0_kindsThatFit 14 = .ok (.aload_n 0, 1) := by decide +kernel
theorem dX0_kindsThatFit_15 : decode cX0_kindsThatFit 15 = .ok (.getfield 67, 3) := by decide +kernel
theorem dX0_kindsThatFit_18 : decode cX0_kindsThatFit 18 = .ok (.iconst 0, 1) := by decide +kernel
theorem dX0_kindsThatFit_19 : decode cX0_kindsThatFit 19 = .ok (.invokevirtual 77, 3) := by decide +kernel
theorem dX0_kindsThatFit_22 : decode cX0_kindsThatFit 22 = .ok (.iload_n 2, 1) := by decide +kernel
theorem dX0_kindsThatFit_23 : decode cX0_kindsThatFit 23 = .ok (.invokevirtual 81, 3) := by decide +kernel
theorem dX0_kindsThatFit_26 : decode cX0_kindsThatFit 26 = .ok (.ifCond .eq 9, 3) := by decide +kernel
theorem dX0_kindsThatFit_29 : decode cX0_kindsThatFit 29 = .ok (.iload_n 1, 1) := by decide +kernel
theorem dX0_kindsThatFit_30 : decode cX0_kindsThatFit 30 = .ok (.iconst 1, 1) := by decide +kernel
theorem dX0_kindsThatFit_31 : decode cX0_kindsThatFit 31 = .ok (.iload_n 2, 1) := by decide +kernel
theorem dX0_kindsThatFit_32 : decode cX0_kindsThatFit 32 = .ok (.ishl, 1) := by decide +kernel
theorem dX0_kindsThatFit_33 : decode cX0_kindsThatFit 33 = .ok (.ior, 1) := by decide +kernel
theorem dX0_kindsThatFit_34 : decode cX0_kindsThatFit 34 = .ok (.istore_n 1, 1) := by decide +kernel
theorem dX0_kindsThatFit_35 : decode cX0_kindsThatFit 35 = .ok (.iinc 2 1, 3) := by decide +kernel
theorem dX0_kindsThatFit_38 : decode cX0_kindsThatFit 38 = .ok (.goto (-34), 3) := by decide +kernel
theorem dX0_kindsThatFit_41 : decode cX0_kindsThatFit 41 = .ok (.iload_n 1, 1) := by decide +kernel
theorem dX0_kindsThatFit_42 : decode cX0_kindsThatFit 42 = .ok (.ireturn, 1) := by decide +kernel
theorem dX0_fitsHim_0 : decode cX0_fitsHim 0 = .ok (.iconst 0, 1) := by decide +kernel
theorem dX0_fitsHim_1 : decode cX0_fitsHim 1 = .ok (.istore_n 3, 1) := by decide +kernel
theorem dX0_fitsHim_2 : decode cX0_fitsHim 2 = .ok (.iload_n 3, 1) := by decide +kernel
theorem dX0_fitsHim_3 : decode cX0_fitsHim 3 = .ok (.aload_n 0, 1) := by decide +kernel
theorem dX0_fitsHim_4 : decode cX0_fitsHim 4 = .ok (.getfield 32, 3) := by decide +kernel
theorem dX0_fitsHim_7 : decode cX0_fitsHim 7 = .ok (.if_icmp .ge 59, 3) := by decide +kernel
theorem dX0_fitsHim_10 : decode cX0_fitsHim 10 = .ok (.aload_n 0, 1) := by decide +kernel
theorem dX0_fitsHim_11 : decode cX0_fitsHim 11 = .ok (.getfield 18, 3) := by decide +kernel
theorem dX0_fitsHim_14 : decode cX0_fitsHim 14 = .ok (.iload_n 3, 1) := by decide +kernel
theorem dX0_fitsHim_15 : decode cX0_fitsHim 15 = .ok (.iaload, 1) := by decide +kernel
theorem dX0_fitsHim_16 : decode cX0_fitsHim 16 = .ok (.aload_n 0, 1) := by decide +kernel
theorem dX0_fitsHim_17 : decode cX0_fitsHim 17 = .ok (.getfield 28, 3) := by decide +kernel
theorem dX0_fitsHim_20 : decode cX0_fitsHim 20 = .ok (.aload_n 0, 1) := by decide +kernel
theorem dX0_fitsHim_21 : decode cX0_fitsHim 21 = .ok (.getfield 67, 3) := by decide +kernel
theorem dX0_fitsHim_24 : decode cX0_fitsHim 24 = .ok (.iload_n 1, 1) := by decide +kernel
theorem dX0_fitsHim_25 : decode cX0_fitsHim 25 = .ok (.iload_n 2, 1) := by decide +kernel
theorem dX0_fitsHim_26 : decode cX0_fitsHim 26 = .ok (.aload_n 0, 1) := by decide +kernel
theorem dX0_fitsHim_27 : decode cX0_fitsHim 27 = .ok (.getfield 11, 3) := by decide +kernel
theorem dX0_fitsHim_30 : decode cX0_fitsHim 30 = .ok (.iload_n 3, 1) := by decide +kernel
theorem dX0_fitsHim_31 : decode cX0_fitsHim 31 = .ok (.iaload, 1) := by decide +kernel
theorem dX0_fitsHim_32 : decode cX0_fitsHim 32 = .ok (.aload_n 0, 1) := by decide +kernel
theorem dX0_fitsHim_33 : decode cX0_fitsHim 33 = .ok (.getfield 70, 3) := by decide +kernel
theorem dX0_fitsHim_36 : decode cX0_fitsHim 36 = .ok (.invokevirtual 85, 3) := by decide +kernel
theorem dX0_fitsHim_39 : decode cX0_fitsHim 39 = .ok (.iadd, 1) := by decide +kernel
theorem dX0_fitsHim_40 : decode cX0_fitsHim 40 = .ok (.istore 4, 2) := by decide +kernel
theorem dX0_fitsHim_42 : decode cX0_fitsHim 42 = .ok (.bipush 12, 2) := by decide +kernel
theorem dX0_fitsHim_44 : decode cX0_fitsHim 44 = .ok (.iload 4, 2) := by decide +kernel
theorem dX0_fitsHim_46 : decode cX0_fitsHim 46 = .ok (.invokestatic 62, 3) := by decide +kernel
theorem dX0_fitsHim_49 : decode cX0_fitsHim 49 = .ok (.aload_n 0, 1) := by decide +kernel
theorem dX0_fitsHim_50 : decode cX0_fitsHim 50 = .ok (.getfield 15, 3) := by decide +kernel
theorem dX0_fitsHim_53 : decode cX0_fitsHim 53 = .ok (.iload_n 3, 1) := by decide +kernel
theorem dX0_fitsHim_54 : decode cX0_fitsHim 54 = .ok (.iaload, 1) := by decide +kernel
theorem dX0_fitsHim_55 : decode cX0_fitsHim 55 = .ok (.if_icmp .eq 5, 3) := by decide +kernel
theorem dX0_fitsHim_58 : decode cX0_fitsHim 58 = .ok (.iconst 0, 1) := by decide +kernel
theorem dX0_fitsHim_59 : decode cX0_fitsHim 59 = .ok (.ireturn, 1) := by decide +kernel
theorem dX0_fitsHim_60 : decode cX0_fitsHim 60 = .ok (.iinc 3 1, 3) := by decide +kernel
theorem dX0_fitsHim_63 : decode cX0_fitsHim 63 = .ok (.goto (-61), 3) := by decide +kernel
theorem dX0_fitsHim_66 : decode cX0_fitsHim 66 = .ok (.aload_n 0, 1) := by decide +kernel
theorem dX0_fitsHim_67 : decode cX0_fitsHim 67 = .ok (.getfield 36, 3) := by decide +kernel
theorem dX0_fitsHim_70 : decode cX0_fitsHim 70 = .ok (.ifCond .ne 7, 3) := by decide +kernel
theorem dX0_fitsHim_73 : decode cX0_fitsHim 73 = .ok (.iconst 1, 1) := by decide +kernel
theorem dX0_fitsHim_74 : decode cX0_fitsHim 74 = .ok (.goto 4, 3) := by decide +kernel
theorem dX0_fitsHim_77 : decode cX0_fitsHim 77 = .ok (.iconst 0, 1) := by decide +kernel
theorem dX0_fitsHim_78 : decode cX0_fitsHim 78 = .ok (.ireturn, 1) := by decide +kernel
theorem dX0_weighMen_0 : decode cX0_weighMen 0 = .ok (.iconst 0, 1) := by decide +kernel
theorem dX0_weighMen_1 : decode cX0_weighMen 1 = .ok (.istore_n 2, 1) := by decide +kernel
theorem dX0_weighMen_2 : decode cX0_weighMen 2 = .ok (.iload_n 2, 1) := by decide +kernel
theorem dX0_weighMen_3 : decode cX0_weighMen 3 = .ok (.aload_n 0, 1) := by decide +kernel
theorem dX0_weighMen_4 : decode cX0_weighMen 4 = .ok (.getfield 32, 3) := by decide +kernel
theorem dX0_weighMen_7 : decode cX0_weighMen 7 = .ok (.if_icmp .ge 54, 3) := by decide +kernel
theorem dX0_weighMen_10 : decode cX0_weighMen 10 = .ok (.iconst 0, 1) := by decide +kernel
theorem dX0_weighMen_11 : decode cX0_weighMen 11 = .ok (.istore_n 3, 1) := by decide +kernel
theorem dX0_weighMen_12 : decode cX0_weighMen 12 = .ok (.iload_n 3, 1) := by decide +kernel
theorem dX0_weighMen_13 : decode cX0_weighMen 13 = .ok (.aload_n 0, 1) := by decide +kernel
theorem dX0_weighMen_14 : decode cX0_weighMen 14 = .ok (.getfield 24, 3) := by decide +kernel
theorem dX0_weighMen_17 : decode cX0_weighMen 17 = .ok (.getfield 89, 3) := by decide +kernel
theorem dX0_weighMen_20 : decode cX0_weighMen 20 = .ok (.if_icmp .ge 35, 3) := by decide +kernel
theorem dX0_weighMen_23 : decode cX0_weighMen 23 = .ok (.aload_n 0, 1) := by decide +kernel
theorem dX0_weighMen_24 : decode cX0_weighMen 24 = .ok (.getfield 21, 3) := by decide +kernel
theorem dX0_weighMen_27 : decode cX0_weighMen 27 = .ok (.iload_n 2, 1) := by decide +kernel
theorem dX0_weighMen_28 : decode cX0_weighMen 28 = .ok (.bipush 7, 2) := by decide +kernel
theorem dX0_weighMen_30 : decode cX0_weighMen 30 = .ok (.imul, 1) := by decide +kernel
theorem dX0_weighMen_31 : decode cX0_weighMen 31 = .ok (.iload_n 3, 1) := by decide +kernel
theorem dX0_weighMen_32 : decode cX0_weighMen 32 = .ok (.iadd, 1) := by decide +kernel
theorem dX0_weighMen_33 : decode cX0_weighMen 33 = .ok (.aload_n 0, 1) := by decide +kernel
theorem dX0_weighMen_34 : decode cX0_weighMen 34 = .ok (.getfield 28, 3) := by decide +kernel
theorem dX0_weighMen_37 : decode cX0_weighMen 37 = .ok (.iload_n 3, 1) := by decide +kernel
theorem dX0_weighMen_38 : decode cX0_weighMen 38 = .ok (.aload_n 0, 1) := by decide +kernel
theorem dX0_weighMen_39 : decode cX0_weighMen 39 = .ok (.getfield 11, 3) := by decide +kernel
theorem dX0_weighMen_42 : decode cX0_weighMen 42 = .ok (.iload_n 2, 1) := by decide +kernel
theorem dX0_weighMen_43 : decode cX0_weighMen 43 = .ok (.iaload, 1) := by decide +kernel
theorem dX0_weighMen_44 : decode cX0_weighMen 44 = .ok (.iload_n 1, 1) := by decide +kernel
theorem dX0_weighMen_45 : decode cX0_weighMen 45 = .ok (.invokevirtual 73, 3) := by decide +kernel
theorem dX0_weighMen_48 : decode cX0_weighMen 48 = .ok (.iastore, 1) := by decide +kernel
theorem dX0_weighMen_49 : decode cX0_weighMen 49 = .ok (.iinc 3 1, 3) := by decide +kernel
theorem dX0_weighMen_52 : decode cX0_weighMen 52 = .ok (.goto (-40), 3) := by decide +kernel
theorem dX0_weighMen_55 : decode cX0_weighMen 55 = .ok (.iinc 2 1, 3) := by decide +kernel
theorem dX0_weighMen_58 : decode cX0_weighMen 58 = .ok (.goto (-56), 3) := by decide +kernel
theorem dX0_weighMen_61 : decode cX0_weighMen 61 = .ok (.return_, 1) := by decide +kernel
theorem dX0_setsThatFit_0 : decode cX0_setsThatFit 0 = .ok (.iconst 0, 1) := by decide +kernel
theorem dX0_setsThatFit_1 : decode cX0_setsThatFit 1 = .ok (.istore_n 1, 1) := by decide +kernel
theorem dX0_setsThatFit_2 : decode cX0_setsThatFit 2 = .ok (.iconst 0, 1) := by decide +kernel
theorem dX0_setsThatFit_3 : decode cX0_setsThatFit 3 = .ok (.istore_n 2, 1) := by decide +kernel
theorem dX0_setsThatFit_4 : decode cX0_setsThatFit 4 = .ok (.iload_n 2, 1) := by decide +kernel
theorem dX0_setsThatFit_5 : decode cX0_setsThatFit 5 = .ok (.aload_n 0, 1) := by decide +kernel
theorem dX0_setsThatFit_6 : decode cX0_setsThatFit 6 = .ok (.getfield 24, 3) := by decide +kernel
theorem dX0_setsThatFit_9 : decode cX0_setsThatFit 9 = .ok (.invokevirtual 92, 3) := by decide +kernel
theorem dX0_setsThatFit_12 : decode cX0_setsThatFit 12 = .ok (.if_icmp .gt 20, 3) := by decide +kernel
theorem dX0_setsThatFit_15 : decode cX0_setsThatFit 15 = .ok (.aload_n 0, 1) := by decide +kernel
theorem dX0_setsThatFit_16 : decode cX0_setsThatFit 16 = .ok (.iload_n 2, 1) := by decide +kernel
theorem dX0_setsThatFit_17 : decode cX0_setsThatFit 17 = .ok (.invokevirtual 95, 3) := by decide +kernel
theorem dX0_setsThatFit_20 : decode cX0_setsThatFit 20 = .ok (.ifCond .eq 6, 3) := by decide +kernel
theorem dX0_setsThatFit_23 : decode cX0_setsThatFit 23 = .ok (.iinc 1 1, 3) := by decide +kernel
theorem dX0_setsThatFit_26 : decode cX0_setsThatFit 26 = .ok (.iinc 2 1, 3) := by decide +kernel
theorem dX0_setsThatFit_29 : decode cX0_setsThatFit 29 = .ok (.goto (-25), 3) := by decide +kernel
theorem dX0_setsThatFit_32 : decode cX0_setsThatFit 32 = .ok (.iload_n 1, 1) := by decide +kernel
theorem dX0_setsThatFit_33 : decode cX0_setsThatFit 33 = .ok (.ireturn, 1) := by decide +kernel
theorem dX0_leastSetThatFits_0 : decode cX0_leastSetThatFits 0 = .ok (.iconst 0, 1) := by decide +kernel
theorem dX0_leastSetThatFits_1 : decode cX0_leastSetThatFits 1 = .ok (.istore_n 1, 1) := by decide +kernel
theorem dX0_leastSetThatFits_2 : decode cX0_leastSetThatFits 2 = .ok (.iload_n 1, 1) := by decide +kernel
theorem dX0_leastSetThatFits_3 : decode cX0_leastSetThatFits 3 = .ok (.aload_n 0, 1) := by decide +kernel
theorem dX0_leastSetThatFits_4 : decode cX0_leastSetThatFits 4 = .ok (.getfield 24, 3) := by decide +kernel
theorem dX0_leastSetThatFits_7 : decode cX0_leastSetThatFits 7 = .ok (.invokevirtual 92, 3) := by decide +kernel
theorem dX0_leastSetThatFits_10 : decode cX0_leastSetThatFits 10 = .ok (.if_icmp .gt 19, 3) := by decide +kernel
theorem dX0_leastSetThatFits_13 : decode cX0_leastSetThatFits 13 = .ok (.aload_n 0, 1) := by decide +kernel
theorem dX0_leastSetThatFits_14 : decode cX0_leastSetThatFits 14 = .ok (.iload_n 1, 1) := by decide +kernel
theorem dX0_leastSetThatFits_15 : decode cX0_leastSetThatFits 15 = .ok (.invokevirtual 95, 3) := by decide +kernel
theorem dX0_leastSetThatFits_18 : decode cX0_leastSetThatFits 18 = .ok (.ifCond .eq 5, 3) := by decide +kernel
theorem dX0_leastSetThatFits_21 : decode cX0_leastSetThatFits 21 = .ok (.iload_n 1, 1) := by decide +kernel
theorem dX0_leastSetThatFits_22 : decode cX0_leastSetThatFits 22 = .ok (.ireturn, 1) := by decide +kernel
theorem dX0_leastSetThatFits_23 : decode cX0_leastSetThatFits 23 = .ok (.iinc 1 1, 3) := by decide +kernel
theorem dX0_leastSetThatFits_26 : decode cX0_leastSetThatFits 26 = .ok (.goto (-24), 3) := by decide +kernel
theorem dX0_leastSetThatFits_29 : decode cX0_leastSetThatFits 29 = .ok (.bipush (-2), 2) := by decide +kernel
theorem dX0_leastSetThatFits_31 : decode cX0_leastSetThatFits 31 = .ok (.ireturn, 1) := by decide +kernel
theorem dX0_certain_0 : decode cX0_certain 0 = .ok (.aload_n 0, 1) := by decide +kernel
theorem dX0_certain_1 : decode cX0_certain 1 = .ok (.getfield 24, 3) := by decide +kernel
theorem dX0_certain_4 : decode cX0_certain 4 = .ok (.invokevirtual 92, 3) := by decide +kernel
theorem dX0_certain_7 : decode cX0_certain 7 = .ok (.istore_n 1, 1) := by decide +kernel
theorem dX0_certain_8 : decode cX0_certain 8 = .ok (.iconst 0, 1) := by decide +kernel
theorem dX0_certain_9 : decode cX0_certain 9 = .ok (.istore_n 2, 1) := by decide +kernel
theorem dX0_certain_10 : decode cX0_certain 10 = .ok (.iconst 0, 1) := by decide +kernel
theorem dX0_certain_11 : decode cX0_certain 11 = .ok (.istore_n 3, 1) := by decide +kernel
theorem dX0_certain_12 : decode cX0_certain 12 = .ok (.iload_n 3, 1) := by decide +kernel
theorem dX0_certain_13 : decode cX0_certain 13 = .ok (.aload_n 0, 1) := by decide +kernel
theorem dX0_certain_14 : decode cX0_certain 14 = .ok (.getfield 24, 3) := by decide +kernel
theorem dX0_certain_17 : decode cX0_certain 17 = .ok (.invokevirtual 92, 3) := by decide +kernel
theorem dX0_certain_20 : decode cX0_certain 20 = .ok (.if_icmp .gt 23, 3) := by decide +kernel
theorem dX0_certain_23 : decode cX0_certain 23 = .ok (.aload_n 0, 1) := by decide +kernel
theorem dX0_certain_24 : decode cX0_certain 24 = .ok (.iload_n 3, 1) := by decide +kernel
theorem dX0_certain_25 : decode cX0_certain 25 = .ok (.invokevirtual 95, 3) := by decide +kernel
theorem dX0_certain_28 : decode cX0_certain 28 = .ok (.ifCond .eq 9, 3) := by decide +kernel
theorem dX0_certain_31 : decode cX0_certain 31 = .ok (.iconst 1, 1) := by decide +kernel
theorem dX0_certain_32 : decode cX0_certain 32 = .ok (.istore_n 2, 1) := by decide +kernel
theorem dX0_certain_33 : decode cX0_certain 33 = .ok (.iload_n 1, 1) := by decide +kernel
theorem dX0_certain_34 : decode cX0_certain 34 = .ok (.iload_n 3, 1) := by decide +kernel
theorem dX0_certain_35 : decode cX0_certain 35 = .ok (.iand, 1) := by decide +kernel
theorem dX0_certain_36 : decode cX0_certain 36 = .ok (.istore_n 1, 1) := by decide +kernel
theorem dX0_certain_37 : decode cX0_certain 37 = .ok (.iinc 3 1, 3) := by decide +kernel
theorem dX0_certain_40 : decode cX0_certain 40 = .ok (.goto (-28), 3) := by decide +kernel
theorem dX0_certain_43 : decode cX0_certain 43 = .ok (.iload_n 2, 1) := by decide +kernel
theorem dX0_certain_44 : decode cX0_certain 44 = .ok (.ifCond .eq 7, 3) := by decide +kernel
theorem dX0_certain_47 : decode cX0_certain 47 = .ok (.iload_n 1, 1) := by decide +kernel
theorem dX0_certain_48 : decode cX0_certain 48 = .ok (.goto 4, 3) := by decide +kernel
theorem dX0_certain_51 : decode cX0_certain 51 = .ok (.iconst 0, 1) := by decide +kernel
theorem dX0_certain_52 : decode cX0_certain 52 = .ok (.ireturn, 1) := by decide +kernel
theorem dX0_fitsSet_0 : decode cX0_fitsSet 0 = .ok (.iconst 0, 1) := by decide +kernel
theorem dX0_fitsSet_1 : decode cX0_fitsSet 1 = .ok (.istore_n 2, 1) := by decide +kernel
theorem dX0_fitsSet_2 : decode cX0_fitsSet 2 = .ok (.iload_n 2, 1) := by decide +kernel
theorem dX0_fitsSet_3 : decode cX0_fitsSet 3 = .ok (.aload_n 0, 1) := by decide +kernel
theorem dX0_fitsSet_4 : decode cX0_fitsSet 4 = .ok (.getfield 32, 3) := by decide +kernel
theorem dX0_fitsSet_7 : decode cX0_fitsSet 7 = .ok (.if_icmp .ge 73, 3) := by decide +kernel
theorem dX0_fitsSet_10 : decode cX0_fitsSet 10 = .ok (.iconst 0, 1) := by decide +kernel
theorem dX0_fitsSet_11 : decode cX0_fitsSet 11 = .ok (.istore_n 3, 1) := by decide +kernel
theorem dX0_fitsSet_12 : decode cX0_fitsSet 12 = .ok (.iconst 0, 1) := by decide +kernel
theorem dX0_fitsSet_13 : decode cX0_fitsSet 13 = .ok (.istore 4, 2) := by decide +kernel
theorem dX0_fitsSet_15 : decode cX0_fitsSet 15 = .ok (.iload 4, 2) := by decide +kernel
theorem dX0_fitsSet_17 : decode cX0_fitsSet 17 = .ok (.aload_n 0, 1) := by decide +kernel
theorem dX0_fitsSet_18 : decode cX0_fitsSet 18 = .ok (.getfield 24, 3) := by decide +kernel
theorem dX0_fitsSet_21 : decode cX0_fitsSet 21 = .ok (.getfield 89, 3) := by decide +kernel
theorem dX0_fitsSet_24 : decode cX0_fitsSet 24 = .ok (.if_icmp .ge 33, 3) := by decide +kernel
theorem dX0_fitsSet_27 : decode cX0_fitsSet 27 = .ok (.iload_n 1, 1) := by decide +kernel
theorem dX0_fitsSet_28 : decode cX0_fitsSet 28 = .ok (.iload 4, 2) := by decide +kernel
theorem dX0_fitsSet_30 : decode cX0_fitsSet 30 = .ok (.ishr, 1) := by decide +kernel
theorem dX0_fitsSet_31 : decode cX0_fitsSet 31 = .ok (.iconst 1, 1) := by decide +kernel
theorem dX0_fitsSet_32 : decode cX0_fitsSet 32 = .ok (.iand, 1) := by decide +kernel
theorem dX0_fitsSet_33 : decode cX0_fitsSet 33 = .ok (.ifCond .eq 18, 3) := by decide +kernel
theorem dX0_fitsSet_36 : decode cX0_fitsSet 36 = .ok (.iload_n 3, 1) := by decide +kernel
theorem dX0_fitsSet_37 : decode cX0_fitsSet 37 = .ok (.aload_n 0, 1) := by decide +kernel
theorem dX0_fitsSet_38 : decode cX0_fitsSet 38 = .ok (.getfield 21, 3) := by decide +kernel
theorem dX0_fitsSet_41 : decode cX0_fitsSet 41 = .ok (.iload_n 2, 1) := by decide +kernel
theorem dX0_fitsSet_42 : decode cX0_fitsSet 42 = .ok (.bipush 7, 2) := by decide +kernel
theorem dX0_fitsSet_44 : decode cX0_fitsSet 44 = .ok (.imul, 1) := by decide +kernel
theorem dX0_fitsSet_45 : decode cX0_fitsSet 45 = .ok (.iload 4, 2) := by decide +kernel
theorem dX0_fitsSet_47 : decode cX0_fitsSet 47 = .ok (.iadd, 1) := by decide +kernel
theorem dX0_fitsSet_48 : decode cX0_fitsSet 48 = .ok (.iaload, 1) := by decide +kernel
theorem dX0_fitsSet_49 : decode cX0_fitsSet 49 = .ok (.iadd, 1) := by decide +kernel
theorem dX0_fitsSet_50 : decode cX0_fitsSet 50 = .ok (.istore_n 3, 1) := by decide +kernel
theorem dX0_fitsSet_51 : decode cX0_fitsSet 51 = .ok (.iinc 4 1, 3) := by decide +kernel
theorem dX0_fitsSet_54 : decode cX0_fitsSet 54 = .ok (.goto (-39), 3) := by decide +kernel
theorem dX0_fitsSet_57 : decode cX0_fitsSet 57 = .ok (.bipush 12, 2) := by decide +kernel
theorem dX0_fitsSet_59 : decode cX0_fitsSet 59 = .ok (.iload_n 3, 1) := by decide +kernel
theorem dX0_fitsSet_60 : decode cX0_fitsSet 60 = .ok (.invokestatic 62, 3) := by decide +kernel
theorem dX0_fitsSet_63 : decode cX0_fitsSet 63 = .ok (.aload_n 0, 1) := by decide +kernel
theorem dX0_fitsSet_64 : decode cX0_fitsSet 64 = .ok (.getfield 15, 3) := by decide +kernel
theorem dX0_fitsSet_67 : decode cX0_fitsSet 67 = .ok (.iload_n 2, 1) := by decide +kernel
theorem dX0_fitsSet_68 : decode cX0_fitsSet 68 = .ok (.iaload, 1) := by decide +kernel
theorem dX0_fitsSet_69 : decode cX0_fitsSet 69 = .ok (.if_icmp .eq 5, 3) := by decide +kernel
theorem dX0_fitsSet_72 : decode cX0_fitsSet 72 = .ok (.iconst 0, 1) := by decide +kernel
theorem dX0_fitsSet_73 : decode cX0_fitsSet 73 = .ok (.ireturn, 1) := by decide +kernel
theorem dX0_fitsSet_74 : decode cX0_fitsSet 74 = .ok (.iinc 2 1, 3) := by decide +kernel
theorem dX0_fitsSet_77 : decode cX0_fitsSet 77 = .ok (.goto (-75), 3) := by decide +kernel
theorem dX0_fitsSet_80 : decode cX0_fitsSet 80 = .ok (.aload_n 0, 1) := by decide +kernel
theorem dX0_fitsSet_81 : decode cX0_fitsSet 81 = .ok (.getfield 36, 3) := by decide +kernel
theorem dX0_fitsSet_84 : decode cX0_fitsSet 84 = .ok (.ifCond .ne 7, 3) := by decide +kernel
theorem dX0_fitsSet_87 : decode cX0_fitsSet 87 = .ok (.iconst 1, 1) := by decide +kernel
theorem dX0_fitsSet_88 : decode cX0_fitsSet 88 = .ok (.goto 4, 3) := by decide +kernel
theorem dX0_fitsSet_91 : decode cX0_fitsSet 91 = .ok (.iconst 0, 1) := by decide +kernel
theorem dX0_fitsSet_92 : decode cX0_fitsSet 92 = .ok (.ireturn, 1) := by decide +kernel
theorem dX0_wishOf_0 : decode cX0_wishOf 0 = .ok (.sipush 4095, 3) := by decide +kernel
theorem dX0_wishOf_3 : decode cX0_wishOf 3 = .ok (.istore_n 3, 1) := by decide +kernel
theorem dX0_wishOf_4 : decode cX0_wishOf 4 = .ok (.iconst 0, 1) := by decide +kernel
theorem dX0_wishOf_5 : decode cX0_wishOf 5 = .ok (.istore 4, 2) := by decide +kernel
theorem dX0_wishOf_7 : decode cX0_wishOf 7 = .ok (.iconst 0, 1) := by decide +kernel
theorem dX0_wishOf_8 : decode cX0_wishOf 8 = .ok (.istore 5, 2) := by decide +kernel
theorem dX0_wishOf_10 : decode cX0_wishOf 10 = .ok (.iload 5, 2) := by decide +kernel
theorem dX0_wishOf_12 : decode cX0_wishOf 12 = .ok (.aload_n 1, 1) := by decide +kernel
theorem dX0_wishOf_13 : decode cX0_wishOf 13 = .ok (.invokevirtual 40, 3) := by decide +kernel
theorem dX0_wishOf_16 : decode cX0_wishOf 16 = .ok (.if_icmp .ge 50, 3) := by decide +kernel
theorem dX0_wishOf_19 : decode cX0_wishOf 19 = .ok (.aload_n 1, 1) := by decide +kernel
theorem dX0_wishOf_20 : decode cX0_wishOf 20 = .ok (.iload 5, 2) := by decide +kernel
theorem dX0_wishOf_22 : decode cX0_wishOf 22 = .ok (.invokevirtual 50, 3) := by decide +kernel
theorem dX0_wishOf_25 : decode cX0_wishOf 25 = .ok (.lstore 6, 2) := by decide +kernel
theorem dX0_wishOf_27 : decode cX0_wishOf 27 = .ok (.lload 6, 2) := by decide +kernel
theorem dX0_wishOf_29 : decode cX0_wishOf 29 = .ok (.lconst 0, 1) := by decide +kernel
theorem dX0_wishOf_30 : decode cX0_wishOf 30 = .ok (.lcmp, 1) := by decide +kernel
theorem dX0_wishOf_31 : decode cX0_wishOf 31 = .ok (.ifCond .lt 12, 3) := by decide +kernel
theorem dX0_wishOf_34 : decode cX0_wishOf 34 = .ok (.lload 6, 2) := by decide +kernel
theorem dX0_wishOf_36 : decode cX0_wishOf 36 = .ok (.ldc2_w 99, 3) := by decide +kernel
theorem dX0_wishOf_39 : decode cX0_wishOf 39 = .ok (.lcmp, 1) := by decide +kernel
theorem dX0_wishOf_40 : decode cX0_wishOf 40 = .ok (.ifCond .le 6, 3) := by decide +kernel
theorem dX0_wishOf_43 : decode cX0_wishOf 43 = .ok (.bipush (-2), 2) := by decide +kernel
theorem dX0_wishOf_45 : decode cX0_wishOf 45 = .ok (.ireturn, 1) := by decide +kernel
theorem dX0_wishOf_46 : decode cX0_wishOf 46 = .ok (.iload_n 3, 1) := by decide +kernel
theorem dX0_wishOf_47 : decode cX0_wishOf 47 = .ok (.lload 6, 2) := by decide +kernel
theorem dX0_wishOf_49 : decode cX0_wishOf 49 = .ok (.l2i, 1) := by decide +kernel
theorem dX0_wishOf_50 : decode cX0_wishOf 50 = .ok (.iand, 1) := by decide +kernel
theorem dX0_wishOf_51 : decode cX0_wishOf 51 = .ok (.istore_n 3, 1) := by decide +kernel
theorem dX0_wishOf_52 : decode cX0_wishOf 52 = .ok (.iload 4, 2) := by decide +kernel
theorem dX0_wishOf_54 : decode cX0_wishOf 54 = .ok (.lload 6, 2) := by decide +kernel
theorem dX0_wishOf_56 : decode cX0_wishOf 56 = .ok (.l2i, 1) := by decide +kernel
theorem dX0_wishOf_57 : decode cX0_wishOf 57 = .ok (.ior, 1) := by decide +kernel
theorem dX0_wishOf_58 : decode cX0_wishOf 58 = .ok (.istore 4, 2) := by decide +kernel
theorem dX0_wishOf_60 : decode cX0_wishOf 60 = .ok (.iinc 5 1, 3) := by decide +kernel
theorem dX0_wishOf_63 : decode cX0_wishOf 63 = .ok (.goto (-53), 3) := by decide +kernel
theorem dX0_wishOf_66 : decode cX0_wishOf 66 = .ok (.aload_n 1, 1) := by decide +kernel
theorem dX0_wishOf_67 : decode cX0_wishOf 67 = .ok (.invokevirtual 40, 3) := by decide +kernel
theorem dX0_wishOf_70 : decode cX0_wishOf 70 = .ok (.ifCond .ne 6, 3) := by decide +kernel
theorem dX0_wishOf_73 : decode cX0_wishOf 73 = .ok (.bipush (-2), 2) := by decide +kernel
theorem dX0_wishOf_75 : decode cX0_wishOf 75 = .ok (.ireturn, 1) := by decide +kernel
theorem dX0_wishOf_76 : decode cX0_wishOf 76 = .ok (.iload_n 2, 1) := by decide +kernel
theorem dX0_wishOf_77 : decode cX0_wishOf 77 = .ok (.ifCond .eq 7, 3) := by decide +kernel
theorem dX0_wishOf_80 : decode cX0_wishOf 80 = .ok (.iload_n 3, 1) := by decide +kernel
theorem dX0_wishOf_81 : decode cX0_wishOf 81 = .ok (.goto 11, 3) := by decide +kernel
theorem dX0_wishOf_84 : decode cX0_wishOf 84 = .ok (.sipush 4095, 3) := by decide +kernel
theorem dX0_wishOf_87 : decode cX0_wishOf 87 = .ok (.iload 4, 2) := by decide +kernel
theorem dX0_wishOf_89 : decode cX0_wishOf 89 = .ok (.iconst (-1), 1) := by decide +kernel
theorem dX0_wishOf_90 : decode cX0_wishOf 90 = .ok (.ixor, 1) := by decide +kernel
theorem dX0_wishOf_91 : decode cX0_wishOf 91 = .ok (.iand, 1) := by decide +kernel
theorem dX0_wishOf_92 : decode cX0_wishOf 92 = .ok (.ireturn, 1) := by decide +kernel
