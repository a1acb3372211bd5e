theorem dX7_init_0 : decode cX7_init 0 = .ok (.aload_n 0, 1) := by decide +kernel
theorem dX7_init_1 : decode cX7_init 1 = .ok (.invokespecial 3, 3) := by decide +kernel
theorem dX7_init_4 : decode cX7_init 4 = .ok (.aload_n 0, 1) := by decide +kernel
theorem dX7_init_5 : decode cX7_init 5 = .ok (.bipush 96, 2) := by decide +kernel
theorem dX7_init_7 : decode cX7_init 7 = .ok (.newarray .int, 2) := by decide +kernel
theorem dX7_init_9 : decode cX7_init 9 = .ok (.putfield 11, 3) := by decide +kernel
theorem dX7_init_12 : decode cX7_init 12 = .ok (.aload_n 0, 1) := by decide +kernel
theorem dX7_init_13 : decode cX7_init 13 = .ok (.sipush 672, 3) := by decide +kernel
theorem dX7_init_16 : decode cX7_init 16 = .ok (.newarray .int, 2) := by decide +kernel
theorem dX7_init_18 : decode cX7_init 18 = .ok (.putfield 15, 3) := by decide +kernel
theorem dX7_init_21 : decode cX7_init 21 = .ok (.aload_n 0, 1) := by decide +kernel
theorem dX7_init_22 : decode cX7_init 22 = .ok (.sipush 128, 3) := by decide +kernel
theorem dX7_init_25 : decode cX7_init 25 = .ok (.newarray .int, 2) := by decide +kernel
theorem dX7_init_27 : decode cX7_init 27 = .ok (.putfield 18, 3) := by decide +kernel
theorem dX7_init_30 : decode cX7_init 30 = .ok (.aload_n 0, 1) := by decide +kernel
theorem dX7_init_31 : decode cX7_init 31 = .ok (.sipush 128, 3) := by decide +kernel
theorem dX7_init_34 : decode cX7_init 34 = .ok (.newarray .int, 2) := by decide +kernel
theorem dX7_init_36 : decode cX7_init 36 = .ok (.putfield 21, 3) := by decide +kernel
theorem dX7_init_39 : decode cX7_init 39 = .ok (.aload_n 0, 1) := by decide +kernel
theorem dX7_init_40 : decode cX7_init 40 = .ok (.bipush 84, 2) := by decide +kernel
theorem dX7_init_42 : decode cX7_init 42 = .ok (.newarray .int, 2) := by decide +kernel
theorem dX7_init_44 : decode cX7_init 44 = .ok (.putfield 24, 3) := by decide +kernel
theorem dX7_init_47 : decode cX7_init 47 = .ok (.aload_n 0, 1) := by decide +kernel
theorem dX7_init_48 : decode cX7_init 48 = .ok (.aload_n 1, 1) := by decide +kernel
theorem dX7_init_49 : decode cX7_init 49 = .ok (.putfield 27, 3) := by decide +kernel
theorem dX7_init_52 : decode cX7_init 52 = .ok (.aload_n 0, 1) := by decide +kernel
theorem dX7_init_53 : decode cX7_init 53 = .ok (.aload_n 2, 1) := by decide +kernel
theorem dX7_init_54 : decode cX7_init 54 = .ok (.putfield 31, 3) := by decide +kernel
theorem dX7_init_57 : decode cX7_init 57 = .ok (.return_, 1) := by decide +kernel
theorem dX7_shadyCells_0 : decode cX7_shadyCells 0 = .ok (.iconst 0, 1) := by decide +kernel
theorem dX7_shadyCells_1 : decode cX7_shadyCells 1 = .ok (.istore_n 2, 1) := by decide +kernel
theorem dX7_shadyCells_2 : decode cX7_shadyCells 2 = .ok (.iconst 0, 1) := by decide +kernel
theorem dX7_shadyCells_3 : decode cX7_shadyCells 3 = .ok (.istore_n 3, 1) := by decide +kernel
theorem dX7_shadyCells_4 : decode cX7_shadyCells 4 = .ok (.iload_n 3, 1) := by decide +kernel
theorem dX7_shadyCells_5 : decode cX7_shadyCells 5 = .ok (.sipush 144, 3) := by decide +kernel
theorem dX7_shadyCells_8 : decode cX7_shadyCells 8 = .ok (.if_icmp .ge 24, 3) := by decide +kernel
theorem dX7_shadyCells_11 : decode cX7_shadyCells 11 = .ok (.aload_n 0, 1) := by decide +kernel
theorem dX7_shadyCells_12 : decode cX7_shadyCells 12 = .ok (.getfield 31, 3) := by decide +kernel
theorem dX7_shadyCells_15 : decode cX7_shadyCells 15 = .ok (.iload_n 3, 1) := by decide +kernel
theorem dX7_shadyCells_16 : decode cX7_shadyCells 16 = .ok (.iload_n 1, 1) := by decide +kernel
theorem dX7_shadyCells_17 : decode cX7_shadyCells 17 = .ok (.invokevirtual 35, 3) := by decide +kernel
theorem dX7_shadyCells_20 : decode cX7_shadyCells 20 = .ok (.ifCond .le 6, 3) := by decide +kernel
theorem dX7_shadyCells_23 : decode cX7_shadyCells 23 = .ok (.iinc 2 1, 3) := by decide +kernel
theorem dX7_shadyCells_26 : decode cX7_shadyCells 26 = .ok (.iinc 3 1, 3) := by decide +kernel
theorem dX7_shadyCells_29 : decode cX7_shadyCells 29 = .ok (.goto (-25), 3) := by decide +kernel
theorem dX7_shadyCells_32 : decode cX7_shadyCells 32 = .ok (.iload_n 2, 1) := by decide +kernel
theorem dX7_shadyCells_33 : decode cX7_shadyCells 33 = .ok (.ireturn, 1) := by decide +kernel
theorem dX7_darkest_0 : decode cX7_darkest 0 = .ok (.iconst 0, 1) := by decide +kernel
theorem dX7_darkest_1 : decode cX7_darkest 1 = .ok (.istore_n 2, 1) := by decide +kernel
theorem dX7_darkest_2 : decode cX7_darkest 2 = .ok (.iconst 0, 1) := by decide +kernel
theorem dX7_darkest_3 : decode cX7_darkest 3 = .ok (.istore_n 3, 1) := by decide +kernel
theorem dX7_darkest_4 : decode cX7_darkest 4 = .ok (.iconst 0, 1) := by decide +kernel
theorem dX7_darkest_5 : decode cX7_darkest 5 = .ok (.istore 4, 2) := by decide +kernel
theorem dX7_darkest_7 : decode cX7_darkest 7 = .ok (.iload 4, 2) := by decide +kernel
theorem dX7_darkest_9 : decode cX7_darkest 9 = .ok (.sipush 144, 3) := by decide +kernel
theorem dX7_darkest_12 : decode cX7_darkest 12 = .ok (.if_icmp .ge 38, 3) := by decide +kernel
theorem dX7_darkest_15 : decode cX7_darkest 15 = .ok (.bipush 12, 2) := by decide +kernel
theorem dX7_darkest_17 : decode cX7_darkest 17 = .ok (.aload_n 0, 1) := by decide +kernel
theorem dX7_darkest_18 : decode cX7_darkest 18 = .ok (.getfield 31, 3) := by decide +kernel
theorem dX7_darkest_21 : decode cX7_darkest 21 = .ok (.iload 4, 2) := by decide +kernel
theorem dX7_darkest_23 : decode cX7_darkest 23 = .ok (.iload_n 1, 1) := by decide +kernel
theorem dX7_darkest_24 : decode cX7_darkest 24 = .ok (.invokevirtual 35, 3) := by decide +kernel
theorem dX7_darkest_27 : decode cX7_darkest 27 = .ok (.invokestatic 41, 3) := by decide +kernel
theorem dX7_darkest_30 : decode cX7_darkest 30 = .ok (.istore 5, 2) := by decide +kernel
theorem dX7_darkest_32 : decode cX7_darkest 32 = .ok (.iload 5, 2) := by decide +kernel
theorem dX7_darkest_34 : decode cX7_darkest 34 = .ok (.iload_n 3, 1) := by decide +kernel
theorem dX7_darkest_35 : decode cX7_darkest 35 = .ok (.if_icmp .le 9, 3) := by decide +kernel
theorem dX7_darkest_38 : decode cX7_darkest 38 = .ok (.iload 5, 2) := by decide +kernel
theorem dX7_darkest_40 : decode cX7_darkest 40 = .ok (.istore_n 3, 1) := by decide +kernel
theorem dX7_darkest_41 : decode cX7_darkest 41 = .ok (.iload 4, 2) := by decide +kernel
theorem dX7_darkest_43 : decode cX7_darkest 43 = .ok (.istore_n 2, 1) := by decide +kernel
theorem dX7_darkest_44 : decode cX7_darkest 44 = .ok (.iinc 4 1, 3) := by decide +kernel
theorem dX7_darkest_47 : decode cX7_darkest 47 = .ok (.goto (-40), 3) := by decide +kernel
theorem dX7_darkest_50 : decode cX7_darkest 50 = .ok (.iload_n 2, 1) := by decide +kernel
theorem dX7_darkest_51 : decode cX7_darkest 51 = .ok (.ireturn, 1) := by decide +kernel
theorem dX7_hoursOf_0 : decode cX7_hoursOf 0 = .ok (.aload_n 0, 1) := by decide +kernel
theorem dX7_hoursOf_1 : decode cX7_hoursOf 1 = .ok (.iconst 0, 1) := by decide +kernel
theorem dX7_hoursOf_2 : decode cX7_hoursOf 2 = .ok (.bipush 11, 2) := by decide +kernel
theorem dX7_hoursOf_4 : decode cX7_hoursOf 4 = .ok (.invokevirtual 46, 3) := by decide +kernel
theorem dX7_hoursOf_7 : decode cX7_hoursOf 7 = .ok (.iconst 0, 1) := by decide +kernel
theorem dX7_hoursOf_8 : decode cX7_hoursOf 8 = .ok (.istore_n 2, 1) := by decide +kernel
theorem dX7_hoursOf_9 : decode cX7_hoursOf 9 = .ok (.iconst 0, 1) := by decide +kernel
theorem dX7_hoursOf_10 : decode cX7_hoursOf 10 = .ok (.istore_n 3, 1) := by decide +kernel
theorem dX7_hoursOf_11 : decode cX7_hoursOf 11 = .ok (.iload_n 3, 1) := by decide +kernel
theorem dX7_hoursOf_12 : decode cX7_hoursOf 12 = .ok (.bipush 12, 2) := by decide +kernel
theorem dX7_hoursOf_14 : decode cX7_hoursOf 14 = .ok (.if_icmp .ge 28, 3) := by decide +kernel
theorem dX7_hoursOf_17 : decode cX7_hoursOf 17 = .ok (.aload_n 0, 1) := by decide +kernel
theorem dX7_hoursOf_18 : decode cX7_hoursOf 18 = .ok (.bipush 12, 2) := by decide +kernel
theorem dX7_hoursOf_20 : decode cX7_hoursOf 20 = .ok (.iload_n 1, 1) := by decide +kernel
theorem dX7_hoursOf_21 : decode cX7_hoursOf 21 = .ok (.imul, 1) := by decide +kernel
theorem dX7_hoursOf_22 : decode cX7_hoursOf 22 = .ok (.iload_n 3, 1) := by decide +kernel
theorem dX7_hoursOf_23 : decode cX7_hoursOf 23 = .ok (.iadd, 1) := by decide +kernel
theorem dX7_hoursOf_24 : decode cX7_hoursOf 24 = .ok (.invokevirtual 50, 3) := by decide +kernel
theorem dX7_hoursOf_27 : decode cX7_hoursOf 27 = .ok (.ifCond .eq 9, 3) := by decide +kernel
theorem dX7_hoursOf_30 : decode cX7_hoursOf 30 = .ok (.iload_n 2, 1) := by decide +kernel
theorem dX7_hoursOf_31 : decode cX7_hoursOf 31 = .ok (.iconst 1, 1) := by decide +kernel
theorem dX7_hoursOf_32 : decode cX7_hoursOf 32 = .ok (.iload_n 3, 1) := by decide +kernel
theorem dX7_hoursOf_33 : decode cX7_hoursOf 33 = .ok (.ishl, 1) := by decide +kernel
theorem dX7_hoursOf_34 : decode cX7_hoursOf 34 = .ok (.ior, 1) := by decide +kernel
theorem dX7_hoursOf_35 : decode cX7_hoursOf 35 = .ok (.istore_n 2, 1) := by decide +kernel
theorem dX7_hoursOf_36 : decode cX7_hoursOf 36 = .ok (.iinc 3 1, 3) := by decide +kernel
theorem dX7_hoursOf_39 : decode cX7_hoursOf 39 = .ok (.goto (-28), 3) := by decide +kernel
theorem dX7_hoursOf_42 : decode cX7_hoursOf 42 = .ok (.iload_n 2, 1) := by decide +kernel
theorem dX7_hoursOf_43 : decode cX7_hoursOf 43 = .ok (.ireturn, 1) := by decide +kernel
theorem dX7_missesOf_0 : decode cX7_missesOf 0 = .ok (.aload_n 0, 1) := by decide +kernel
theorem dX7_missesOf_1 : decode cX7_missesOf 1 = .ok (.getfield 27, 3) := by decide +kernel
theorem dX7_missesOf_4 : decode cX7_missesOf 4 = .ok (.iload_n 1, 1) := by decide +kernel
theorem dX7_missesOf_5 : decode cX7_missesOf 5 = .ok (.iconst 5, 1) := by decide +kernel
theorem dX7_missesOf_6 : decode cX7_missesOf 6 = .ok (.invokevirtual 54, 3) := by decide +kernel
theorem dX7_missesOf_9 : decode cX7_missesOf 9 = .ok (.aload_n 0, 1) := by decide +kernel
theorem dX7_missesOf_10 : decode cX7_missesOf 10 = .ok (.iload_n 1, 1) := by decide +kernel
theorem dX7_missesOf_11 : decode cX7_missesOf 11 = .ok (.invokevirtual 59, 3) := by decide +kernel
theorem dX7_missesOf_14 : decode cX7_missesOf 14 = .ok (.iconst (-1), 1) := by decide +kernel
theorem dX7_missesOf_15 : decode cX7_missesOf 15 = .ok (.ixor, 1) := by decide +kernel
theorem dX7_missesOf_16 : decode cX7_missesOf 16 = .ok (.iand, 1) := by decide +kernel
theorem dX7_missesOf_17 : decode cX7_missesOf 17 = .ok (.invokestatic 63, 3) := by decide +kernel
theorem dX7_missesOf_20 : decode cX7_missesOf 20 = .ok (.ireturn, 1) := by decide +kernel
theorem dX7_missesOfAll_0 : decode cX7_missesOfAll 0 = .ok (.aload_n 0, 1) := by decide +kernel
theorem dX7_missesOfAll_1 : decode cX7_missesOfAll 1 = .ok (.iconst 0, 1) := by decide +kernel
theorem dX7_missesOfAll_2 : decode cX7_missesOfAll 2 = .ok (.bipush 11, 2) := by decide +kernel
theorem dX7_missesOfAll_4 : decode cX7_missesOfAll 4 = .ok (.invokevirtual 46, 3) := by decide +kernel
theorem dX7_missesOfAll_7 : decode cX7_missesOfAll 7 = .ok (.iconst 0, 1) := by decide +kernel
theorem dX7_missesOfAll_8 : decode cX7_missesOfAll 8 = .ok (.istore_n 1, 1) := by decide +kernel
theorem dX7_missesOfAll_9 : decode cX7_missesOfAll 9 = .ok (.iconst 0, 1) := by decide +kernel
theorem dX7_missesOfAll_10 : decode cX7_missesOfAll 10 = .ok (.istore_n 2, 1) := by decide +kernel
theorem dX7_missesOfAll_11 : decode cX7_missesOfAll 11 = .ok (.iload_n 2, 1) := by decide +kernel
theorem dX7_missesOfAll_12 : decode cX7_missesOfAll 12 = .ok (.bipush 12, 2) := by decide +kernel
theorem dX7_missesOfAll_14 : decode cX7_missesOfAll 14 = .ok (.aload_n 0, 1) := by decide +kernel
theorem dX7_missesOfAll_15 : decode cX7_missesOfAll 15 = .ok (.getfield 27, 3) := by decide +kernel
theorem dX7_missesOfAll_18 : decode cX7_missesOfAll 18 = .ok (.getfield 68, 3) := by decide +kernel
theorem dX7_missesOfAll_21 : decode cX7_missesOfAll 21 = .ok (.imul, 1) := by decide +kernel
theorem dX7_missesOfAll_22 : decode cX7_missesOfAll 22 = .ok (.if_icmp .ge 28, 3) := by decide +kernel
theorem dX7_missesOfAll_25 : decode cX7_missesOfAll 25 = .ok (.aload_n 0, 1) := by decide +kernel
theorem dX7_missesOfAll_26 : decode cX7_missesOfAll 26 = .ok (.iload_n 2, 1) := by decide +kernel
theorem dX7_missesOfAll_27 : decode cX7_missesOfAll 27 = .ok (.invokevirtual 72, 3) := by decide +kernel
theorem dX7_missesOfAll_30 : decode cX7_missesOfAll 30 = .ok (.ifCond .eq 14, 3) := by decide +kernel
theorem dX7_missesOfAll_33 : decode cX7_missesOfAll 33 = .ok (.aload_n 0, 1) := by decide +kernel
theorem dX7_missesOfAll_34 : decode cX7_missesOfAll 34 = .ok (.iload_n 2, 1) := by decide +kernel
theorem dX7_missesOfAll_35 : decode cX7_missesOfAll 35 = .ok (.invokevirtual 50, 3) := by decide +kernel
theorem dX7_missesOfAll_38 : decode cX7_missesOfAll 38 = .ok (.ifCond .ne 6, 3) := by decide +kernel
theorem dX7_missesOfAll_41 : decode cX7_missesOfAll 41 = .ok (.iinc 1 1, 3) := by decide +kernel
theorem dX7_missesOfAll_44 : decode cX7_missesOfAll 44 = .ok (.iinc 2 1, 3) := by decide +kernel
theorem dX7_missesOfAll_47 : decode cX7_missesOfAll 47 = .ok (.goto (-36), 3) := by decide +kernel
theorem dX7_missesOfAll_50 : decode cX7_missesOfAll 50 = .ok (.iload_n 1, 1) := by decide +kernel
theorem dX7_missesOfAll_51 : decode cX7_missesOfAll 51 = .ok (.ireturn, 1) := by decide +kernel
theorem dX7_servedAt_0 : decode cX7_servedAt 0 = .ok (.aload_n 0, 1) := by decide +kernel
theorem dX7_servedAt_1 : decode cX7_servedAt 1 = .ok (.iload_n 1, 1) := by decide +kernel
theorem dX7_servedAt_2 : decode cX7_servedAt 2 = .ok (.iload_n 1, 1) := by decide +kernel
theorem dX7_servedAt_3 : decode cX7_servedAt 3 = .ok (.invokevirtual 46, 3) := by decide +kernel
theorem dX7_servedAt_6 : decode cX7_servedAt 6 = .ok (.iconst 0, 1) := by decide +kernel
theorem dX7_servedAt_7 : decode cX7_servedAt 7 = .ok (.istore_n 2, 1) := by decide +kernel
theorem dX7_servedAt_8 : decode cX7_servedAt 8 = .ok (.iconst 0, 1) := by decide +kernel
theorem dX7_servedAt_9 : decode cX7_servedAt 9 = .ok (.istore_n 3, 1) := by decide +kernel
theorem dX7_servedAt_10 : decode cX7_servedAt 10 = .ok (.iload_n 3, 1) := by decide +kernel
theorem dX7_servedAt_11 : decode cX7_servedAt 11 = .ok (.aload_n 0, 1) := by decide +kernel
theorem dX7_servedAt_12 : decode cX7_servedAt 12 = .ok (.getfield 27, 3) := by decide +kernel
theorem dX7_servedAt_15 : decode cX7_servedAt 15 = .ok (.getfield 68, 3) := by decide +kernel
theorem dX7_servedAt_18 : decode cX7_servedAt 18 = .ok (.if_icmp .ge 28, 3) := by decide +kernel
theorem dX7_servedAt_21 : decode cX7_servedAt 21 = .ok (.aload_n 0, 1) := by decide +kernel
theorem dX7_servedAt_22 : decode cX7_servedAt 22 = .ok (.bipush 12, 2) := by decide +kernel
theorem dX7_servedAt_24 : decode cX7_servedAt 24 = .ok (.iload_n 3, 1) := by decide +kernel
theorem dX7_servedAt_25 : decode cX7_servedAt 25 = .ok (.imul, 1) := by decide +kernel
theorem dX7_servedAt_26 : decode cX7_servedAt 26 = .ok (.iload_n 1, 1) := by decide +kernel
theorem dX7_servedAt_27 : decode cX7_servedAt 27 = .ok (.iadd, 1) := by decide +kernel
theorem dX7_servedAt_28 : decode cX7_servedAt 28 = .ok (.invokevirtual 50, 3) := by decide +kernel
theorem dX7_servedAt_31 : decode cX7_servedAt 31 = .ok (.ifCond .eq 9, 3) := by decide +kernel
theorem dX7_servedAt_34 : decode cX7_servedAt 34 = .ok (.iload_n 2, 1) := by decide +kernel
theorem dX7_servedAt_35 : decode cX7_servedAt 35 = .ok (.iconst 1, 1) := by decide +kernel
theorem dX7_servedAt_36 : decode cX7_servedAt 36 = .ok (.iload_n 3, 1) := by decide +kernel
theorem dX7_servedAt_37 : decode cX7_servedAt 37 = .ok (.ishl, 1) := by decide +kernel
theorem dX7_servedAt_38 : decode cX7_servedAt 38 = .ok (.ior, 1) := by decide +kernel
theorem dX7_servedAt_39 : decode cX7_servedAt 39 = .ok (.istore_n 2, 1) := by decide +kernel
theorem dX7_servedAt_40 : decode cX7_servedAt 40 = .ok (.iinc 3 1, 3) := by decide +kernel
theorem dX7_servedAt_43 : decode cX7_servedAt 43 = .ok (.goto (-33), 3) := by decide +kernel
theorem dX7_servedAt_46 : decode cX7_servedAt 46 = .ok (.iload_n 2, 1) := by decide +kernel
theorem dX7_servedAt_47 : decode cX7_servedAt 47 = .ok (.ireturn, 1) := by decide +kernel
theorem dX7_missingAt_0 : decode cX7_missingAt 0 = .ok (.aload_n 0, 1) := by decide +kernel
theorem dX7_missingAt_1 : decode cX7_missingAt 1 = .ok (.iload_n 1, 1) := by decide +kernel
theorem dX7_missingAt_2 : decode cX7_missingAt 2 = .ok (.invokevirtual 75, 3) := by decide +kernel
theorem dX7_missingAt_5 : decode cX7_missingAt 5 = .ok (.istore_n 2, 1) := by decide +kernel
theorem dX7_missingAt_6 : decode cX7_missingAt 6 = .ok (.iconst 0, 1) := by decide +kernel
theorem dX7_missingAt_7 : decode cX7_missingAt 7 = .ok (.istore_n 3, 1) := by decide +kernel
theorem dX7_missingAt_8 : decode cX7_missingAt 8 = .ok (.iconst 0, 1) := by decide +kernel
theorem dX7_missingAt_9 : decode cX7_missingAt 9 = .ok (.istore 4, 2) := by decide +kernel
theorem dX7_missingAt_11 : decode cX7_missingAt 11 = .ok (.iload 4, 2) := by decide +kernel
theorem dX7_missingAt_13 : decode cX7_missingAt 13 = .ok (.aload_n 0, 1) := by decide +kernel
theorem dX7_missingAt_14 : decode cX7_missingAt 14 = .ok (.getfield 27, 3) := by decide +kernel
theorem dX7_missingAt_17 : decode cX7_missingAt 17 = .ok (.getfield 68, 3) := by decide +kernel
theorem dX7_missingAt_20 : decode cX7_missingAt 20 = .ok (.if_icmp .ge 30, 3) := by decide +kernel
theorem dX7_missingAt_23 : decode cX7_missingAt 23 = .ok (.aload_n 0, 1) := by decide +kernel
theorem dX7_missingAt_24 : decode cX7_missingAt 24 = .ok (.bipush 12, 2) := by decide +kernel
theorem dX7_missingAt_26 : decode cX7_missingAt 26 = .ok (.iload 4, 2) := by decide +kernel
theorem dX7_missingAt_28 : decode cX7_missingAt 28 = .ok (.imul, 1) := by decide +kernel
theorem dX7_missingAt_29 : decode cX7_missingAt 29 = .ok (.iload_n 1, 1) := by decide +kernel
theorem dX7_missingAt_30 : decode cX7_missingAt 30 = .ok (.iadd, 1) := by decide +kernel
theorem dX7_missingAt_31 : decode cX7_missingAt 31 = .ok (.invokevirtual 72, 3) := by decide +kernel
theorem dX7_missingAt_34 : decode cX7_missingAt 34 = .ok (.ifCond .eq 10, 3) := by decide +kernel
theorem dX7_missingAt_37 : decode cX7_missingAt 37 = .ok (.iload_n 3, 1) := by decide +kernel
theorem dX7_missingAt_38 : decode cX7_missingAt 38 = .ok (.iconst 1, 1) := by decide +kernel
theorem dX7_missingAt_39 : decode cX7_missingAt 39 = .ok (.iload 4, 2) := by decide +kernel
theorem dX7_missingAt_41 : decode cX7_missingAt 41 = .ok (.ishl, 1) := by decide +kernel
theorem dX7_missingAt_42 : decode cX7_missingAt 42 = .ok (.ior, 1) := by decide +kernel
theorem dX7_missingAt_43 : decode cX7_missingAt 43 = .ok (.istore_n 3, 1) := by decide +kernel
theorem dX7_missingAt_44 : decode cX7_missingAt 44 = .ok (.iinc 4 1, 3) := by decide +kernel
theorem dX7_missingAt_47 : decode cX7_missingAt 47 = .ok (.goto (-36), 3) := by decide +kernel
theorem dX7_missingAt_50 : decode cX7_missingAt 50 = .ok (.iload_n 3, 1) := by decide +kernel
theorem dX7_missingAt_51 : decode cX7_missingAt 51 = .ok (.iload_n 2, 1) := by decide +kernel
theorem dX7_missingAt_52 : decode cX7_missingAt 52 = .ok (.iconst (-1), 1) := by decide +kernel
theorem dX7_missingAt_53 : decode cX7_missingAt 53 = .ok (.ixor, 1) := by decide +kernel
theorem dX7_missingAt_54 : decode cX7_missingAt 54 = .ok (.iand, 1) := by decide +kernel
theorem dX7_missingAt_55 : decode cX7_missingAt 55 = .ok (.ireturn, 1) := by decide +kernel
theorem dX7_lastServed_0 : decode cX7_lastServed 0 = .ok (.aload_n 0, 1) := by decide +kernel
theorem dX7_lastServed_1 : decode cX7_lastServed 1 = .ok (.iconst 0, 1) := by decide +kernel
theorem dX7_lastServed_2 : decode cX7_lastServed 2 = .ok (.iload_n 2, 1) := by decide +kernel
theorem dX7_lastServed_3 : decode cX7_lastServed 3 = .ok (.invokevirtual 46, 3) := by decide +kernel
theorem dX7_lastServed_6 : decode cX7_lastServed 6 = .ok (.iload_n 2, 1) := by decide +kernel
theorem dX7_lastServed_7 : decode cX7_lastServed 7 = .ok (.istore_n 3, 1) := by decide +kernel
theorem dX7_lastServed_8 : decode cX7_lastServed 8 = .ok (.iload_n 3, 1) := by decide +kernel
theorem dX7_lastServed_9 : decode cX7_lastServed 9 = .ok (.ifCond .lt 24, 3) := by decide +kernel
theorem dX7_lastServed_12 : decode cX7_lastServed 12 = .ok (.aload_n 0, 1) := by decide +kernel
theorem dX7_lastServed_13 : decode cX7_lastServed 13 = .ok (.bipush 12, 2) := by decide +kernel
theorem dX7_lastServed_15 : decode cX7_lastServed 15 = .ok (.iload_n 1, 1) := by decide +kernel
theorem dX7_lastServed_16 : decode cX7_lastServed 16 = .ok (.imul, 1) := by decide +kernel
theorem dX7_lastServed_17 : decode cX7_lastServed 17 = .ok (.iload_n 3, 1) := by decide +kernel
theorem dX7_lastServed_18 : decode cX7_lastServed 18 = .ok (.iadd, 1) := by decide +kernel
theorem dX7_lastServed_19 : decode cX7_lastServed 19 = .ok (.invokevirtual 50, 3) := by decide +kernel
theorem dX7_lastServed_22 : decode cX7_lastServed 22 = .ok (.ifCond .eq 5, 3) := by decide +kernel
theorem dX7_lastServed_25 : decode cX7_lastServed 25 = .ok (.iload_n 3, 1) := by decide +kernel
theorem dX7_lastServed_26 : decode cX7_lastServed 26 = .ok (.ireturn, 1) := by decide +kernel
theorem dX7_lastServed_27 : decode cX7_lastServed 27 = .ok (.iinc 3 (-1), 3) := by decide +kernel
theorem dX7_lastServed_30 : decode cX7_lastServed 30 = .ok (.goto (-22), 3) := by decide +kernel
theorem dX7_lastServed_33 : decode cX7_lastServed 33 = .ok (.bipush (-2), 2) := by decide +kernel
theorem dX7_lastServed_35 : decode cX7_lastServed 35 = .ok (.ireturn, 1) := by decide +kernel
theorem dX7_shareOf_0 : decode cX7_shareOf 0 = .ok (.aload_n 0, 1) := by decide +kernel
theorem dX7_shareOf_1 : decode cX7_shareOf 1 = .ok (.iload_n 2, 1) := by decide +kernel
theorem dX7_shareOf_2 : decode cX7_shareOf 2 = .ok (.iload_n 2, 1) := by decide +kernel
theorem dX7_shareOf_3 : decode cX7_shareOf 3 = .ok (.invokevirtual 46, 3) := by decide +kernel
theorem dX7_shareOf_6 : decode cX7_shareOf 6 = .ok (.iconst 0, 1) := by decide +kernel
theorem dX7_shareOf_7 : decode cX7_shareOf 7 = .ok (.istore 4, 2) := by decide +kernel
theorem dX7_shareOf_9 : decode cX7_shareOf 9 = .ok (.iconst 0, 1) := by decide +kernel
theorem dX7_shareOf_10 : decode cX7_shareOf 10 = .ok (.istore 5, 2) := by decide +kernel
theorem dX7_shareOf_12 : decode cX7_shareOf 12 = .ok (.iconst 0, 1) := by decide +kernel
theorem dX7_shareOf_13 : decode cX7_shareOf 13 = .ok (.istore 6, 2) := by decide +kernel
theorem dX7_shareOf_15 : decode cX7_shareOf 15 = .ok (.iload 6, 2) := by decide +kernel
theorem dX7_shareOf_17 : decode cX7_shareOf 17 = .ok (.aload_n 0, 1) := by decide +kernel
theorem dX7_shareOf_18 : decode cX7_shareOf 18 = .ok (.getfield 27, 3) := by decide +kernel
theorem dX7_shareOf_21 : decode cX7_shareOf 21 = .ok (.getfield 68, 3) := by decide +kernel
theorem dX7_shareOf_24 : decode cX7_shareOf 24 = .ok (.if_icmp .ge 47, 3) := by decide +kernel
theorem dX7_shareOf_27 : decode cX7_shareOf 27 = .ok (.bipush 12, 2) := by decide +kernel
theorem dX7_shareOf_29 : decode cX7_shareOf 29 = .ok (.iload 6, 2) := by decide +kernel
theorem dX7_shareOf_31 : decode cX7_shareOf 31 = .ok (.imul, 1) := by decide +kernel
theorem dX7_shareOf_32 : decode cX7_shareOf 32 = .ok (.iload_n 2, 1) := by decide +kernel
theorem dX7_shareOf_33 : decode cX7_shareOf 33 = .ok (.iadd, 1) := by decide +kernel
theorem dX7_shareOf_34 : decode cX7_shareOf 34 = .ok (.istore 7, 2) := by decide +kernel
theorem dX7_shareOf_36 : decode cX7_shareOf 36 = .ok (.iload 4, 2) := by decide +kernel
theorem dX7_shareOf_38 : decode cX7_shareOf 38 = .ok (.aload_n 0, 1) := by decide +kernel
theorem dX7_shareOf_39 : decode cX7_shareOf 39 = .ok (.getfield 15, 3) := by decide +kernel
theorem dX7_shareOf_42 : decode cX7_shareOf 42 = .ok (.bipush 7, 2) := by decide +kernel
theorem dX7_shareOf_44 : decode cX7_shareOf 44 = .ok (.iload 7, 2) := by decide +kernel
theorem dX7_shareOf_46 : decode cX7_shareOf 46 = .ok (.imul, 1) := by decide +kernel
theorem dX7_shareOf_47 : decode cX7_shareOf 47 = .ok (.iload_n 1, 1) := by decide +kernel
theorem dX7_shareOf_48 : decode cX7_shareOf 48 = .ok (.iadd, 1) := by decide +kernel
theorem dX7_shareOf_49 : decode cX7_shareOf 49 = .ok (.iaload, 1) := by decide +kernel
theorem dX7_shareOf_50 : decode cX7_shareOf 50 = .ok (.iadd, 1) := by decide +kernel
theorem dX7_shareOf_51 : decode cX7_shareOf 51 = .ok (.istore 4, 2) := by decide +kernel
theorem dX7_shareOf_53 : decode cX7_shareOf 53 = .ok (.iload 5, 2) := by decide +kernel
theorem dX7_shareOf_55 : decode cX7_shareOf 55 = .ok (.aload_n 0, 1) := by decide +kernel
theorem dX7_shareOf_56 : decode cX7_shareOf 56 = .ok (.getfield 11, 3) := by decide +kernel
theorem dX7_shareOf_59 : decode cX7_shareOf 59 = .ok (.iload 7, 2) := by decide +kernel
theorem dX7_shareOf_61 : decode cX7_shareOf 61 = .ok (.iaload, 1) := by decide +kernel
theorem dX7_shareOf_62 : decode cX7_shareOf 62 = .ok (.iadd, 1) := by decide +kernel
theorem dX7_shareOf_63 : decode cX7_shareOf 63 = .ok (.istore 5, 2) := by decide +kernel
theorem dX7_shareOf_65 : decode cX7_shareOf 65 = .ok (.iinc 6 1, 3) := by decide +kernel
theorem dX7_shareOf_68 : decode cX7_shareOf 68 = .ok (.goto (-53), 3) := by decide +kernel
theorem dX7_shareOf_71 : decode cX7_shareOf 71 = .ok (.iload 5, 2) := by decide +kernel
theorem dX7_shareOf_73 : decode cX7_shareOf 73 = .ok (.ifCond .ne 7, 3) := by decide +kernel
theorem dX7_shareOf_76 : decode cX7_shareOf 76 = .ok (.iconst 0, 1) := by decide +kernel
theorem dX7_shareOf_77 : decode cX7_shareOf 77 = .ok (.goto 10, 3) := by decide +kernel
theorem dX7_shareOf_80 : decode cX7_shareOf 80 = .ok (.iload_n 3, 1) := by decide +kernel
theorem dX7_shareOf_81 : decode cX7_shareOf 81 = .ok (.iload 4, 2) := by decide +kernel
theorem dX7_shareOf_83 : decode cX7_shareOf 83 = .ok (.imul, 1) := by decide +kernel
theorem dX7_shareOf_84 : decode cX7_shareOf 84 = .ok (.iload 5, 2) := by decide +kernel
theorem dX7_shareOf_86 : decode cX7_shareOf 86 = .ok (.idiv, 1) := by decide +kernel
theorem dX7_shareOf_87 : decode cX7_shareOf 87 = .ok (.ireturn, 1) := by decide +kernel
theorem dX7_fewest_0 : decode cX7_fewest 0 = .ok (.aload_n 0, 1) := by decide +kernel
theorem dX7_fewest_1 : decode cX7_fewest 1 = .ok (.invokevirtual 78, 3) := by decide +kernel
theorem dX7_fewest_4 : decode cX7_fewest 4 = .ok (.aload_n 0, 1) := by decide +kernel
theorem dX7_fewest_5 : decode cX7_fewest 5 = .ok (.getfield 27, 3) := by decide +kernel
theorem dX7_fewest_8 : decode cX7_fewest 8 = .ok (.invokevirtual 81, 3) := by decide +kernel
theorem dX7_fewest_11 : decode cX7_fewest 11 = .ok (.istore_n 1, 1) := by decide +kernel
theorem dX7_fewest_12 : decode cX7_fewest 12 = .ok (.iconst 0, 1) := by decide +kernel
theorem dX7_fewest_13 : decode cX7_fewest 13 = .ok (.istore_n 2, 1) := by decide +kernel
theorem dX7_fewest_14 : decode cX7_fewest 14 = .ok (.iload_n 2, 1) := by decide +kernel
theorem dX7_fewest_15 : decode cX7_fewest 15 = .ok (.aload_n 0, 1) := by decide +kernel
theorem dX7_fewest_16 : decode cX7_fewest 16 = .ok (.getfield 27, 3) := by decide +kernel
theorem dX7_fewest_19 : decode cX7_fewest 19 = .ok (.invokevirtual 81, 3) := by decide +kernel
theorem dX7_fewest_22 : decode cX7_fewest 22 = .ok (.if_icmp .ge 31, 3) := by decide +kernel
theorem dX7_fewest_25 : decode cX7_fewest 25 = .ok (.aload_n 0, 1) := by decide +kernel
theorem dX7_fewest_26 : decode cX7_fewest 26 = .ok (.getfield 21, 3) := by decide +kernel
theorem dX7_fewest_29 : decode cX7_fewest 29 = .ok (.iload_n 2, 1) := by decide +kernel
theorem dX7_fewest_30 : decode cX7_fewest 30 = .ok (.iaload, 1) := by decide +kernel
theorem dX7_fewest_31 : decode cX7_fewest 31 = .ok (.ifCond .ne 16, 3) := by decide +kernel
theorem dX7_fewest_34 : decode cX7_fewest 34 = .ok (.iload_n 2, 1) := by decide +kernel
theorem dX7_fewest_35 : decode cX7_fewest 35 = .ok (.invokestatic 63, 3) := by decide +kernel
theorem dX7_fewest_38 : decode cX7_fewest 38 = .ok (.iload_n 1, 1) := by decide +kernel
theorem dX7_fewest_39 : decode cX7_fewest 39 = .ok (.invokestatic 63, 3) := by decide +kernel
theorem dX7_fewest_42 : decode cX7_fewest 42 = .ok (.if_icmp .ge 5, 3) := by decide +kernel
theorem dX7_fewest_45 : decode cX7_fewest 45 = .ok (.iload_n 2, 1) := by decide +kernel
theorem dX7_fewest_46 : decode cX7_fewest 46 = .ok (.istore_n 1, 1) := by decide +kernel
theorem dX7_fewest_47 : decode cX7_fewest 47 = .ok (.iinc 2 1, 3) := by decide +kernel
theorem dX7_fewest_50 : decode cX7_fewest 50 = .ok (.goto (-36), 3) := by decide +kernel
theorem dX7_fewest_53 : decode cX7_fewest 53 = .ok (.iload_n 1, 1) := by decide +kernel
theorem dX7_fewest_54 : decode cX7_fewest 54 = .ok (.ireturn, 1) := by decide +kernel
theorem dX7_cheapest_0 : decode cX7_cheapest 0 = .ok (.aload_n 0, 1) := by decide +kernel
theorem dX7_cheapest_1 : decode cX7_cheapest 1 = .ok (.invokevirtual 78, 3) := by decide +kernel
theorem dX7_cheapest_4 : decode cX7_cheapest 4 = .ok (.aload_n 0, 1) := by decide +kernel
theorem dX7_cheapest_5 : decode cX7_cheapest 5 = .ok (.sipush 4095, 3) := by decide +kernel
theorem dX7_cheapest_8 : decode cX7_cheapest 8 = .ok (.iconst 1, 1) := by decide +kernel
theorem dX7_cheapest_9 : decode cX7_cheapest 9 = .ok (.invokevirtual 85, 3) := by decide +kernel
theorem dX7_cheapest_12 : decode cX7_cheapest 12 = .ok (.ireturn, 1) := by decide +kernel
theorem dX7_needed_0 : decode cX7_needed 0 = .ok (.aload_n 0, 1) := by decide +kernel
theorem dX7_needed_1 : decode cX7_needed 1 = .ok (.invokevirtual 78, 3) := by decide +kernel
theorem dX7_needed_4 : decode cX7_needed 4 = .ok (.iconst 0, 1) := by decide +kernel
theorem dX7_needed_5 : decode cX7_needed 5 = .ok (.istore_n 1, 1) := by decide +kernel
theorem dX7_needed_6 : decode cX7_needed 6 = .ok (.iconst 0, 1) := by decide +kernel
theorem dX7_needed_7 : decode cX7_needed 7 = .ok (.istore_n 2, 1) := by decide +kernel
theorem dX7_needed_8 : decode cX7_needed 8 = .ok (.iload_n 2, 1) := by decide +kernel
theorem dX7_needed_9 : decode cX7_needed 9 = .ok (.aload_n 0, 1) := by decide +kernel
theorem dX7_needed_10 : decode cX7_needed 10 = .ok (.getfield 27, 3) := by decide +kernel
theorem dX7_needed_13 : decode cX7_needed 13 = .ok (.getfield 89, 3) := by decide +kernel
theorem dX7_needed_16 : decode cX7_needed 16 = .ok (.if_icmp .ge 36, 3) := by decide +kernel
theorem dX7_needed_19 : decode cX7_needed 19 = .ok (.aload_n 0, 1) := by decide +kernel
theorem dX7_needed_20 : decode cX7_needed 20 = .ok (.getfield 21, 3) := by decide +kernel
theorem dX7_needed_23 : decode cX7_needed 23 = .ok (.aload_n 0, 1) := by decide +kernel
theorem dX7_needed_24 : decode cX7_needed 24 = .ok (.getfield 27, 3) := by decide +kernel
theorem dX7_needed_27 : decode cX7_needed 27 = .ok (.invokevirtual 81, 3) := by decide +kernel
theorem dX7_needed_30 : decode cX7_needed 30 = .ok (.iconst 1, 1) := by decide +kernel
theorem dX7_needed_31 : decode cX7_needed 31 = .ok (.iload_n 2, 1) := by decide +kernel
theorem dX7_needed_32 : decode cX7_needed 32 = .ok (.ishl, 1) := by decide +kernel
theorem dX7_needed_33 : decode cX7_needed 33 = .ok (.iconst (-1), 1) := by decide +kernel
theorem dX7_needed_34 : decode cX7_needed 34 = .ok (.ixor, 1) := by decide +kernel
theorem dX7_needed_35 : decode cX7_needed 35 = .ok (.iand, 1) := by decide +kernel
theorem dX7_needed_36 : decode cX7_needed 36 = .ok (.iaload, 1) := by decide +kernel
theorem dX7_needed_37 : decode cX7_needed 37 = .ok (.ifCond .eq 9, 3) := by decide +kernel
theorem dX7_needed_40 : decode cX7_needed 40 = .ok (.iload_n 1, 1) := by decide +kernel
theorem dX7_needed_41 : decode cX7_needed 41 = .ok (.iconst 1, 1) := by decide +kernel
theorem dX7_needed_42 : decode cX7_needed 42 = .ok (.iload_n 2, 1) := by decide +kernel
theorem dX7_needed_43 : decode cX7_needed 43 = .ok (.ishl, 1) := by decide +kernel
theorem dX7_needed_44 : decode cX7_needed 44 = .ok (.ior, 1) := by decide +kernel
theorem dX7_needed_45 : decode cX7_needed 45 = .ok (.istore_n 1, 1) := by decide +kernel
theorem dX7_needed_46 : decode cX7_needed 46 = .ok (.iinc 2 1, 3) := by decide +kernel
theorem dX7_needed_49 : decode cX7_needed 49 = .ok (.goto (-41), 3) := by decide +kernel
theorem dX7_needed_52 : decode cX7_needed 52 = .ok (.iload_n 1, 1) := by decide +kernel
theorem dX7_needed_53 : decode cX7_needed 53 = .ok (.ireturn, 1) := by decide +kernel
theorem dX7_rosterAt_0 : decode cX7_rosterAt 0 = .ok (.aload_n 0, 1) := by decide +kernel
theorem dX7_rosterAt_1 : decode cX7_rosterAt 1 = .ok (.invokevirtual 78, 3) := by decide +kernel
theorem dX7_rosterAt_4 : decode cX7_rosterAt 4 = .ok (.aload_n 0, 1) := by decide +kernel
theorem dX7_rosterAt_5 : decode cX7_rosterAt 5 = .ok (.iconst 1, 1) := by decide +kernel
theorem dX7_rosterAt_6 : decode cX7_rosterAt 6 = .ok (.iload_n 1, 1) := by decide +kernel
theorem dX7_rosterAt_7 : decode cX7_rosterAt 7 = .ok (.ishl, 1) := by decide +kernel
theorem dX7_rosterAt_8 : decode cX7_rosterAt 8 = .ok (.iconst 0, 1) := by decide +kernel
theorem dX7_rosterAt_9 : decode cX7_rosterAt 9 = .ok (.invokevirtual 85, 3) := by decide +kernel
theorem dX7_rosterAt_12 : decode cX7_rosterAt 12 = .ok (.ireturn, 1) := by decide +kernel
theorem dX7_payOfRosters_0 : decode cX7_payOfRosters 0 = .ok (.aload_n 0, 1) := by decide +kernel
theorem dX7_payOfRosters_1 : decode cX7_payOfRosters 1 = .ok (.invokevirtual 78, 3) := by decide +kernel
theorem dX7_payOfRosters_4 : decode cX7_payOfRosters 4 = .ok (.iconst 0, 1) := by decide +kernel
theorem dX7_payOfRosters_5 : decode cX7_payOfRosters 5 = .ok (.istore_n 1, 1) := by decide +kernel
theorem dX7_payOfRosters_6 : decode cX7_payOfRosters 6 = .ok (.iconst 0, 1) := by decide +kernel
theorem dX7_payOfRosters_7 : decode cX7_payOfRosters 7 = .ok (.istore_n 2, 1) := by decide +kernel
theorem dX7_payOfRosters_8 : decode cX7_payOfRosters 8 = .ok (.iload_n 2, 1) := by decide +kernel
theorem dX7_payOfRosters_9 : decode cX7_payOfRosters 9 = .ok (.bipush 12, 2) := by decide +kernel
theorem dX7_payOfRosters_11 : decode cX7_payOfRosters 11 = .ok (.if_icmp .ge 27, 3) := by decide +kernel
theorem dX7_payOfRosters_14 : decode cX7_payOfRosters 14 = .ok (.iload_n 1, 1) := by decide +kernel
theorem dX7_payOfRosters_15 : decode cX7_payOfRosters 15 = .ok (.aload_n 0, 1) := by decide +kernel
theorem dX7_payOfRosters_16 : decode cX7_payOfRosters 16 = .ok (.getfield 27, 3) := by decide +kernel
theorem dX7_payOfRosters_19 : decode cX7_payOfRosters 19 = .ok (.aload_n 0, 1) := by decide +kernel
theorem dX7_payOfRosters_20 : decode cX7_payOfRosters 20 = .ok (.iconst 1, 1) := by decide +kernel
theorem dX7_payOfRosters_21 : decode cX7_payOfRosters 21 = .ok (.iload_n 2, 1) := by decide +kernel
theorem dX7_payOfRosters_22 : decode cX7_payOfRosters 22 = .ok (.ishl, 1) := by decide +kernel
theorem dX7_payOfRosters_23 : decode cX7_payOfRosters 23 = .ok (.iconst 0, 1) := by decide +kernel
theorem dX7_payOfRosters_24 : decode cX7_payOfRosters 24 = .ok (.invokevirtual 85, 3) := by decide +kernel
theorem dX7_payOfRosters_27 : decode cX7_payOfRosters 27 = .ok (.invokevirtual 92, 3) := by decide +kernel
theorem dX7_payOfRosters_30 : decode cX7_payOfRosters 30 = .ok (.iadd, 1) := by decide +kernel
theorem dX7_payOfRosters_31 : decode cX7_payOfRosters 31 = .ok (.istore_n 1, 1) := by decide +kernel
theorem dX7_payOfRosters_32 : decode cX7_payOfRosters 32 = .ok (.iinc 2 1, 3) := by decide +kernel
theorem dX7_payOfRosters_35 : decode cX7_payOfRosters 35 = .ok (.goto (-27), 3) := by decide +kernel
theorem dX7_payOfRosters_38 : decode cX7_payOfRosters 38 = .ok (.iload_n 1, 1) := by decide +kernel
theorem dX7_payOfRosters_39 : decode cX7_payOfRosters 39 = .ok (.ireturn, 1) := by decide +kernel
theorem dX7_bestCell_0 : decode cX7_bestCell 0 = .ok (.aload_n 0, 1) := by decide +kernel
theorem dX7_bestCell_1 : decode cX7_bestCell 1 = .ok (.iconst 0, 1) := by decide +kernel
theorem dX7_bestCell_2 : decode cX7_bestCell 2 = .ok (.bipush 11, 2) := by decide +kernel
theorem dX7_bestCell_4 : decode cX7_bestCell 4 = .ok (.invokevirtual 46, 3) := by decide +kernel
theorem dX7_bestCell_7 : decode cX7_bestCell 7 = .ok (.iconst 0, 1) := by decide +kernel
theorem dX7_bestCell_8 : decode cX7_bestCell 8 = .ok (.istore_n 2, 1) := by decide +kernel
theorem dX7_bestCell_9 : decode cX7_bestCell 9 = .ok (.ldc 95, 2) := by decide +kernel
theorem dX7_bestCell_11 : decode cX7_bestCell 11 = .ok (.istore_n 3, 1) := by decide +kernel
theorem dX7_bestCell_12 : decode cX7_bestCell 12 = .ok (.iconst 0, 1) := by decide +kernel
theorem dX7_bestCell_13 : decode cX7_bestCell 13 = .ok (.istore 4, 2) := by decide +kernel
theorem dX7_bestCell_15 : decode cX7_bestCell 15 = .ok (.iload 4, 2) := by decide +kernel
theorem dX7_bestCell_17 : decode cX7_bestCell 17 = .ok (.sipush 144, 3) := by decide +kernel
theorem dX7_bestCell_20 : decode cX7_bestCell 20 = .ok (.if_icmp .ge 30, 3) := by decide +kernel
theorem dX7_bestCell_23 : decode cX7_bestCell 23 = .ok (.aload_n 0, 1) := by decide +kernel
theorem dX7_bestCell_24 : decode cX7_bestCell 24 = .ok (.iload_n 1, 1) := by decide +kernel
theorem dX7_bestCell_25 : decode cX7_bestCell 25 = .ok (.iload 4, 2) := by decide +kernel
theorem dX7_bestCell_27 : decode cX7_bestCell 27 = .ok (.invokevirtual 96, 3) := by decide +kernel
theorem dX7_bestCell_30 : decode cX7_bestCell 30 = .ok (.istore 5, 2) := by decide +kernel
theorem dX7_bestCell_32 : decode cX7_bestCell 32 = .ok (.iload 5, 2) := by decide +kernel
theorem dX7_bestCell_34 : decode cX7_bestCell 34 = .ok (.iload_n 3, 1) := by decide +kernel
theorem dX7_bestCell_35 : decode cX7_bestCell 35 = .ok (.if_icmp .ge 9, 3) := by decide +kernel
theorem dX7_bestCell_38 : decode cX7_bestCell 38 = .ok (.iload 5, 2) := by decide +kernel
theorem dX7_bestCell_40 : decode cX7_bestCell 40 = .ok (.istore_n 3, 1) := by decide +kernel
theorem dX7_bestCell_41 : decode cX7_bestCell 41 = .ok (.iload 4, 2) := by decide +kernel
theorem dX7_bestCell_43 : decode cX7_bestCell 43 = .ok (.istore_n 2, 1) := by decide +kernel
theorem dX7_bestCell_44 : decode cX7_bestCell 44 = .ok (.iinc 4 1, 3) := by decide +kernel
theorem dX7_bestCell_47 : decode cX7_bestCell 47 = .ok (.goto (-32), 3) := by decide +kernel
theorem dX7_bestCell_50 : decode cX7_bestCell 50 = .ok (.iload_n 2, 1) := by decide +kernel
theorem dX7_bestCell_51 : decode cX7_bestCell 51 = .ok (.ireturn, 1) := by decide +kernel
theorem dX7_missesBeside_0 : decode cX7_missesBeside 0 = .ok (.iconst 0, 1) := by decide +kernel
theorem dX7_missesBeside_1 : decode cX7_missesBeside 1 = .ok (.istore_n 3, 1) := by decide +kernel
theorem dX7_missesBeside_2 : decode cX7_missesBeside 2 = .ok (.iconst 0, 1) := by decide +kernel
theorem dX7_missesBeside_3 : decode cX7_missesBeside 3 = .ok (.istore 4, 2) := by decide +kernel
theorem dX7_missesBeside_5 : decode cX7_missesBeside 5 = .ok (.iload 4, 2) := by decide +kernel
theorem dX7_missesBeside_7 : decode cX7_missesBeside 7 = .ok (.bipush 12, 2) := by decide +kernel
theorem dX7_missesBeside_9 : decode cX7_missesBeside 9 = .ok (.aload_n 0, 1) := by decide +kernel
theorem dX7_missesBeside_10 : decode cX7_missesBeside 10 = .ok (.getfield 27, 3) := by decide +kernel
theorem dX7_missesBeside_13 : decode cX7_missesBeside 13 = .ok (.getfield 68, 3) := by decide +kernel
theorem dX7_missesBeside_16 : decode cX7_missesBeside 16 = .ok (.imul, 1) := by decide +kernel
theorem dX7_missesBeside_17 : decode cX7_missesBeside 17 = .ok (.if_icmp .ge 82, 3) := by decide +kernel
theorem dX7_missesBeside_20 : decode cX7_missesBeside 20 = .ok (.aload_n 0, 1) := by decide +kernel
theorem dX7_missesBeside_21 : decode cX7_missesBeside 21 = .ok (.iload 4, 2) := by decide +kernel
theorem dX7_missesBeside_23 : decode cX7_missesBeside 23 = .ok (.invokevirtual 72, 3) := by decide +kernel
theorem dX7_missesBeside_26 : decode cX7_missesBeside 26 = .ok (.ifCond .eq 67, 3) := by decide +kernel
theorem dX7_missesBeside_29 : decode cX7_missesBeside 29 = .ok (.aload_n 0, 1) := by decide +kernel
theorem dX7_missesBeside_30 : decode cX7_missesBeside 30 = .ok (.iload 4, 2) := by decide +kernel
theorem dX7_missesBeside_32 : decode cX7_missesBeside 32 = .ok (.invokevirtual 50, 3) := by decide +kernel
theorem dX7_missesBeside_35 : decode cX7_missesBeside 35 = .ok (.ifCond .eq 6, 3) := by decide +kernel
theorem dX7_missesBeside_38 : decode cX7_missesBeside 38 = .ok (.goto 55, 3) := by decide +kernel
theorem dX7_missesBeside_41 : decode cX7_missesBeside 41 = .ok (.aload_n 0, 1) := by decide +kernel
theorem dX7_missesBeside_42 : decode cX7_missesBeside 42 = .ok (.getfield 31, 3) := by decide +kernel
theorem dX7_missesBeside_45 : decode cX7_missesBeside 45 = .ok (.iload_n 2, 1) := by decide +kernel
theorem dX7_missesBeside_46 : decode cX7_missesBeside 46 = .ok (.iload_n 1, 1) := by decide +kernel
theorem dX7_missesBeside_47 : decode cX7_missesBeside 47 = .ok (.iconst 1, 1) := by decide +kernel
theorem dX7_missesBeside_48 : decode cX7_missesBeside 48 = .ok (.aload_n 0, 1) := by decide +kernel
theorem dX7_missesBeside_49 : decode cX7_missesBeside 49 = .ok (.getfield 27, 3) := by decide +kernel
theorem dX7_missesBeside_52 : decode cX7_missesBeside 52 = .ok (.getfield 89, 3) := by decide +kernel
theorem dX7_missesBeside_55 : decode cX7_missesBeside 55 = .ok (.aload_n 0, 1) := by decide +kernel
theorem dX7_missesBeside_56 : decode cX7_missesBeside 56 = .ok (.iload 4, 2) := by decide +kernel
theorem dX7_missesBeside_58 : decode cX7_missesBeside 58 = .ok (.invokevirtual 99, 3) := by decide +kernel
theorem dX7_missesBeside_61 : decode cX7_missesBeside 61 = .ok (.iload 4, 2) := by decide +kernel
theorem dX7_missesBeside_63 : decode cX7_missesBeside 63 = .ok (.bipush 12, 2) := by decide +kernel
theorem dX7_missesBeside_65 : decode cX7_missesBeside 65 = .ok (.irem, 1) := by decide +kernel
theorem dX7_missesBeside_66 : decode cX7_missesBeside 66 = .ok (.invokevirtual 102, 3) := by decide +kernel
theorem dX7_missesBeside_69 : decode cX7_missesBeside 69 = .ok (.istore 5, 2) := by decide +kernel
theorem dX7_missesBeside_71 : decode cX7_missesBeside 71 = .ok (.aload_n 0, 1) := by decide +kernel
theorem dX7_missesBeside_72 : decode cX7_missesBeside 72 = .ok (.getfield 11, 3) := by decide +kernel
theorem dX7_missesBeside_75 : decode cX7_missesBeside 75 = .ok (.iload 4, 2) := by decide +kernel
theorem dX7_missesBeside_77 : decode cX7_missesBeside 77 = .ok (.iaload, 1) := by decide +kernel
theorem dX7_missesBeside_78 : decode cX7_missesBeside 78 = .ok (.iload 5, 2) := by decide +kernel
theorem dX7_missesBeside_80 : decode cX7_missesBeside 80 = .ok (.iadd, 1) := by decide +kernel
theorem dX7_missesBeside_81 : decode cX7_missesBeside 81 = .ok (.aload_n 0, 1) := by decide +kernel
theorem dX7_missesBeside_82 : decode cX7_missesBeside 82 = .ok (.iload 4, 2) := by decide +kernel
theorem dX7_missesBeside_84 : decode cX7_missesBeside 84 = .ok (.invokevirtual 106, 3) := by decide +kernel
theorem dX7_missesBeside_87 : decode cX7_missesBeside 87 = .ok (.if_icmp .ge 6, 3) := by decide +kernel
theorem dX7_missesBeside_90 : decode cX7_missesBeside 90 = .ok (.iinc 3 1, 3) := by decide +kernel
theorem dX7_missesBeside_93 : decode cX7_missesBeside 93 = .ok (.iinc 4 1, 3) := by decide +kernel
theorem dX7_missesBeside_96 : decode cX7_missesBeside 96 = .ok (.goto (-91), 3) := by decide +kernel
theorem dX7_missesBeside_99 : decode cX7_missesBeside 99 = .ok (.iload_n 3, 1) := by decide +kernel
theorem dX7_missesBeside_100 : decode cX7_missesBeside 100 = .ok (.ireturn, 1) := by decide +kernel
theorem dX7_bestStep_0 : decode cX7_bestStep 0 = .ok (.aload_n 0, 1) := by decide +kernel
theorem dX7_bestStep_1 : decode cX7_bestStep 1 = .ok (.iconst 0, 1) := by decide +kernel
theorem dX7_bestStep_2 : decode cX7_bestStep 2 = .ok (.bipush 11, 2) := by decide +kernel
theorem dX7_bestStep_4 : decode cX7_bestStep 4 = .ok (.invokevirtual 46, 3) := by decide +kernel
theorem dX7_bestStep_7 : decode cX7_bestStep 7 = .ok (.iconst 4, 1) := by decide +kernel
theorem dX7_bestStep_8 : decode cX7_bestStep 8 = .ok (.istore_n 2, 1) := by decide +kernel
theorem dX7_bestStep_9 : decode cX7_bestStep 9 = .ok (.ldc 95, 2) := by decide +kernel
theorem dX7_bestStep_11 : decode cX7_bestStep 11 = .ok (.istore_n 3, 1) := by decide +kernel
theorem dX7_bestStep_12 : decode cX7_bestStep 12 = .ok (.getstatic 109, 3) := by decide +kernel
theorem dX7_bestStep_15 : decode cX7_bestStep 15 = .ok (.astore 4, 2) := by decide +kernel
theorem dX7_bestStep_17 : decode cX7_bestStep 17 = .ok (.aload 4, 2) := by decide +kernel
theorem dX7_bestStep_19 : decode cX7_bestStep 19 = .ok (.arraylength, 1) := by decide +kernel
theorem dX7_bestStep_20 : decode cX7_bestStep 20 = .ok (.istore 5, 2) := by decide +kernel
theorem dX7_bestStep_22 : decode cX7_bestStep 22 = .ok (.iconst 0, 1) := by decide +kernel
theorem dX7_bestStep_23 : decode cX7_bestStep 23 = .ok (.istore 6, 2) := by decide +kernel
theorem dX7_bestStep_25 : decode cX7_bestStep 25 = .ok (.iload 6, 2) := by decide +kernel
theorem dX7_bestStep_27 : decode cX7_bestStep 27 = .ok (.iload 5, 2) := by decide +kernel
theorem dX7_bestStep_29 : decode cX7_bestStep 29 = .ok (.if_icmp .ge 37, 3) := by decide +kernel
theorem dX7_bestStep_32 : decode cX7_bestStep 32 = .ok (.aload 4, 2) := by decide +kernel
theorem dX7_bestStep_34 : decode cX7_bestStep 34 = .ok (.iload 6, 2) := by decide +kernel
theorem dX7_bestStep_36 : decode cX7_bestStep 36 = .ok (.iaload, 1) := by decide +kernel
theorem dX7_bestStep_37 : decode cX7_bestStep 37 = .ok (.istore 7, 2) := by decide +kernel
theorem dX7_bestStep_39 : decode cX7_bestStep 39 = .ok (.aload_n 0, 1) := by decide +kernel
theorem dX7_bestStep_40 : decode cX7_bestStep 40 = .ok (.iload_n 1, 1) := by decide +kernel
theorem dX7_bestStep_41 : decode cX7_bestStep 41 = .ok (.iload 7, 2) := by decide +kernel
theorem dX7_bestStep_43 : decode cX7_bestStep 43 = .ok (.invokevirtual 112, 3) := by decide +kernel
theorem dX7_bestStep_46 : decode cX7_bestStep 46 = .ok (.istore 8, 2) := by decide +kernel
theorem dX7_bestStep_48 : decode cX7_bestStep 48 = .ok (.iload 8, 2) := by decide +kernel
theorem dX7_bestStep_50 : decode cX7_bestStep 50 = .ok (.iload_n 3, 1) := by decide +kernel
theorem dX7_bestStep_51 : decode cX7_bestStep 51 = .ok (.if_icmp .ge 9, 3) := by decide +kernel
theorem dX7_bestStep_54 : decode cX7_bestStep 54 = .ok (.iload 8, 2) := by decide +kernel
theorem dX7_bestStep_56 : decode cX7_bestStep 56 = .ok (.istore_n 3, 1) := by decide +kernel
theorem dX7_bestStep_57 : decode cX7_bestStep 57 = .ok (.iload 7, 2) := by decide +kernel
theorem dX7_bestStep_59 : decode cX7_bestStep 59 = .ok (.istore_n 2, 1) := by decide +kernel
theorem dX7_bestStep_60 : decode cX7_bestStep 60 = .ok (.iinc 6 1, 3) := by decide +kernel
theorem dX7_bestStep_63 : decode cX7_bestStep 63 = .ok (.goto (-38), 3) := by decide +kernel
theorem dX7_bestStep_66 : decode cX7_bestStep 66 = .ok (.iload_n 2, 1) := by decide +kernel
theorem dX7_bestStep_67 : decode cX7_bestStep 67 = .ok (.ireturn, 1) := by decide +kernel
theorem dX7_missesAfter_0 : decode cX7_missesAfter 0 = .ok (.aload_n 0, 1) := by decide +kernel
theorem dX7_missesAfter_1 : decode cX7_missesAfter 1 = .ok (.getfield 27, 3) := by decide +kernel
theorem dX7_missesAfter_4 : decode cX7_missesAfter 4 = .ok (.iload_n 1, 1) := by decide +kernel
theorem dX7_missesAfter_5 : decode cX7_missesAfter 5 = .ok (.iconst 0, 1) := by decide +kernel
theorem dX7_missesAfter_6 : decode cX7_missesAfter 6 = .ok (.invokevirtual 54, 3) := by decide +kernel
theorem dX7_missesAfter_9 : decode cX7_missesAfter 9 = .ok (.iload_n 2, 1) := by decide +kernel
theorem dX7_missesAfter_10 : decode cX7_missesAfter 10 = .ok (.invokestatic 115, 3) := by decide +kernel
theorem dX7_missesAfter_13 : decode cX7_missesAfter 13 = .ok (.istore_n 3, 1) := by decide +kernel
theorem dX7_missesAfter_14 : decode cX7_missesAfter 14 = .ok (.iload_n 3, 1) := by decide +kernel
theorem dX7_missesAfter_15 : decode cX7_missesAfter 15 = .ok (.ifCond .ge 6, 3) := by decide +kernel
theorem dX7_missesAfter_18 : decode cX7_missesAfter 18 = .ok (.ldc 95, 2) := by decide +kernel
theorem dX7_missesAfter_20 : decode cX7_missesAfter 20 = .ok (.ireturn, 1) := by decide +kernel
theorem dX7_missesAfter_21 : decode cX7_missesAfter 21 = .ok (.aload_n 0, 1) := by decide +kernel
theorem dX7_missesAfter_22 : decode cX7_missesAfter 22 = .ok (.getfield 27, 3) := by decide +kernel
theorem dX7_missesAfter_25 : decode cX7_missesAfter 25 = .ok (.iload_n 1, 1) := by decide +kernel
theorem dX7_missesAfter_26 : decode cX7_missesAfter 26 = .ok (.iconst 1, 1) := by decide +kernel
theorem dX7_missesAfter_27 : decode cX7_missesAfter 27 = .ok (.invokevirtual 54, 3) := by decide +kernel
theorem dX7_missesAfter_30 : decode cX7_missesAfter 30 = .ok (.istore 4, 2) := by decide +kernel
theorem dX7_missesAfter_32 : decode cX7_missesAfter 32 = .ok (.iconst 0, 1) := by decide +kernel
theorem dX7_missesAfter_33 : decode cX7_missesAfter 33 = .ok (.istore 5, 2) := by decide +kernel
theorem dX7_missesAfter_35 : decode cX7_missesAfter 35 = .ok (.iconst 0, 1) := by decide +kernel
theorem dX7_missesAfter_36 : decode cX7_missesAfter 36 = .ok (.istore 6, 2) := by decide +kernel
theorem dX7_missesAfter_38 : decode cX7_missesAfter 38 = .ok (.iload 6, 2) := by decide +kernel
theorem dX7_missesAfter_40 : decode cX7_missesAfter 40 = .ok (.bipush 12, 2) := by decide +kernel
theorem dX7_missesAfter_42 : decode cX7_missesAfter 42 = .ok (.aload_n 0, 1) := by decide +kernel
theorem dX7_missesAfter_43 : decode cX7_missesAfter 43 = .ok (.getfield 27, 3) := by decide +kernel
theorem dX7_missesAfter_46 : decode cX7_missesAfter 46 = .ok (.getfield 68, 3) := by decide +kernel
theorem dX7_missesAfter_49 : decode cX7_missesAfter 49 = .ok (.imul, 1) := by decide +kernel
theorem dX7_missesAfter_50 : decode cX7_missesAfter 50 = .ok (.if_icmp .ge 80, 3) := by decide +kernel
theorem dX7_missesAfter_53 : decode cX7_missesAfter 53 = .ok (.aload_n 0, 1) := by decide +kernel
theorem dX7_missesAfter_54 : decode cX7_missesAfter 54 = .ok (.iload 6, 2) := by decide +kernel
theorem dX7_missesAfter_56 : decode cX7_missesAfter 56 = .ok (.invokevirtual 72, 3) := by decide +kernel
theorem dX7_missesAfter_59 : decode cX7_missesAfter 59 = .ok (.ifCond .ne 6, 3) := by decide +kernel
theorem dX7_missesAfter_62 : decode cX7_missesAfter 62 = .ok (.goto 62, 3) := by decide +kernel
theorem dX7_missesAfter_65 : decode cX7_missesAfter 65 = .ok (.aload_n 0, 1) := by decide +kernel
theorem dX7_missesAfter_66 : decode cX7_missesAfter 66 = .ok (.getfield 11, 3) := by decide +kernel
theorem dX7_missesAfter_69 : decode cX7_missesAfter 69 = .ok (.iload 6, 2) := by decide +kernel
theorem dX7_missesAfter_71 : decode cX7_missesAfter 71 = .ok (.iaload, 1) := by decide +kernel
theorem dX7_missesAfter_72 : decode cX7_missesAfter 72 = .ok (.aload_n 0, 1) := by decide +kernel
theorem dX7_missesAfter_73 : decode cX7_missesAfter 73 = .ok (.getfield 15, 3) := by decide +kernel
theorem dX7_missesAfter_76 : decode cX7_missesAfter 76 = .ok (.bipush 7, 2) := by decide +kernel
theorem dX7_missesAfter_78 : decode cX7_missesAfter 78 = .ok (.iload 6, 2) := by decide +kernel
theorem dX7_missesAfter_80 : decode cX7_missesAfter 80 = .ok (.imul, 1) := by decide +kernel
theorem dX7_missesAfter_81 : decode cX7_missesAfter 81 = .ok (.iload_n 1, 1) := by decide +kernel
theorem dX7_missesAfter_82 : decode cX7_missesAfter 82 = .ok (.iadd, 1) := by decide +kernel
theorem dX7_missesAfter_83 : decode cX7_missesAfter 83 = .ok (.iaload, 1) := by decide +kernel
theorem dX7_missesAfter_84 : decode cX7_missesAfter 84 = .ok (.isub, 1) := by decide +kernel
theorem dX7_missesAfter_85 : decode cX7_missesAfter 85 = .ok (.istore 7, 2) := by decide +kernel
theorem dX7_missesAfter_87 : decode cX7_missesAfter 87 = .ok (.iload 7, 2) := by decide +kernel
theorem dX7_missesAfter_89 : decode cX7_missesAfter 89 = .ok (.aload_n 0, 1) := by decide +kernel
theorem dX7_missesAfter_90 : decode cX7_missesAfter 90 = .ok (.getfield 31, 3) := by decide +kernel
theorem dX7_missesAfter_93 : decode cX7_missesAfter 93 = .ok (.iload_n 1, 1) := by decide +kernel
theorem dX7_missesAfter_94 : decode cX7_missesAfter 94 = .ok (.iload_n 3, 1) := by decide +kernel
theorem dX7_missesAfter_95 : decode cX7_missesAfter 95 = .ok (.iload 4, 2) := by decide +kernel
theorem dX7_missesAfter_97 : decode cX7_missesAfter 97 = .ok (.aload_n 0, 1) := by decide +kernel
theorem dX7_missesAfter_98 : decode cX7_missesAfter 98 = .ok (.iload 6, 2) := by decide +kernel
theorem dX7_missesAfter_100 : decode cX7_missesAfter 100 = .ok (.invokevirtual 99, 3) := by decide +kernel
theorem dX7_missesAfter_103 : decode cX7_missesAfter 103 = .ok (.iload 6, 2) := by decide +kernel
theorem dX7_missesAfter_105 : decode cX7_missesAfter 105 = .ok (.bipush 12, 2) := by decide +kernel
theorem dX7_missesAfter_107 : decode cX7_missesAfter 107 = .ok (.irem, 1) := by decide +kernel
theorem dX7_missesAfter_108 : decode cX7_missesAfter 108 = .ok (.invokevirtual 118, 3) := by decide +kernel
theorem dX7_missesAfter_111 : decode cX7_missesAfter 111 = .ok (.iadd, 1) := by decide +kernel
theorem dX7_missesAfter_112 : decode cX7_missesAfter 112 = .ok (.aload_n 0, 1) := by decide +kernel
theorem dX7_missesAfter_113 : decode cX7_missesAfter 113 = .ok (.iload 6, 2) := by decide +kernel
theorem dX7_missesAfter_115 : decode cX7_missesAfter 115 = .ok (.invokevirtual 106, 3) := by decide +kernel
theorem dX7_missesAfter_118 : decode cX7_missesAfter 118 = .ok (.if_icmp .ge 6, 3) := by decide +kernel
theorem dX7_missesAfter_121 : decode cX7_missesAfter 121 = .ok (.iinc 5 1, 3) := by decide +kernel
theorem dX7_missesAfter_124 : decode cX7_missesAfter 124 = .ok (.iinc 6 1, 3) := by decide +kernel
theorem dX7_missesAfter_127 : decode cX7_missesAfter 127 = .ok (.goto (-89), 3) := by decide +kernel
theorem dX7_missesAfter_130 : decode cX7_missesAfter 130 = .ok (.iload 5, 2) := by decide +kernel
theorem dX7_missesAfter_132 : decode cX7_missesAfter 132 = .ok (.ireturn, 1) := by decide +kernel
theorem dX7_missesDrawn_0 : decode cX7_missesDrawn 0 = .ok (.aload_n 0, 1) := by decide +kernel
theorem dX7_missesDrawn_1 : decode cX7_missesDrawn 1 = .ok (.iconst 0, 1) := by decide +kernel
theorem dX7_missesDrawn_2 : decode cX7_missesDrawn 2 = .ok (.bipush 11, 2) := by decide +kernel
theorem dX7_missesDrawn_4 : decode cX7_missesDrawn 4 = .ok (.invokevirtual 46, 3) := by decide +kernel
theorem dX7_missesDrawn_7 : decode cX7_missesDrawn 7 = .ok (.aload_n 0, 1) := by decide +kernel
theorem dX7_missesDrawn_8 : decode cX7_missesDrawn 8 = .ok (.iload 4, 2) := by decide +kernel
theorem dX7_missesDrawn_10 : decode cX7_missesDrawn 10 = .ok (.invokevirtual 122, 3) := by decide +kernel
theorem dX7_missesDrawn_13 : decode cX7_missesDrawn 13 = .ok (.iload_n 1, 1) := by decide +kernel
theorem dX7_missesDrawn_14 : decode cX7_missesDrawn 14 = .ok (.istore 5, 2) := by decide +kernel
theorem dX7_missesDrawn_16 : decode cX7_missesDrawn 16 = .ok (.iconst 0, 1) := by decide +kernel
theorem dX7_missesDrawn_17 : decode cX7_missesDrawn 17 = .ok (.istore 6, 2) := by decide +kernel
theorem dX7_missesDrawn_19 : decode cX7_missesDrawn 19 = .ok (.iconst 0, 1) := by decide +kernel
theorem dX7_missesDrawn_20 : decode cX7_missesDrawn 20 = .ok (.istore 7, 2) := by decide +kernel
theorem dX7_missesDrawn_22 : decode cX7_missesDrawn 22 = .ok (.iload 7, 2) := by decide +kernel
theorem dX7_missesDrawn_24 : decode cX7_missesDrawn 24 = .ok (.iload_n 2, 1) := by decide +kernel
theorem dX7_missesDrawn_25 : decode cX7_missesDrawn 25 = .ok (.bipush 12, 2) := by decide +kernel
theorem dX7_missesDrawn_27 : decode cX7_missesDrawn 27 = .ok (.imul, 1) := by decide +kernel
theorem dX7_missesDrawn_28 : decode cX7_missesDrawn 28 = .ok (.if_icmp .ge 82, 3) := by decide +kernel
theorem dX7_missesDrawn_31 : decode cX7_missesDrawn 31 = .ok (.iload 5, 2) := by decide +kernel
theorem dX7_missesDrawn_33 : decode cX7_missesDrawn 33 = .ok (.ldc 126, 2) := by decide +kernel
theorem dX7_missesDrawn_35 : decode cX7_missesDrawn 35 = .ok (.imul, 1) := by decide +kernel
theorem dX7_missesDrawn_36 : decode cX7_missesDrawn 36 = .ok (.sipush 12345, 3) := by decide +kernel
theorem dX7_missesDrawn_39 : decode cX7_missesDrawn 39 = .ok (.iadd, 1) := by decide +kernel
theorem dX7_missesDrawn_40 : decode cX7_missesDrawn 40 = .ok (.istore 5, 2) := by decide +kernel
theorem dX7_missesDrawn_42 : decode cX7_missesDrawn 42 = .ok (.iload 5, 2) := by decide +kernel
theorem dX7_missesDrawn_44 : decode cX7_missesDrawn 44 = .ok (.bipush 8, 2) := by decide +kernel
theorem dX7_missesDrawn_46 : decode cX7_missesDrawn 46 = .ok (.iushr, 1) := by decide +kernel
theorem dX7_missesDrawn_47 : decode cX7_missesDrawn 47 = .ok (.bipush 12, 2) := by decide +kernel
theorem dX7_missesDrawn_49 : decode cX7_missesDrawn 49 = .ok (.irem, 1) := by decide +kernel
theorem dX7_missesDrawn_50 : decode cX7_missesDrawn 50 = .ok (.iload_n 3, 1) := by decide +kernel
theorem dX7_missesDrawn_51 : decode cX7_missesDrawn 51 = .ok (.if_icmp .lt 53, 3) := by decide +kernel
theorem dX7_missesDrawn_54 : decode cX7_missesDrawn 54 = .ok (.aload_n 0, 1) := by decide +kernel
theorem dX7_missesDrawn_55 : decode cX7_missesDrawn 55 = .ok (.getfield 27, 3) := by decide +kernel
theorem dX7_missesDrawn_58 : decode cX7_missesDrawn 58 = .ok (.getfield 89, 3) := by decide +kernel
theorem dX7_missesDrawn_61 : decode cX7_missesDrawn 61 = .ok (.ifCond .ne 7, 3) := by decide +kernel
theorem dX7_missesDrawn_64 : decode cX7_missesDrawn 64 = .ok (.iconst 0, 1) := by decide +kernel
theorem dX7_missesDrawn_65 : decode cX7_missesDrawn 65 = .ok (.goto 16, 3) := by decide +kernel
theorem dX7_missesDrawn_68 : decode cX7_missesDrawn 68 = .ok (.iload 5, 2) := by decide +kernel
theorem dX7_missesDrawn_70 : decode cX7_missesDrawn 70 = .ok (.bipush 16, 2) := by decide +kernel
theorem dX7_missesDrawn_72 : decode cX7_missesDrawn 72 = .ok (.iushr, 1) := by decide +kernel
theorem dX7_missesDrawn_73 : decode cX7_missesDrawn 73 = .ok (.aload_n 0, 1) := by decide +kernel
theorem dX7_missesDrawn_74 : decode cX7_missesDrawn 74 = .ok (.getfield 27, 3) := by decide +kernel
theorem dX7_missesDrawn_77 : decode cX7_missesDrawn 77 = .ok (.getfield 89, 3) := by decide +kernel
theorem dX7_missesDrawn_80 : decode cX7_missesDrawn 80 = .ok (.irem, 1) := by decide +kernel
theorem dX7_missesDrawn_81 : decode cX7_missesDrawn 81 = .ok (.istore 8, 2) := by decide +kernel
theorem dX7_missesDrawn_83 : decode cX7_missesDrawn 83 = .ok (.iload 6, 2) := by decide +kernel
theorem dX7_missesDrawn_85 : decode cX7_missesDrawn 85 = .ok (.aload_n 0, 1) := by decide +kernel
theorem dX7_missesDrawn_86 : decode cX7_missesDrawn 86 = .ok (.getfield 24, 3) := by decide +kernel
theorem dX7_missesDrawn_89 : decode cX7_missesDrawn 89 = .ok (.iload 7, 2) := by decide +kernel
theorem dX7_missesDrawn_91 : decode cX7_missesDrawn 91 = .ok (.bipush 12, 2) := by decide +kernel
theorem dX7_missesDrawn_93 : decode cX7_missesDrawn 93 = .ok (.irem, 1) := by decide +kernel
theorem dX7_missesDrawn_94 : decode cX7_missesDrawn 94 = .ok (.bipush 7, 2) := by decide +kernel
theorem dX7_missesDrawn_96 : decode cX7_missesDrawn 96 = .ok (.imul, 1) := by decide +kernel
theorem dX7_missesDrawn_97 : decode cX7_missesDrawn 97 = .ok (.iload 8, 2) := by decide +kernel
theorem dX7_missesDrawn_99 : decode cX7_missesDrawn 99 = .ok (.iadd, 1) := by decide +kernel
theorem dX7_missesDrawn_100 : decode cX7_missesDrawn 100 = .ok (.iaload, 1) := by decide +kernel
theorem dX7_missesDrawn_101 : decode cX7_missesDrawn 101 = .ok (.iadd, 1) := by decide +kernel
theorem dX7_missesDrawn_102 : decode cX7_missesDrawn 102 = .ok (.istore 6, 2) := by decide +kernel
theorem dX7_missesDrawn_104 : decode cX7_missesDrawn 104 = .ok (.iinc 7 1, 3) := by decide +kernel
theorem dX7_missesDrawn_107 : decode cX7_missesDrawn 107 = .ok (.goto (-85), 3) := by decide +kernel
theorem dX7_missesDrawn_110 : decode cX7_missesDrawn 110 = .ok (.iload 6, 2) := by decide +kernel
theorem dX7_missesDrawn_112 : decode cX7_missesDrawn 112 = .ok (.ireturn, 1) := by decide +kernel
theorem dX7_countLost_0 : decode cX7_countLost 0 = .ok (.aload_n 0, 1) := by decide +kernel
theorem dX7_countLost_1 : decode cX7_countLost 1 = .ok (.getfield 24, 3) := by decide +kernel
theorem dX7_countLost_4 : decode cX7_countLost 4 = .ok (.iconst 0, 1) := by decide +kernel
theorem dX7_countLost_5 : decode cX7_countLost 5 = .ok (.invokestatic 127, 3) := by decide +kernel
theorem dX7_countLost_8 : decode cX7_countLost 8 = .ok (.iconst 0, 1) := by decide +kernel
theorem dX7_countLost_9 : decode cX7_countLost 9 = .ok (.istore_n 2, 1) := by decide +kernel
theorem dX7_countLost_10 : decode cX7_countLost 10 = .ok (.iload_n 2, 1) := by decide +kernel
theorem dX7_countLost_11 : decode cX7_countLost 11 = .ok (.bipush 12, 2) := by decide +kernel
theorem dX7_countLost_13 : decode cX7_countLost 13 = .ok (.aload_n 0, 1) := by decide +kernel
theorem dX7_countLost_14 : decode cX7_countLost 14 = .ok (.getfield 27, 3) := by decide +kernel
theorem dX7_countLost_17 : decode cX7_countLost 17 = .ok (.getfield 68, 3) := by decide +kernel
theorem dX7_countLost_20 : decode cX7_countLost 20 = .ok (.imul, 1) := by decide +kernel
theorem dX7_countLost_21 : decode cX7_countLost 21 = .ok (.if_icmp .ge 101, 3) := by decide +kernel
theorem dX7_countLost_24 : decode cX7_countLost 24 = .ok (.iload_n 1, 1) := by decide +kernel
theorem dX7_countLost_25 : decode cX7_countLost 25 = .ok (.ifCond .lt 11, 3) := by decide +kernel
theorem dX7_countLost_28 : decode cX7_countLost 28 = .ok (.iload_n 1, 1) := by decide +kernel
theorem dX7_countLost_29 : decode cX7_countLost 29 = .ok (.iload_n 2, 1) := by decide +kernel
theorem dX7_countLost_30 : decode cX7_countLost 30 = .ok (.bipush 12, 2) := by decide +kernel
theorem dX7_countLost_32 : decode cX7_countLost 32 = .ok (.idiv, 1) := by decide +kernel
theorem dX7_countLost_33 : decode cX7_countLost 33 = .ok (.if_icmp .ne 7, 3) := by decide +kernel
theorem dX7_countLost_36 : decode cX7_countLost 36 = .ok (.iconst 1, 1) := by decide +kernel
theorem dX7_countLost_37 : decode cX7_countLost 37 = .ok (.goto 4, 3) := by decide +kernel
theorem dX7_countLost_40 : decode cX7_countLost 40 = .ok (.iconst 0, 1) := by decide +kernel
theorem dX7_countLost_41 : decode cX7_countLost 41 = .ok (.istore_n 3, 1) := by decide +kernel
theorem dX7_countLost_42 : decode cX7_countLost 42 = .ok (.iconst 0, 1) := by decide +kernel
theorem dX7_countLost_43 : decode cX7_countLost 43 = .ok (.istore 4, 2) := by decide +kernel
theorem dX7_countLost_45 : decode cX7_countLost 45 = .ok (.iload_n 3, 1) := by decide +kernel
theorem dX7_countLost_46 : decode cX7_countLost 46 = .ok (.ifCond .eq 70, 3) := by decide +kernel
theorem dX7_countLost_49 : decode cX7_countLost 49 = .ok (.aload_n 0, 1) := by decide +kernel
theorem dX7_countLost_50 : decode cX7_countLost 50 = .ok (.iload_n 2, 1) := by decide +kernel
theorem dX7_countLost_51 : decode cX7_countLost 51 = .ok (.invokevirtual 72, 3) := by decide +kernel
theorem dX7_countLost_54 : decode cX7_countLost 54 = .ok (.ifCond .eq 62, 3) := by decide +kernel
theorem dX7_countLost_57 : decode cX7_countLost 57 = .ok (.iload 4, 2) := by decide +kernel
theorem dX7_countLost_59 : decode cX7_countLost 59 = .ok (.bipush 7, 2) := by decide +kernel
theorem dX7_countLost_61 : decode cX7_countLost 61 = .ok (.if_icmp .ge 55, 3) := by decide +kernel
theorem dX7_countLost_64 : decode cX7_countLost 64 = .ok (.aload_n 0, 1) := by decide +kernel
theorem dX7_countLost_65 : decode cX7_countLost 65 = .ok (.getfield 11, 3) := by decide +kernel
theorem dX7_countLost_68 : decode cX7_countLost 68 = .ok (.iload_n 2, 1) := by decide +kernel
theorem dX7_countLost_69 : decode cX7_countLost 69 = .ok (.iaload, 1) := by decide +kernel
theorem dX7_countLost_70 : decode cX7_countLost 70 = .ok (.aload_n 0, 1) := by decide +kernel
theorem dX7_countLost_71 : decode cX7_countLost 71 = .ok (.getfield 15, 3) := by decide +kernel
theorem dX7_countLost_74 : decode cX7_countLost 74 = .ok (.bipush 7, 2) := by decide +kernel
theorem dX7_countLost_76 : decode cX7_countLost 76 = .ok (.iload_n 2, 1) := by decide +kernel
theorem dX7_countLost_77 : decode cX7_countLost 77 = .ok (.imul, 1) := by decide +kernel
theorem dX7_countLost_78 : decode cX7_countLost 78 = .ok (.iload 4, 2) := by decide +kernel
theorem dX7_countLost_80 : decode cX7_countLost 80 = .ok (.iadd, 1) := by decide +kernel
theorem dX7_countLost_81 : decode cX7_countLost 81 = .ok (.iaload, 1) := by decide +kernel
theorem dX7_countLost_82 : decode cX7_countLost 82 = .ok (.isub, 1) := by decide +kernel
theorem dX7_countLost_83 : decode cX7_countLost 83 = .ok (.aload_n 0, 1) := by decide +kernel
theorem dX7_countLost_84 : decode cX7_countLost 84 = .ok (.iload_n 2, 1) := by decide +kernel
theorem dX7_countLost_85 : decode cX7_countLost 85 = .ok (.invokevirtual 106, 3) := by decide +kernel
theorem dX7_countLost_88 : decode cX7_countLost 88 = .ok (.if_icmp .ge 22, 3) := by decide +kernel
theorem dX7_countLost_91 : decode cX7_countLost 91 = .ok (.aload_n 0, 1) := by decide +kernel
theorem dX7_countLost_92 : decode cX7_countLost 92 = .ok (.getfield 24, 3) := by decide +kernel
theorem dX7_countLost_95 : decode cX7_countLost 95 = .ok (.iload_n 2, 1) := by decide +kernel
theorem dX7_countLost_96 : decode cX7_countLost 96 = .ok (.bipush 12, 2) := by decide +kernel
theorem dX7_countLost_98 : decode cX7_countLost 98 = .ok (.irem, 1) := by decide +kernel
theorem dX7_countLost_99 : decode cX7_countLost 99 = .ok (.bipush 7, 2) := by decide +kernel
theorem dX7_countLost_101 : decode cX7_countLost 101 = .ok (.imul, 1) := by decide +kernel
theorem dX7_countLost_102 : decode cX7_countLost 102 = .ok (.iload 4, 2) := by decide +kernel
theorem dX7_countLost_104 : decode cX7_countLost 104 = .ok (.iadd, 1) := by decide +kernel
theorem dX7_countLost_105 : decode cX7_countLost 105 = .ok (.dup2, 1) := by decide +kernel
theorem dX7_countLost_106 : decode cX7_countLost 106 = .ok (.iaload, 1) := by decide +kernel
theorem dX7_countLost_107 : decode cX7_countLost 107 = .ok (.iconst 1, 1) := by decide +kernel
theorem dX7_countLost_108 : decode cX7_countLost 108 = .ok (.iadd, 1) := by decide +kernel
theorem dX7_countLost_109 : decode cX7_countLost 109 = .ok (.iastore, 1) := by decide +kernel
theorem dX7_countLost_110 : decode cX7_countLost 110 = .ok (.iinc 4 1, 3) := by decide +kernel
theorem dX7_countLost_113 : decode cX7_countLost 113 = .ok (.goto (-68), 3) := by decide +kernel
theorem dX7_countLost_116 : decode cX7_countLost 116 = .ok (.iinc 2 1, 3) := by decide +kernel
theorem dX7_countLost_119 : decode cX7_countLost 119 = .ok (.goto (-109), 3) := by decide +kernel
theorem dX7_countLost_122 : decode cX7_countLost 122 = .ok (.return_, 1) := by decide +kernel
theorem dX7_weigh_0 : decode cX7_weigh 0 = .ok (.iconst 0, 1) := by decide +kernel
theorem dX7_weigh_1 : decode cX7_weigh 1 = .ok (.istore_n 3, 1) := by decide +kernel
theorem dX7_weigh_2 : decode cX7_weigh 2 = .ok (.iload_n 3, 1) := by decide +kernel
theorem dX7_weigh_3 : decode cX7_weigh 3 = .ok (.aload_n 0, 1) := by decide +kernel
theorem dX7_weigh_4 : decode cX7_weigh 4 = .ok (.getfield 27, 3) := by decide +kernel
theorem dX7_weigh_7 : decode cX7_weigh 7 = .ok (.getfield 68, 3) := by decide +kernel
theorem dX7_weigh_10 : decode cX7_weigh 10 = .ok (.if_icmp .ge 117, 3) := by decide +kernel
theorem dX7_weigh_13 : decode cX7_weigh 13 = .ok (.aload_n 0, 1) := by decide +kernel
theorem dX7_weigh_14 : decode cX7_weigh 14 = .ok (.getfield 27, 3) := by decide +kernel
theorem dX7_weigh_17 : decode cX7_weigh 17 = .ok (.iload_n 3, 1) := by decide +kernel
theorem dX7_weigh_18 : decode cX7_weigh 18 = .ok (.iconst 4, 1) := by decide +kernel
theorem dX7_weigh_19 : decode cX7_weigh 19 = .ok (.invokevirtual 54, 3) := by decide +kernel
theorem dX7_weigh_22 : decode cX7_weigh 22 = .ok (.istore 4, 2) := by decide +kernel
theorem dX7_weigh_24 : decode cX7_weigh 24 = .ok (.iload_n 1, 1) := by decide +kernel
theorem dX7_weigh_25 : decode cX7_weigh 25 = .ok (.istore 5, 2) := by decide +kernel
theorem dX7_weigh_27 : decode cX7_weigh 27 = .ok (.iload 5, 2) := by decide +kernel
theorem dX7_weigh_29 : decode cX7_weigh 29 = .ok (.iload_n 2, 1) := by decide +kernel
theorem dX7_weigh_30 : decode cX7_weigh 30 = .ok (.if_icmp .gt 91, 3) := by decide +kernel
theorem dX7_weigh_33 : decode cX7_weigh 33 = .ok (.bipush 12, 2) := by decide +kernel
theorem dX7_weigh_35 : decode cX7_weigh 35 = .ok (.iload_n 3, 1) := by decide +kernel
theorem dX7_weigh_36 : decode cX7_weigh 36 = .ok (.imul, 1) := by decide +kernel
theorem dX7_weigh_37 : decode cX7_weigh 37 = .ok (.iload 5, 2) := by decide +kernel
theorem dX7_weigh_39 : decode cX7_weigh 39 = .ok (.iadd, 1) := by decide +kernel
theorem dX7_weigh_40 : decode cX7_weigh 40 = .ok (.istore 6, 2) := by decide +kernel
theorem dX7_weigh_42 : decode cX7_weigh 42 = .ok (.aload_n 0, 1) := by decide +kernel
theorem dX7_weigh_43 : decode cX7_weigh 43 = .ok (.getfield 11, 3) := by decide +kernel
theorem dX7_weigh_46 : decode cX7_weigh 46 = .ok (.iload 6, 2) := by decide +kernel
theorem dX7_weigh_48 : decode cX7_weigh 48 = .ok (.iconst 0, 1) := by decide +kernel
theorem dX7_weigh_49 : decode cX7_weigh 49 = .ok (.iastore, 1) := by decide +kernel
theorem dX7_weigh_50 : decode cX7_weigh 50 = .ok (.iconst 0, 1) := by decide +kernel
theorem dX7_weigh_51 : decode cX7_weigh 51 = .ok (.istore 7, 2) := by decide +kernel
theorem dX7_weigh_53 : decode cX7_weigh 53 = .ok (.iload 7, 2) := by decide +kernel
theorem dX7_weigh_55 : decode cX7_weigh 55 = .ok (.bipush 7, 2) := by decide +kernel
theorem dX7_weigh_57 : decode cX7_weigh 57 = .ok (.if_icmp .ge 58, 3) := by decide +kernel
theorem dX7_weigh_60 : decode cX7_weigh 60 = .ok (.aload_n 0, 1) := by decide +kernel
theorem dX7_weigh_61 : decode cX7_weigh 61 = .ok (.getfield 15, 3) := by decide +kernel
theorem dX7_weigh_64 : decode cX7_weigh 64 = .ok (.bipush 7, 2) := by decide +kernel
theorem dX7_weigh_66 : decode cX7_weigh 66 = .ok (.iload 6, 2) := by decide +kernel
theorem dX7_weigh_68 : decode cX7_weigh 68 = .ok (.imul, 1) := by decide +kernel
theorem dX7_weigh_69 : decode cX7_weigh 69 = .ok (.iload 7, 2) := by decide +kernel
theorem dX7_weigh_71 : decode cX7_weigh 71 = .ok (.iadd, 1) := by decide +kernel
theorem dX7_weigh_72 : decode cX7_weigh 72 = .ok (.aload_n 0, 1) := by decide +kernel
theorem dX7_weigh_73 : decode cX7_weigh 73 = .ok (.getfield 31, 3) := by decide +kernel
theorem dX7_weigh_76 : decode cX7_weigh 76 = .ok (.iload 7, 2) := by decide +kernel
theorem dX7_weigh_78 : decode cX7_weigh 78 = .ok (.iload 4, 2) := by decide +kernel
theorem dX7_weigh_80 : decode cX7_weigh 80 = .ok (.iload 5, 2) := by decide +kernel
theorem dX7_weigh_82 : decode cX7_weigh 82 = .ok (.invokevirtual 133, 3) := by decide +kernel
theorem dX7_weigh_85 : decode cX7_weigh 85 = .ok (.iastore, 1) := by decide +kernel
theorem dX7_weigh_86 : decode cX7_weigh 86 = .ok (.aload_n 0, 1) := by decide +kernel
theorem dX7_weigh_87 : decode cX7_weigh 87 = .ok (.getfield 11, 3) := by decide +kernel
theorem dX7_weigh_90 : decode cX7_weigh 90 = .ok (.iload 6, 2) := by decide +kernel
theorem dX7_weigh_92 : decode cX7_weigh 92 = .ok (.dup2, 1) := by decide +kernel
theorem dX7_weigh_93 : decode cX7_weigh 93 = .ok (.iaload, 1) := by decide +kernel
theorem dX7_weigh_94 : decode cX7_weigh 94 = .ok (.aload_n 0, 1) := by decide +kernel
theorem dX7_weigh_95 : decode cX7_weigh 95 = .ok (.getfield 15, 3) := by decide +kernel
theorem dX7_weigh_98 : decode cX7_weigh 98 = .ok (.bipush 7, 2) := by decide +kernel
theorem dX7_weigh_100 : decode cX7_weigh 100 = .ok (.iload 6, 2) := by decide +kernel
theorem dX7_weigh_102 : decode cX7_weigh 102 = .ok (.imul, 1) := by decide +kernel
theorem dX7_weigh_103 : decode cX7_weigh 103 = .ok (.iload 7, 2) := by decide +kernel
theorem dX7_weigh_105 : decode cX7_weigh 105 = .ok (.iadd, 1) := by decide +kernel
theorem dX7_weigh_106 : decode cX7_weigh 106 = .ok (.iaload, 1) := by decide +kernel
theorem dX7_weigh_107 : decode cX7_weigh 107 = .ok (.iadd, 1) := by decide +kernel
theorem dX7_weigh_108 : decode cX7_weigh 108 = .ok (.iastore, 1) := by decide +kernel
theorem dX7_weigh_109 : decode cX7_weigh 109 = .ok (.iinc 7 1, 3) := by decide +kernel
theorem dX7_weigh_112 : decode cX7_weigh 112 = .ok (.goto (-59), 3) := by decide +kernel
theorem dX7_weigh_115 : decode cX7_weigh 115 = .ok (.iinc 5 1, 3) := by decide +kernel
theorem dX7_weigh_118 : decode cX7_weigh 118 = .ok (.goto (-91), 3) := by decide +kernel
theorem dX7_weigh_121 : decode cX7_weigh 121 = .ok (.iinc 3 1, 3) := by decide +kernel
theorem dX7_weigh_124 : decode cX7_weigh 124 = .ok (.goto (-122), 3) := by decide +kernel
theorem dX7_weigh_127 : decode cX7_weigh 127 = .ok (.return_, 1) := by decide +kernel
theorem dX7_weighSets_0 : decode cX7_weighSets 0 = .ok (.aload_n 0, 1) := by decide +kernel
theorem dX7_weighSets_1 : decode cX7_weighSets 1 = .ok (.iconst 0, 1) := by decide +kernel
theorem dX7_weighSets_2 : decode cX7_weighSets 2 = .ok (.bipush 11, 2) := by decide +kernel
theorem dX7_weighSets_4 : decode cX7_weighSets 4 = .ok (.invokevirtual 46, 3) := by decide +kernel
theorem dX7_weighSets_7 : decode cX7_weighSets 7 = .ok (.aload_n 0, 1) := by decide +kernel
theorem dX7_weighSets_8 : decode cX7_weighSets 8 = .ok (.getfield 21, 3) := by decide +kernel
theorem dX7_weighSets_11 : decode cX7_weighSets 11 = .ok (.iconst 0, 1) := by decide +kernel
theorem dX7_weighSets_12 : decode cX7_weighSets 12 = .ok (.invokestatic 127, 3) := by decide +kernel
theorem dX7_weighSets_15 : decode cX7_weighSets 15 = .ok (.iconst 0, 1) := by decide +kernel
theorem dX7_weighSets_16 : decode cX7_weighSets 16 = .ok (.istore_n 1, 1) := by decide +kernel
theorem dX7_weighSets_17 : decode cX7_weighSets 17 = .ok (.iload_n 1, 1) := by decide +kernel
theorem dX7_weighSets_18 : decode cX7_weighSets 18 = .ok (.bipush 12, 2) := by decide +kernel
theorem dX7_weighSets_20 : decode cX7_weighSets 20 = .ok (.aload_n 0, 1) := by decide +kernel
theorem dX7_weighSets_21 : decode cX7_weighSets 21 = .ok (.getfield 27, 3) := by decide +kernel
theorem dX7_weighSets_24 : decode cX7_weighSets 24 = .ok (.getfield 68, 3) := by decide +kernel
theorem dX7_weighSets_27 : decode cX7_weighSets 27 = .ok (.imul, 1) := by decide +kernel
theorem dX7_weighSets_28 : decode cX7_weighSets 28 = .ok (.if_icmp .ge 30, 3) := by decide +kernel
theorem dX7_weighSets_31 : decode cX7_weighSets 31 = .ok (.aload_n 0, 1) := by decide +kernel
theorem dX7_weighSets_32 : decode cX7_weighSets 32 = .ok (.iload_n 1, 1) := by decide +kernel
theorem dX7_weighSets_33 : decode cX7_weighSets 33 = .ok (.invokevirtual 72, 3) := by decide +kernel
theorem dX7_weighSets_36 : decode cX7_weighSets 36 = .ok (.ifCond .eq 16, 3) := by decide +kernel
theorem dX7_weighSets_39 : decode cX7_weighSets 39 = .ok (.aload_n 0, 1) := by decide +kernel
theorem dX7_weighSets_40 : decode cX7_weighSets 40 = .ok (.iload_n 1, 1) := by decide +kernel
theorem dX7_weighSets_41 : decode cX7_weighSets 41 = .ok (.invokevirtual 50, 3) := by decide +kernel
theorem dX7_weighSets_44 : decode cX7_weighSets 44 = .ok (.ifCond .eq 8, 3) := by decide +kernel
theorem dX7_weighSets_47 : decode cX7_weighSets 47 = .ok (.aload_n 0, 1) := by decide +kernel
theorem dX7_weighSets_48 : decode cX7_weighSets 48 = .ok (.iload_n 1, 1) := by decide +kernel
theorem dX7_weighSets_49 : decode cX7_weighSets 49 = .ok (.invokevirtual 137, 3) := by decide +kernel
theorem dX7_weighSets_52 : decode cX7_weighSets 52 = .ok (.iinc 1 1, 3) := by decide +kernel
theorem dX7_weighSets_55 : decode cX7_weighSets 55 = .ok (.goto (-38), 3) := by decide +kernel
theorem dX7_weighSets_58 : decode cX7_weighSets 58 = .ok (.return_, 1) := by decide +kernel
theorem dX7_markFails_0 : decode cX7_markFails 0 = .ok (.aload_n 0, 1) := by decide +kernel
theorem dX7_markFails_1 : decode cX7_markFails 1 = .ok (.getfield 18, 3) := by decide +kernel
theorem dX7_markFails_4 : decode cX7_markFails 4 = .ok (.iconst 0, 1) := by decide +kernel
theorem dX7_markFails_5 : decode cX7_markFails 5 = .ok (.iconst 0, 1) := by decide +kernel
theorem dX7_markFails_6 : decode cX7_markFails 6 = .ok (.iastore, 1) := by decide +kernel
theorem dX7_markFails_7 : decode cX7_markFails 7 = .ok (.iconst 0, 1) := by decide +kernel
theorem dX7_markFails_8 : decode cX7_markFails 8 = .ok (.istore_n 2, 1) := by decide +kernel
theorem dX7_markFails_9 : decode cX7_markFails 9 = .ok (.iload_n 2, 1) := by decide +kernel
theorem dX7_markFails_10 : decode cX7_markFails 10 = .ok (.aload_n 0, 1) := by decide +kernel
theorem dX7_markFails_11 : decode cX7_markFails 11 = .ok (.getfield 27, 3) := by decide +kernel
theorem dX7_markFails_14 : decode cX7_markFails 14 = .ok (.getfield 89, 3) := by decide +kernel
theorem dX7_markFails_17 : decode cX7_markFails 17 = .ok (.if_icmp .ge 52, 3) := by decide +kernel
theorem dX7_markFails_20 : decode cX7_markFails 20 = .ok (.iconst 0, 1) := by decide +kernel
theorem dX7_markFails_21 : decode cX7_markFails 21 = .ok (.istore_n 3, 1) := by decide +kernel
theorem dX7_markFails_22 : decode cX7_markFails 22 = .ok (.iload_n 3, 1) := by decide +kernel
theorem dX7_markFails_23 : decode cX7_markFails 23 = .ok (.iconst 1, 1) := by decide +kernel
theorem dX7_markFails_24 : decode cX7_markFails 24 = .ok (.iload_n 2, 1) := by decide +kernel
theorem dX7_markFails_25 : decode cX7_markFails 25 = .ok (.ishl, 1) := by decide +kernel
theorem dX7_markFails_26 : decode cX7_markFails 26 = .ok (.if_icmp .ge 37, 3) := by decide +kernel
theorem dX7_markFails_29 : decode cX7_markFails 29 = .ok (.aload_n 0, 1) := by decide +kernel
theorem dX7_markFails_30 : decode cX7_markFails 30 = .ok (.getfield 18, 3) := by decide +kernel
theorem dX7_markFails_33 : decode cX7_markFails 33 = .ok (.iconst 1, 1) := by decide +kernel
theorem dX7_markFails_34 : decode cX7_markFails 34 = .ok (.iload_n 2, 1) := by decide +kernel
theorem dX7_markFails_35 : decode cX7_markFails 35 = .ok (.ishl, 1) := by decide +kernel
theorem dX7_markFails_36 : decode cX7_markFails 36 = .ok (.iload_n 3, 1) := by decide +kernel
theorem dX7_markFails_37 : decode cX7_markFails 37 = .ok (.ior, 1) := by decide +kernel
theorem dX7_markFails_38 : decode cX7_markFails 38 = .ok (.aload_n 0, 1) := by decide +kernel
theorem dX7_markFails_39 : decode cX7_markFails 39 = .ok (.getfield 18, 3) := by decide +kernel
theorem dX7_markFails_42 : decode cX7_markFails 42 = .ok (.iload_n 3, 1) := by decide +kernel
theorem dX7_markFails_43 : decode cX7_markFails 43 = .ok (.iaload, 1) := by decide +kernel
theorem dX7_markFails_44 : decode cX7_markFails 44 = .ok (.aload_n 0, 1) := by decide +kernel
theorem dX7_markFails_45 : decode cX7_markFails 45 = .ok (.getfield 15, 3) := by decide +kernel
theorem dX7_markFails_48 : decode cX7_markFails 48 = .ok (.bipush 7, 2) := by decide +kernel
theorem dX7_markFails_50 : decode cX7_markFails 50 = .ok (.iload_n 1, 1) := by decide +kernel
theorem dX7_markFails_51 : decode cX7_markFails 51 = .ok (.imul, 1) := by decide +kernel
theorem dX7_markFails_52 : decode cX7_markFails 52 = .ok (.iload_n 2, 1) := by decide +kernel
theorem dX7_markFails_53 : decode cX7_markFails 53 = .ok (.iadd, 1) := by decide +kernel
theorem dX7_markFails_54 : decode cX7_markFails 54 = .ok (.iaload, 1) := by decide +kernel
theorem dX7_markFails_55 : decode cX7_markFails 55 = .ok (.iadd, 1) := by decide +kernel
theorem dX7_markFails_56 : decode cX7_markFails 56 = .ok (.iastore, 1) := by decide +kernel
theorem dX7_markFails_57 : decode cX7_markFails 57 = .ok (.iinc 3 1, 3) := by decide +kernel
theorem dX7_markFails_60 : decode cX7_markFails 60 = .ok (.goto (-38), 3) := by decide +kernel
theorem dX7_markFails_63 : decode cX7_markFails 63 = .ok (.iinc 2 1, 3) := by decide +kernel
theorem dX7_markFails_66 : decode cX7_markFails 66 = .ok (.goto (-57), 3) := by decide +kernel
theorem dX7_markFails_69 : decode cX7_markFails 69 = .ok (.aload_n 0, 1) := by decide +kernel
theorem dX7_markFails_70 : decode cX7_markFails 70 = .ok (.iload_n 1, 1) := by decide +kernel
theorem dX7_markFails_71 : decode cX7_markFails 71 = .ok (.invokevirtual 106, 3) := by decide +kernel
theorem dX7_markFails_74 : decode cX7_markFails 74 = .ok (.istore_n 2, 1) := by decide +kernel
theorem dX7_markFails_75 : decode cX7_markFails 75 = .ok (.iconst 0, 1) := by decide +kernel
theorem dX7_markFails_76 : decode cX7_markFails 76 = .ok (.istore_n 3, 1) := by decide +kernel
theorem dX7_markFails_77 : decode cX7_markFails 77 = .ok (.iload_n 3, 1) := by decide +kernel
theorem dX7_markFails_78 : decode cX7_markFails 78 = .ok (.aload_n 0, 1) := by decide +kernel
theorem dX7_markFails_79 : decode cX7_markFails 79 = .ok (.getfield 27, 3) := by decide +kernel
theorem dX7_markFails_82 : decode cX7_markFails 82 = .ok (.invokevirtual 81, 3) := by decide +kernel
theorem dX7_markFails_85 : decode cX7_markFails 85 = .ok (.if_icmp .gt 34, 3) := by decide +kernel
theorem dX7_markFails_88 : decode cX7_markFails 88 = .ok (.aload_n 0, 1) := by decide +kernel
theorem dX7_markFails_89 : decode cX7_markFails 89 = .ok (.getfield 18, 3) := by decide +kernel
theorem dX7_markFails_92 : decode cX7_markFails 92 = .ok (.iload_n 3, 1) := by decide +kernel
theorem dX7_markFails_93 : decode cX7_markFails 93 = .ok (.iaload, 1) := by decide +kernel
theorem dX7_markFails_94 : decode cX7_markFails 94 = .ok (.iload_n 2, 1) := by decide +kernel
theorem dX7_markFails_95 : decode cX7_markFails 95 = .ok (.if_icmp .ge 18, 3) := by decide +kernel
theorem dX7_markFails_98 : decode cX7_markFails 98 = .ok (.aload_n 0, 1) := by decide +kernel
theorem dX7_markFails_99 : decode cX7_markFails 99 = .ok (.getfield 21, 3) := by decide +kernel
theorem dX7_markFails_102 : decode cX7_markFails 102 = .ok (.iload_n 3, 1) := by decide +kernel
theorem dX7_markFails_103 : decode cX7_markFails 103 = .ok (.dup2, 1) := by decide +kernel
theorem dX7_markFails_104 : decode cX7_markFails 104 = .ok (.iaload, 1) := by decide +kernel
theorem dX7_markFails_105 : decode cX7_markFails 105 = .ok (.iconst 1, 1) := by decide +kernel
theorem dX7_markFails_106 : decode cX7_markFails 106 = .ok (.iload_n 1, 1) := by decide +kernel
theorem dX7_markFails_107 : decode cX7_markFails 107 = .ok (.bipush 12, 2) := by decide +kernel
theorem dX7_markFails_109 : decode cX7_markFails 109 = .ok (.irem, 1) := by decide +kernel
theorem dX7_markFails_110 : decode cX7_markFails 110 = .ok (.ishl, 1) := by decide +kernel
theorem dX7_markFails_111 : decode cX7_markFails 111 = .ok (.ior, 1) := by decide +kernel
theorem dX7_markFails_112 : decode cX7_markFails 112 = .ok (.iastore, 1) := by decide +kernel
theorem dX7_markFails_113 : decode cX7_markFails 113 = .ok (.iinc 3 1, 3) := by decide +kernel
theorem dX7_markFails_116 : decode cX7_markFails 116 = .ok (.goto (-39), 3) := by decide +kernel
theorem dX7_markFails_119 : decode cX7_markFails 119 = .ok (.return_, 1) := by decide +kernel
theorem dX7_cheapestSet_0 : decode cX7_cheapestSet 0 = .ok (.aload_n 0, 1) := by decide +kernel
theorem dX7_cheapestSet_1 : decode cX7_cheapestSet 1 = .ok (.getfield 27, 3) := by decide +kernel
theorem dX7_cheapestSet_4 : decode cX7_cheapestSet 4 = .ok (.invokevirtual 81, 3) := by decide +kernel
theorem dX7_cheapestSet_7 : decode cX7_cheapestSet 7 = .ok (.istore_n 3, 1) := by decide +kernel
theorem dX7_cheapestSet_8 : decode cX7_cheapestSet 8 = .ok (.aload_n 0, 1) := by decide +kernel
theorem dX7_cheapestSet_9 : decode cX7_cheapestSet 9 = .ok (.getfield 27, 3) := by decide +kernel
theorem dX7_cheapestSet_12 : decode cX7_cheapestSet 12 = .ok (.iload_n 3, 1) := by decide +kernel
theorem dX7_cheapestSet_13 : decode cX7_cheapestSet 13 = .ok (.invokevirtual 92, 3) := by decide +kernel
theorem dX7_cheapestSet_16 : decode cX7_cheapestSet 16 = .ok (.istore 4, 2) := by decide +kernel
theorem dX7_cheapestSet_18 : decode cX7_cheapestSet 18 = .ok (.iconst 0, 1) := by decide +kernel
theorem dX7_cheapestSet_19 : decode cX7_cheapestSet 19 = .ok (.istore 5, 2) := by decide +kernel
theorem dX7_cheapestSet_21 : decode cX7_cheapestSet 21 = .ok (.iload 5, 2) := by decide +kernel
theorem dX7_cheapestSet_23 : decode cX7_cheapestSet 23 = .ok (.aload_n 0, 1) := by decide +kernel
theorem dX7_cheapestSet_24 : decode cX7_cheapestSet 24 = .ok (.getfield 27, 3) := by decide +kernel
theorem dX7_cheapestSet_27 : decode cX7_cheapestSet 27 = .ok (.invokevirtual 81, 3) := by decide +kernel
theorem dX7_cheapestSet_30 : decode cX7_cheapestSet 30 = .ok (.if_icmp .ge 66, 3) := by decide +kernel
theorem dX7_cheapestSet_33 : decode cX7_cheapestSet 33 = .ok (.aload_n 0, 1) := by decide +kernel
theorem dX7_cheapestSet_34 : decode cX7_cheapestSet 34 = .ok (.getfield 21, 3) := by decide +kernel
theorem dX7_cheapestSet_37 : decode cX7_cheapestSet 37 = .ok (.iload 5, 2) := by decide +kernel
theorem dX7_cheapestSet_39 : decode cX7_cheapestSet 39 = .ok (.iaload, 1) := by decide +kernel
theorem dX7_cheapestSet_40 : decode cX7_cheapestSet 40 = .ok (.iload_n 1, 1) := by decide +kernel
theorem dX7_cheapestSet_41 : decode cX7_cheapestSet 41 = .ok (.iand, 1) := by decide +kernel
theorem dX7_cheapestSet_42 : decode cX7_cheapestSet 42 = .ok (.ifCond .eq 6, 3) := by decide +kernel
theorem dX7_cheapestSet_45 : decode cX7_cheapestSet 45 = .ok (.goto 45, 3) := by decide +kernel
theorem dX7_cheapestSet_48 : decode cX7_cheapestSet 48 = .ok (.aload_n 0, 1) := by decide +kernel
theorem dX7_cheapestSet_49 : decode cX7_cheapestSet 49 = .ok (.getfield 27, 3) := by decide +kernel
theorem dX7_cheapestSet_52 : decode cX7_cheapestSet 52 = .ok (.iload 5, 2) := by decide +kernel
theorem dX7_cheapestSet_54 : decode cX7_cheapestSet 54 = .ok (.invokevirtual 92, 3) := by decide +kernel
theorem dX7_cheapestSet_57 : decode cX7_cheapestSet 57 = .ok (.istore 6, 2) := by decide +kernel
theorem dX7_cheapestSet_59 : decode cX7_cheapestSet 59 = .ok (.iload 6, 2) := by decide +kernel
theorem dX7_cheapestSet_61 : decode cX7_cheapestSet 61 = .ok (.iload 4, 2) := by decide +kernel
theorem dX7_cheapestSet_63 : decode cX7_cheapestSet 63 = .ok (.if_icmp .lt 20, 3) := by decide +kernel
theorem dX7_cheapestSet_66 : decode cX7_cheapestSet 66 = .ok (.iload 6, 2) := by decide +kernel
theorem dX7_cheapestSet_68 : decode cX7_cheapestSet 68 = .ok (.iload 4, 2) := by decide +kernel
theorem dX7_cheapestSet_70 : decode cX7_cheapestSet 70 = .ok (.if_icmp .ne 20, 3) := by decide +kernel
theorem dX7_cheapestSet_73 : decode cX7_cheapestSet 73 = .ok (.iload 5, 2) := by decide +kernel
theorem dX7_cheapestSet_75 : decode cX7_cheapestSet 75 = .ok (.iload_n 3, 1) := by decide +kernel
theorem dX7_cheapestSet_76 : decode cX7_cheapestSet 76 = .ok (.iload_n 2, 1) := by decide +kernel
theorem dX7_cheapestSet_77 : decode cX7_cheapestSet 77 = .ok (.invokestatic 140, 3) := by decide +kernel
theorem dX7_cheapestSet_80 : decode cX7_cheapestSet 80 = .ok (.ifCond .eq 10, 3) := by decide +kernel
theorem dX7_cheapestSet_83 : decode cX7_cheapestSet 83 = .ok (.iload 5, 2) := by decide +kernel
theorem dX7_cheapestSet_85 : decode cX7_cheapestSet 85 = .ok (.istore_n 3, 1) := by decide +kernel
theorem dX7_cheapestSet_86 : decode cX7_cheapestSet 86 = .ok (.iload 6, 2) := by decide +kernel
theorem dX7_cheapestSet_88 : decode cX7_cheapestSet 88 = .ok (.istore 4, 2) := by decide +kernel
theorem dX7_cheapestSet_90 : decode cX7_cheapestSet 90 = .ok (.iinc 5 1, 3) := by decide +kernel
theorem dX7_cheapestSet_93 : decode cX7_cheapestSet 93 = .ok (.goto (-72), 3) := by decide +kernel
theorem dX7_cheapestSet_96 : decode cX7_cheapestSet 96 = .ok (.iload_n 3, 1) := by decide +kernel
theorem dX7_cheapestSet_97 : decode cX7_cheapestSet 97 = .ok (.ireturn, 1) := by decide +kernel
theorem dX7_isNicer_0 : decode cX7_isNicer 0 = .ok (.iload_n 1, 1) := by decide +kernel
theorem dX7_isNicer_1 : decode cX7_isNicer 1 = .ok (.invokestatic 63, 3) := by decide +kernel
theorem dX7_isNicer_4 : decode cX7_isNicer 4 = .ok (.iload_n 0, 1) := by decide +kernel
theorem dX7_isNicer_5 : decode cX7_isNicer 5 = .ok (.invokestatic 63, 3) := by decide +kernel
theorem dX7_isNicer_8 : decode cX7_isNicer 8 = .ok (.isub, 1) := by decide +kernel
theorem dX7_isNicer_9 : decode cX7_isNicer 9 = .ok (.istore_n 3, 1) := by decide +kernel
theorem dX7_isNicer_10 : decode cX7_isNicer 10 = .ok (.iload_n 2, 1) := by decide +kernel
theorem dX7_isNicer_11 : decode cX7_isNicer 11 = .ok (.ifCond .eq 19, 3) := by decide +kernel
theorem dX7_isNicer_14 : decode cX7_isNicer 14 = .ok (.iload_n 3, 1) := by decide +kernel
theorem dX7_isNicer_15 : decode cX7_isNicer 15 = .ok (.ifCond .eq 15, 3) := by decide +kernel
theorem dX7_isNicer_18 : decode cX7_isNicer 18 = .ok (.iload_n 3, 1) := by decide +kernel
theorem dX7_isNicer_19 : decode cX7_isNicer 19 = .ok (.ifCond .le 7, 3) := by decide +kernel
theorem dX7_isNicer_22 : decode cX7_isNicer 22 = .ok (.iconst 1, 1) := by decide +kernel
theorem dX7_isNicer_23 : decode cX7_isNicer 23 = .ok (.goto 17, 3) := by decide +kernel
theorem dX7_isNicer_26 : decode cX7_isNicer 26 = .ok (.iconst 0, 1) := by decide +kernel
theorem dX7_isNicer_27 : decode cX7_isNicer 27 = .ok (.goto 13, 3) := by decide +kernel
theorem dX7_isNicer_30 : decode cX7_isNicer 30 = .ok (.iload_n 0, 1) := by decide +kernel
theorem dX7_isNicer_31 : decode cX7_isNicer 31 = .ok (.iload_n 1, 1) := by decide +kernel
theorem dX7_isNicer_32 : decode cX7_isNicer 32 = .ok (.if_icmp .ge 7, 3) := by decide +kernel
theorem dX7_isNicer_35 : decode cX7_isNicer 35 = .ok (.iconst 1, 1) := by decide +kernel
theorem dX7_isNicer_36 : decode cX7_isNicer 36 = .ok (.goto 4, 3) := by decide +kernel
theorem dX7_isNicer_39 : decode cX7_isNicer 39 = .ok (.iconst 0, 1) := by decide +kernel
theorem dX7_isNicer_40 : decode cX7_isNicer 40 = .ok (.ireturn, 1) := by decide +kernel
theorem dX7_isServed_0 : decode cX7_isServed 0 = .ok (.aload_n 0, 1) := by decide +kernel
theorem dX7_isServed_1 : decode cX7_isServed 1 = .ok (.getfield 11, 3) := by decide +kernel
theorem dX7_isServed_4 : decode cX7_isServed 4 = .ok (.iload_n 1, 1) := by decide +kernel
theorem dX7_isServed_5 : decode cX7_isServed 5 = .ok (.iaload, 1) := by decide +kernel
theorem dX7_isServed_6 : decode cX7_isServed 6 = .ok (.aload_n 0, 1) := by decide +kernel
theorem dX7_isServed_7 : decode cX7_isServed 7 = .ok (.iload_n 1, 1) := by decide +kernel
theorem dX7_isServed_8 : decode cX7_isServed 8 = .ok (.invokevirtual 106, 3) := by decide +kernel
theorem dX7_isServed_11 : decode cX7_isServed 11 = .ok (.if_icmp .lt 7, 3) := by decide +kernel
theorem dX7_isServed_14 : decode cX7_isServed 14 = .ok (.iconst 1, 1) := by decide +kernel
theorem dX7_isServed_15 : decode cX7_isServed 15 = .ok (.goto 4, 3) := by decide +kernel
theorem dX7_isServed_18 : decode cX7_isServed 18 = .ok (.iconst 0, 1) := by decide +kernel
theorem dX7_isServed_19 : decode cX7_isServed 19 = .ok (.ireturn, 1) := by decide +kernel
theorem dX7_isWanted_0 : decode cX7_isWanted 0 = .ok (.aload_n 0, 1) := by decide +kernel
theorem dX7_isWanted_1 : decode cX7_isWanted 1 = .ok (.getfield 27, 3) := by decide +kernel
theorem dX7_isWanted_4 : decode cX7_isWanted 4 = .ok (.iload_n 1, 1) := by decide +kernel
theorem dX7_isWanted_5 : decode cX7_isWanted 5 = .ok (.bipush 12, 2) := by decide +kernel
theorem dX7_isWanted_7 : decode cX7_isWanted 7 = .ok (.idiv, 1) := by decide +kernel
theorem dX7_isWanted_8 : decode cX7_isWanted 8 = .ok (.iconst 5, 1) := by decide +kernel
theorem dX7_isWanted_9 : decode cX7_isWanted 9 = .ok (.invokevirtual 54, 3) := by decide +kernel
theorem dX7_isWanted_12 : decode cX7_isWanted 12 = .ok (.iload_n 1, 1) := by decide +kernel
theorem dX7_isWanted_13 : decode cX7_isWanted 13 = .ok (.bipush 12, 2) := by decide +kernel
theorem dX7_isWanted_15 : decode cX7_isWanted 15 = .ok (.irem, 1) := by decide +kernel
theorem dX7_isWanted_16 : decode cX7_isWanted 16 = .ok (.ishr, 1) := by decide +kernel
theorem dX7_isWanted_17 : decode cX7_isWanted 17 = .ok (.iconst 1, 1) := by decide +kernel
theorem dX7_isWanted_18 : decode cX7_isWanted 18 = .ok (.iand, 1) := by decide +kernel
theorem dX7_isWanted_19 : decode cX7_isWanted 19 = .ok (.ifCond .eq 7, 3) := by decide +kernel
theorem dX7_isWanted_22 : decode cX7_isWanted 22 = .ok (.iconst 1, 1) := by decide +kernel
theorem dX7_isWanted_23 : decode cX7_isWanted 23 = .ok (.goto 4, 3) := by decide +kernel
theorem dX7_isWanted_26 : decode cX7_isWanted 26 = .ok (.iconst 0, 1) := by decide +kernel
theorem dX7_isWanted_27 : decode cX7_isWanted 27 = .ok (.ireturn, 1) := by decide +kernel
theorem dX7_seatOf_0 : decode cX7_seatOf 0 = .ok (.aload_n 0, 1) := by decide +kernel
theorem dX7_seatOf_1 : decode cX7_seatOf 1 = .ok (.getfield 27, 3) := by decide +kernel
theorem dX7_seatOf_4 : decode cX7_seatOf 4 = .ok (.iload_n 1, 1) := by decide +kernel
theorem dX7_seatOf_5 : decode cX7_seatOf 5 = .ok (.bipush 12, 2) := by decide +kernel
theorem dX7_seatOf_7 : decode cX7_seatOf 7 = .ok (.idiv, 1) := by decide +kernel
theorem dX7_seatOf_8 : decode cX7_seatOf 8 = .ok (.iconst 4, 1) := by decide +kernel
theorem dX7_seatOf_9 : decode cX7_seatOf 9 = .ok (.invokevirtual 54, 3) := by decide +kernel
theorem dX7_seatOf_12 : decode cX7_seatOf 12 = .ok (.ireturn, 1) := by decide +kernel
theorem dX7_leastOf_0 : decode cX7_leastOf 0 = .ok (.aload_n 0, 1) := by decide +kernel
theorem dX7_leastOf_1 : decode cX7_leastOf 1 = .ok (.getfield 27, 3) := by decide +kernel
theorem dX7_leastOf_4 : decode cX7_leastOf 4 = .ok (.iload_n 1, 1) := by decide +kernel
theorem dX7_leastOf_5 : decode cX7_leastOf 5 = .ok (.bipush 12, 2) := by decide +kernel
theorem dX7_leastOf_7 : decode cX7_leastOf 7 = .ok (.idiv, 1) := by decide +kernel
theorem dX7_leastOf_8 : decode cX7_leastOf 8 = .ok (.bipush 6, 2) := by decide +kernel
theorem dX7_leastOf_10 : decode cX7_leastOf 10 = .ok (.invokevirtual 54, 3) := by decide +kernel
theorem dX7_leastOf_13 : decode cX7_leastOf 13 = .ok (.ireturn, 1) := by decide +kernel
