theorem dX6_init_0 : decode cX6_init 0 = .ok (.aload_n 0, 1) := by decide +kernel
theorem dX6_init_1 : decode cX6_init 1 = .ok (.invokespecial 3, 3) := by decide +kernel
theorem dX6_init_4 : decode cX6_init 4 = .ok (.aload_n 0, 1) := by decide +kernel
theorem dX6_init_5 : decode cX6_init 5 = .ok (.iconst (-1), 1) := by decide +kernel
theorem dX6_init_6 : decode cX6_init 6 = .ok (.putfield 11, 3) := by decide +kernel
theorem dX6_init_9 : decode cX6_init 9 = .ok (.aload_n 0, 1) := by decide +kernel
theorem dX6_init_10 : decode cX6_init 10 = .ok (.iconst (-1), 1) := by decide +kernel
theorem dX6_init_11 : decode cX6_init 11 = .ok (.putfield 15, 3) := by decide +kernel
theorem dX6_init_14 : decode cX6_init 14 = .ok (.aload_n 0, 1) := by decide +kernel
theorem dX6_init_15 : decode cX6_init 15 = .ok (.bipush 60, 2) := by decide +kernel
theorem dX6_init_17 : decode cX6_init 17 = .ok (.newarray .long, 2) := by decide +kernel
theorem dX6_init_19 : decode cX6_init 19 = .ok (.putfield 18, 3) := by decide +kernel
theorem dX6_init_22 : decode cX6_init 22 = .ok (.return_, 1) := by decide +kernel
theorem dX6_holdTree_0 : decode cX6_holdTree 0 = .ok (.aload_n 0, 1) := by decide +kernel
theorem dX6_holdTree_1 : decode cX6_holdTree 1 = .ok (.iload_n 1, 1) := by decide +kernel
theorem dX6_holdTree_2 : decode cX6_holdTree 2 = .ok (.putfield 11, 3) := by decide +kernel
theorem dX6_holdTree_5 : decode cX6_holdTree 5 = .ok (.aload_n 0, 1) := by decide +kernel
theorem dX6_holdTree_6 : decode cX6_holdTree 6 = .ok (.iconst (-1), 1) := by decide +kernel
theorem dX6_holdTree_7 : decode cX6_holdTree 7 = .ok (.putfield 15, 3) := by decide +kernel
theorem dX6_holdTree_10 : decode cX6_holdTree 10 = .ok (.aload_n 0, 1) := by decide +kernel
theorem dX6_holdTree_11 : decode cX6_holdTree 11 = .ok (.iconst 0, 1) := by decide +kernel
theorem dX6_holdTree_12 : decode cX6_holdTree 12 = .ok (.putfield 22, 3) := by decide +kernel
theorem dX6_holdTree_15 : decode cX6_holdTree 15 = .ok (.return_, 1) := by decide +kernel
theorem dX6_holdRow_0 : decode cX6_holdRow 0 = .ok (.aload_n 0, 1) := by decide +kernel
theorem dX6_holdRow_1 : decode cX6_holdRow 1 = .ok (.iconst (-1), 1) := by decide +kernel
theorem dX6_holdRow_2 : decode cX6_holdRow 2 = .ok (.putfield 11, 3) := by decide +kernel
theorem dX6_holdRow_5 : decode cX6_holdRow 5 = .ok (.aload_n 0, 1) := by decide +kernel
theorem dX6_holdRow_6 : decode cX6_holdRow 6 = .ok (.iload_n 1, 1) := by decide +kernel
theorem dX6_holdRow_7 : decode cX6_holdRow 7 = .ok (.putfield 15, 3) := by decide +kernel
theorem dX6_holdRow_10 : decode cX6_holdRow 10 = .ok (.aload_n 0, 1) := by decide +kernel
theorem dX6_holdRow_11 : decode cX6_holdRow 11 = .ok (.iconst 0, 1) := by decide +kernel
theorem dX6_holdRow_12 : decode cX6_holdRow 12 = .ok (.bipush 60, 2) := by decide +kernel
theorem dX6_holdRow_14 : decode cX6_holdRow 14 = .ok (.iload_n 2, 1) := by decide +kernel
theorem dX6_holdRow_15 : decode cX6_holdRow 15 = .ok (.invokestatic 25, 3) := by decide +kernel
theorem dX6_holdRow_18 : decode cX6_holdRow 18 = .ok (.invokestatic 31, 3) := by decide +kernel
theorem dX6_holdRow_21 : decode cX6_holdRow 21 = .ok (.putfield 22, 3) := by decide +kernel
theorem dX6_holdRow_24 : decode cX6_holdRow 24 = .ok (.aload_n 0, 1) := by decide +kernel
theorem dX6_holdRow_25 : decode cX6_holdRow 25 = .ok (.getfield 18, 3) := by decide +kernel
theorem dX6_holdRow_28 : decode cX6_holdRow 28 = .ok (.lconst 0, 1) := by decide +kernel
theorem dX6_holdRow_29 : decode cX6_holdRow 29 = .ok (.invokestatic 34, 3) := by decide +kernel
theorem dX6_holdRow_32 : decode cX6_holdRow 32 = .ok (.return_, 1) := by decide +kernel
theorem dX6_isEmpty_0 : decode cX6_isEmpty 0 = .ok (.aload_n 0, 1) := by decide +kernel
theorem dX6_isEmpty_1 : decode cX6_isEmpty 1 = .ok (.getfield 11, 3) := by decide +kernel
theorem dX6_isEmpty_4 : decode cX6_isEmpty 4 = .ok (.iconst (-1), 1) := by decide +kernel
theorem dX6_isEmpty_5 : decode cX6_isEmpty 5 = .ok (.if_icmp .ne 15, 3) := by decide +kernel
theorem dX6_isEmpty_8 : decode cX6_isEmpty 8 = .ok (.aload_n 0, 1) := by decide +kernel
theorem dX6_isEmpty_9 : decode cX6_isEmpty 9 = .ok (.getfield 15, 3) := by decide +kernel
theorem dX6_isEmpty_12 : decode cX6_isEmpty 12 = .ok (.iconst (-1), 1) := by decide +kernel
theorem dX6_isEmpty_13 : decode cX6_isEmpty 13 = .ok (.if_icmp .ne 7, 3) := by decide +kernel
theorem dX6_isEmpty_16 : decode cX6_isEmpty 16 = .ok (.iconst 1, 1) := by decide +kernel
theorem dX6_isEmpty_17 : decode cX6_isEmpty 17 = .ok (.goto 4, 3) := by decide +kernel
theorem dX6_isEmpty_20 : decode cX6_isEmpty 20 = .ok (.iconst 0, 1) := by decide +kernel
theorem dX6_isEmpty_21 : decode cX6_isEmpty 21 = .ok (.ireturn, 1) := by decide +kernel
theorem dX6_isRowOf_0 : decode cX6_isRowOf 0 = .ok (.aload_n 0, 1) := by decide +kernel
theorem dX6_isRowOf_1 : decode cX6_isRowOf 1 = .ok (.getfield 15, 3) := by decide +kernel
theorem dX6_isRowOf_4 : decode cX6_isRowOf 4 = .ok (.iload_n 1, 1) := by decide +kernel
theorem dX6_isRowOf_5 : decode cX6_isRowOf 5 = .ok (.if_icmp .ne 7, 3) := by decide +kernel
theorem dX6_isRowOf_8 : decode cX6_isRowOf 8 = .ok (.iconst 1, 1) := by decide +kernel
theorem dX6_isRowOf_9 : decode cX6_isRowOf 9 = .ok (.goto 4, 3) := by decide +kernel
theorem dX6_isRowOf_12 : decode cX6_isRowOf 12 = .ok (.iconst 0, 1) := by decide +kernel
theorem dX6_isRowOf_13 : decode cX6_isRowOf 13 = .ok (.ireturn, 1) := by decide +kernel
theorem dX6_tree_0 : decode cX6_tree 0 = .ok (.aload_n 0, 1) := by decide +kernel
theorem dX6_tree_1 : decode cX6_tree 1 = .ok (.getfield 11, 3) := by decide +kernel
theorem dX6_tree_4 : decode cX6_tree 4 = .ok (.ireturn, 1) := by decide +kernel
theorem dX6_size_0 : decode cX6_size 0 = .ok (.aload_n 0, 1) := by decide +kernel
theorem dX6_size_1 : decode cX6_size 1 = .ok (.getfield 22, 3) := by decide +kernel
theorem dX6_size_4 : decode cX6_size 4 = .ok (.ireturn, 1) := by decide +kernel
theorem dX6_refusalAs_0 : decode cX6_refusalAs 0 = .ok (.aload_n 0, 1) := by decide +kernel
theorem dX6_refusalAs_1 : decode cX6_refusalAs 1 = .ok (.invokevirtual 40, 3) := by decide +kernel
theorem dX6_refusalAs_4 : decode cX6_refusalAs 4 = .ok (.ifCond .eq 8, 3) := by decide +kernel
theorem dX6_refusalAs_7 : decode cX6_refusalAs 7 = .ok (.bipush (-11), 2) := by decide +kernel
theorem dX6_refusalAs_9 : decode cX6_refusalAs 9 = .ok (.goto 17, 3) := by decide +kernel
theorem dX6_refusalAs_12 : decode cX6_refusalAs 12 = .ok (.aload_n 0, 1) := by decide +kernel
theorem dX6_refusalAs_13 : decode cX6_refusalAs 13 = .ok (.iload_n 1, 1) := by decide +kernel
theorem dX6_refusalAs_14 : decode cX6_refusalAs 14 = .ok (.invokevirtual 44, 3) := by decide +kernel
theorem dX6_refusalAs_17 : decode cX6_refusalAs 17 = .ok (.ifCond .eq 7, 3) := by decide +kernel
theorem dX6_refusalAs_20 : decode cX6_refusalAs 20 = .ok (.iconst 0, 1) := by decide +kernel
theorem dX6_refusalAs_21 : decode cX6_refusalAs 21 = .ok (.goto 5, 3) := by decide +kernel
theorem dX6_refusalAs_24 : decode cX6_refusalAs 24 = .ok (.bipush (-12), 2) := by decide +kernel
theorem dX6_refusalAs_26 : decode cX6_refusalAs 26 = .ok (.ireturn, 1) := by decide +kernel
theorem dX6_refusalAt_0 : decode cX6_refusalAt 0 = .ok (.aload_n 0, 1) := by decide +kernel
theorem dX6_refusalAt_1 : decode cX6_refusalAt 1 = .ok (.invokevirtual 40, 3) := by decide +kernel
theorem dX6_refusalAt_4 : decode cX6_refusalAt 4 = .ok (.ifCond .eq 6, 3) := by decide +kernel
theorem dX6_refusalAt_7 : decode cX6_refusalAt 7 = .ok (.bipush (-11), 2) := by decide +kernel
theorem dX6_refusalAt_9 : decode cX6_refusalAt 9 = .ok (.ireturn, 1) := by decide +kernel
theorem dX6_refusalAt_10 : decode cX6_refusalAt 10 = .ok (.aload_n 0, 1) := by decide +kernel
theorem dX6_refusalAt_11 : decode cX6_refusalAt 11 = .ok (.getfield 15, 3) := by decide +kernel
theorem dX6_refusalAt_14 : decode cX6_refusalAt 14 = .ok (.iconst (-1), 1) := by decide +kernel
theorem dX6_refusalAt_15 : decode cX6_refusalAt 15 = .ok (.if_icmp .ne 6, 3) := by decide +kernel
theorem dX6_refusalAt_18 : decode cX6_refusalAt 18 = .ok (.bipush (-12), 2) := by decide +kernel
theorem dX6_refusalAt_20 : decode cX6_refusalAt 20 = .ok (.ireturn, 1) := by decide +kernel
theorem dX6_refusalAt_21 : decode cX6_refusalAt 21 = .ok (.iload_n 1, 1) := by decide +kernel
theorem dX6_refusalAt_22 : decode cX6_refusalAt 22 = .ok (.ifCond .lt 11, 3) := by decide +kernel
theorem dX6_refusalAt_25 : decode cX6_refusalAt 25 = .ok (.iload_n 1, 1) := by decide +kernel
theorem dX6_refusalAt_26 : decode cX6_refusalAt 26 = .ok (.aload_n 0, 1) := by decide +kernel
theorem dX6_refusalAt_27 : decode cX6_refusalAt 27 = .ok (.getfield 22, 3) := by decide +kernel
theorem dX6_refusalAt_30 : decode cX6_refusalAt 30 = .ok (.if_icmp .lt 8, 3) := by decide +kernel
theorem dX6_refusalAt_33 : decode cX6_refusalAt 33 = .ok (.bipush (-13), 2) := by decide +kernel
theorem dX6_refusalAt_35 : decode cX6_refusalAt 35 = .ok (.goto 4, 3) := by decide +kernel
theorem dX6_refusalAt_38 : decode cX6_refusalAt 38 = .ok (.iconst 0, 1) := by decide +kernel
theorem dX6_refusalAt_39 : decode cX6_refusalAt 39 = .ok (.ireturn, 1) := by decide +kernel
theorem dX6_get_0 : decode cX6_get 0 = .ok (.iload_n 1, 1) := by decide +kernel
theorem dX6_get_1 : decode cX6_get 1 = .ok (.ifCond .lt 20, 3) := by decide +kernel
theorem dX6_get_4 : decode cX6_get 4 = .ok (.iload_n 1, 1) := by decide +kernel
theorem dX6_get_5 : decode cX6_get 5 = .ok (.aload_n 0, 1) := by decide +kernel
theorem dX6_get_6 : decode cX6_get 6 = .ok (.getfield 22, 3) := by decide +kernel
theorem dX6_get_9 : decode cX6_get 9 = .ok (.if_icmp .ge 12, 3) := by decide +kernel
theorem dX6_get_12 : decode cX6_get 12 = .ok (.aload_n 0, 1) := by decide +kernel
theorem dX6_get_13 : decode cX6_get 13 = .ok (.getfield 18, 3) := by decide +kernel
theorem dX6_get_16 : decode cX6_get 16 = .ok (.iload_n 1, 1) := by decide +kernel
theorem dX6_get_17 : decode cX6_get 17 = .ok (.laload, 1) := by decide +kernel
theorem dX6_get_18 : decode cX6_get 18 = .ok (.goto 4, 3) := by decide +kernel
theorem dX6_get_21 : decode cX6_get 21 = .ok (.lconst 0, 1) := by decide +kernel
theorem dX6_get_22 : decode cX6_get 22 = .ok (.lreturn, 1) := by decide +kernel
theorem dX6_set_0 : decode cX6_set 0 = .ok (.iload_n 1, 1) := by decide +kernel
theorem dX6_set_1 : decode cX6_set 1 = .ok (.ifCond .lt 22, 3) := by decide +kernel
theorem dX6_set_4 : decode cX6_set 4 = .ok (.iload_n 1, 1) := by decide +kernel
theorem dX6_set_5 : decode cX6_set 5 = .ok (.aload_n 0, 1) := by decide +kernel
theorem dX6_set_6 : decode cX6_set 6 = .ok (.getfield 22, 3) := by decide +kernel
theorem dX6_set_9 : decode cX6_set 9 = .ok (.if_icmp .ge 14, 3) := by decide +kernel
theorem dX6_set_12 : decode cX6_set 12 = .ok (.aload_n 0, 1) := by decide +kernel
theorem dX6_set_13 : decode cX6_set 13 = .ok (.getfield 18, 3) := by decide +kernel
theorem dX6_set_16 : decode cX6_set 16 = .ok (.iload_n 1, 1) := by decide +kernel
theorem dX6_set_17 : decode cX6_set 17 = .ok (.aload_n 0, 1) := by decide +kernel
theorem dX6_set_18 : decode cX6_set 18 = .ok (.lload_n 2, 1) := by decide +kernel
theorem dX6_set_19 : decode cX6_set 19 = .ok (.invokevirtual 48, 3) := by decide +kernel
theorem dX6_set_22 : decode cX6_set 22 = .ok (.lastore, 1) := by decide +kernel
theorem dX6_set_23 : decode cX6_set 23 = .ok (.return_, 1) := by decide +kernel
theorem dX6_copyTo_0 : decode cX6_copyTo 0 = .ok (.aload_n 0, 1) := by decide +kernel
theorem dX6_copyTo_1 : decode cX6_copyTo 1 = .ok (.invokevirtual 40, 3) := by decide +kernel
theorem dX6_copyTo_4 : decode cX6_copyTo 4 = .ok (.ifCond .ne 10, 3) := by decide +kernel
theorem dX6_copyTo_7 : decode cX6_copyTo 7 = .ok (.aload_n 2, 1) := by decide +kernel
theorem dX6_copyTo_8 : decode cX6_copyTo 8 = .ok (.invokevirtual 40, 3) := by decide +kernel
theorem dX6_copyTo_11 : decode cX6_copyTo 11 = .ok (.ifCond .eq 6, 3) := by decide +kernel
theorem dX6_copyTo_14 : decode cX6_copyTo 14 = .ok (.bipush (-11), 2) := by decide +kernel
theorem dX6_copyTo_16 : decode cX6_copyTo 16 = .ok (.ireturn, 1) := by decide +kernel
theorem dX6_copyTo_17 : decode cX6_copyTo 17 = .ok (.aload_n 0, 1) := by decide +kernel
theorem dX6_copyTo_18 : decode cX6_copyTo 18 = .ok (.getfield 15, 3) := by decide +kernel
theorem dX6_copyTo_21 : decode cX6_copyTo 21 = .ok (.iconst (-1), 1) := by decide +kernel
theorem dX6_copyTo_22 : decode cX6_copyTo 22 = .ok (.if_icmp .eq 14, 3) := by decide +kernel
theorem dX6_copyTo_25 : decode cX6_copyTo 25 = .ok (.aload_n 0, 1) := by decide +kernel
theorem dX6_copyTo_26 : decode cX6_copyTo 26 = .ok (.getfield 15, 3) := by decide +kernel
theorem dX6_copyTo_29 : decode cX6_copyTo 29 = .ok (.aload_n 2, 1) := by decide +kernel
theorem dX6_copyTo_30 : decode cX6_copyTo 30 = .ok (.getfield 15, 3) := by decide +kernel
theorem dX6_copyTo_33 : decode cX6_copyTo 33 = .ok (.if_icmp .eq 6, 3) := by decide +kernel
theorem dX6_copyTo_36 : decode cX6_copyTo 36 = .ok (.bipush (-12), 2) := by decide +kernel
theorem dX6_copyTo_38 : decode cX6_copyTo 38 = .ok (.ireturn, 1) := by decide +kernel
theorem dX6_copyTo_39 : decode cX6_copyTo 39 = .ok (.iload_n 1, 1) := by decide +kernel
theorem dX6_copyTo_40 : decode cX6_copyTo 40 = .ok (.ifCond .lt 34, 3) := by decide +kernel
theorem dX6_copyTo_43 : decode cX6_copyTo 43 = .ok (.iload_n 3, 1) := by decide +kernel
theorem dX6_copyTo_44 : decode cX6_copyTo 44 = .ok (.ifCond .lt 30, 3) := by decide +kernel
theorem dX6_copyTo_47 : decode cX6_copyTo 47 = .ok (.iload 4, 2) := by decide +kernel
theorem dX6_copyTo_49 : decode cX6_copyTo 49 = .ok (.ifCond .lt 25, 3) := by decide +kernel
theorem dX6_copyTo_52 : decode cX6_copyTo 52 = .ok (.iload_n 1, 1) := by decide +kernel
theorem dX6_copyTo_53 : decode cX6_copyTo 53 = .ok (.aload_n 0, 1) := by decide +kernel
theorem dX6_copyTo_54 : decode cX6_copyTo 54 = .ok (.getfield 22, 3) := by decide +kernel
theorem dX6_copyTo_57 : decode cX6_copyTo 57 = .ok (.iload 4, 2) := by decide +kernel
theorem dX6_copyTo_59 : decode cX6_copyTo 59 = .ok (.isub, 1) := by decide +kernel
theorem dX6_copyTo_60 : decode cX6_copyTo 60 = .ok (.if_icmp .gt 14, 3) := by decide +kernel
theorem dX6_copyTo_63 : decode cX6_copyTo 63 = .ok (.iload_n 3, 1) := by decide +kernel
theorem dX6_copyTo_64 : decode cX6_copyTo 64 = .ok (.aload_n 2, 1) := by decide +kernel
theorem dX6_copyTo_65 : decode cX6_copyTo 65 = .ok (.getfield 22, 3) := by decide +kernel
theorem dX6_copyTo_68 : decode cX6_copyTo 68 = .ok (.iload 4, 2) := by decide +kernel
theorem dX6_copyTo_70 : decode cX6_copyTo 70 = .ok (.isub, 1) := by decide +kernel
theorem dX6_copyTo_71 : decode cX6_copyTo 71 = .ok (.if_icmp .le 6, 3) := by decide +kernel
theorem dX6_copyTo_74 : decode cX6_copyTo 74 = .ok (.bipush (-13), 2) := by decide +kernel
theorem dX6_copyTo_76 : decode cX6_copyTo 76 = .ok (.ireturn, 1) := by decide +kernel
theorem dX6_copyTo_77 : decode cX6_copyTo 77 = .ok (.aload_n 0, 1) := by decide +kernel
theorem dX6_copyTo_78 : decode cX6_copyTo 78 = .ok (.getfield 18, 3) := by decide +kernel
theorem dX6_copyTo_81 : decode cX6_copyTo 81 = .ok (.iload_n 1, 1) := by decide +kernel
theorem dX6_copyTo_82 : decode cX6_copyTo 82 = .ok (.aload_n 2, 1) := by decide +kernel
theorem dX6_copyTo_83 : decode cX6_copyTo 83 = .ok (.getfield 18, 3) := by decide +kernel
theorem dX6_copyTo_86 : decode cX6_copyTo 86 = .ok (.iload_n 3, 1) := by decide +kernel
theorem dX6_copyTo_87 : decode cX6_copyTo 87 = .ok (.iload 4, 2) := by decide +kernel
theorem dX6_copyTo_89 : decode cX6_copyTo 89 = .ok (.invokestatic 52, 3) := by decide +kernel
theorem dX6_copyTo_92 : decode cX6_copyTo 92 = .ok (.iload 4, 2) := by decide +kernel
theorem dX6_copyTo_94 : decode cX6_copyTo 94 = .ok (.ireturn, 1) := by decide +kernel
theorem dX6_narrowed_0 : decode cX6_narrowed 0 = .ok (.aload_n 0, 1) := by decide +kernel
theorem dX6_narrowed_1 : decode cX6_narrowed 1 = .ok (.getfield 15, 3) := by decide +kernel
theorem dX6_narrowed_4 : decode cX6_narrowed 4 = .ok (.tableswitch 48 0 3 #[32, 37, 42, 46], 32) := by decide +kernel
theorem dX6_narrowed_36 : decode cX6_narrowed 36 = .ok (.lload_n 1, 1) := by decide +kernel
theorem dX6_narrowed_37 : decode cX6_narrowed 37 = .ok (.l2i, 1) := by decide +kernel
theorem dX6_narrowed_38 : decode cX6_narrowed 38 = .ok (.i2b, 1) := by decide +kernel
theorem dX6_narrowed_39 : decode cX6_narrowed 39 = .ok (.i2l, 1) := by decide +kernel
theorem dX6_narrowed_40 : decode cX6_narrowed 40 = .ok (.lreturn, 1) := by decide +kernel
theorem dX6_narrowed_41 : decode cX6_narrowed 41 = .ok (.lload_n 1, 1) := by decide +kernel
theorem dX6_narrowed_42 : decode cX6_narrowed 42 = .ok (.l2i, 1) := by decide +kernel
theorem dX6_narrowed_43 : decode cX6_narrowed 43 = .ok (.i2s, 1) := by decide +kernel
theorem dX6_narrowed_44 : decode cX6_narrowed 44 = .ok (.i2l, 1) := by decide +kernel
theorem dX6_narrowed_45 : decode cX6_narrowed 45 = .ok (.lreturn, 1) := by decide +kernel
theorem dX6_narrowed_46 : decode cX6_narrowed 46 = .ok (.lload_n 1, 1) := by decide +kernel
theorem dX6_narrowed_47 : decode cX6_narrowed 47 = .ok (.l2i, 1) := by decide +kernel
theorem dX6_narrowed_48 : decode cX6_narrowed 48 = .ok (.i2l, 1) := by decide +kernel
theorem dX6_narrowed_49 : decode cX6_narrowed 49 = .ok (.lreturn, 1) := by decide +kernel
theorem dX6_narrowed_50 : decode cX6_narrowed 50 = .ok (.lload_n 1, 1) := by decide +kernel
theorem dX6_narrowed_51 : decode cX6_narrowed 51 = .ok (.lreturn, 1) := by decide +kernel
theorem dX6_narrowed_52 : decode cX6_narrowed 52 = .ok (.lload_n 1, 1) := by decide +kernel
theorem dX6_narrowed_53 : decode cX6_narrowed 53 = .ok (.lconst 0, 1) := by decide +kernel
theorem dX6_narrowed_54 : decode cX6_narrowed 54 = .ok (.lcmp, 1) := by decide +kernel
theorem dX6_narrowed_55 : decode cX6_narrowed 55 = .ok (.ifCond .eq 7, 3) := by decide +kernel
theorem dX6_narrowed_58 : decode cX6_narrowed 58 = .ok (.lconst 1, 1) := by decide +kernel
theorem dX6_narrowed_59 : decode cX6_narrowed 59 = .ok (.goto 4, 3) := by decide +kernel
theorem dX6_narrowed_62 : decode cX6_narrowed 62 = .ok (.lconst 0, 1) := by decide +kernel
theorem dX6_narrowed_63 : decode cX6_narrowed 63 = .ok (.lreturn, 1) := by decide +kernel
