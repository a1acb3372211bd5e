theorem dX10_isShelf_5 : decode cX10_isShelf 5 = .ok (.bipush 6, 2) := by decide +kernel
theorem dX10_isShelf_7 : decode cX10_isShelf 7 = .ok (.if_icmp .ge 7, 3) := by decide +kernel
theorem dX10_isShelf_10 : decode cX10_isShelf 10 = .ok (.iconst 1, 1) := by decide +kernel
theorem dX10_isShelf_11 : decode cX10_isShelf 11 = .ok (.goto 4, 3) := by decide +kernel
theorem dX10_isShelf_14 : decode cX10_isShelf 14 = .ok (.iconst 0, 1) := by decide +kernel
theorem dX10_isShelf_15 : decode cX10_isShelf 15 = .ok (.ireturn, 1) := by decide +kernel
theorem dX10_isChoice_0 : decode cX10_isChoice 0 = .ok (.iload_n 0, 1) := by decide +kernel
theorem dX10_isChoice_1 : decode cX10_isChoice 1 = .ok (.ifCond .lt 12, 3) := by decide +kernel
theorem dX10_isChoice_4 : decode cX10_isChoice 4 = .ok (.iload_n 0, 1) := by decide +kernel
theorem dX10_isChoice_5 : decode cX10_isChoice 5 = .ok (.iload_n 1, 1) := by decide +kernel
theorem dX10_isChoice_6 : decode cX10_isChoice 6 = .ok (.if_icmp .ge 7, 3) := by decide +kernel
theorem dX10_isChoice_9 : decode cX10_isChoice 9 = .ok (.iconst 1, 1) := by decide +kernel
theorem dX10_isChoice_10 : decode cX10_isChoice 10 = .ok (.goto 4, 3) := by decide +kernel
theorem dX10_isChoice_13 : decode cX10_isChoice 13 = .ok (.iconst 0, 1) := by decide +kernel
theorem dX10_isChoice_14 : decode cX10_isChoice 14 = .ok (.ireturn, 1) := by decide +kernel
theorem dX10_cellAfter_0 : decode cX10_cellAfter 0 = .ok (.iload_n 0, 1) := by decide +kernel
theorem dX10_cellAfter_1 : decode cX10_cellAfter 1 = .ok (.bipush 12, 2) := by decide +kernel
theorem dX10_cellAfter_3 : decode cX10_cellAfter 3 = .ok (.irem, 1) := by decide +kernel
theorem dX10_cellAfter_4 : decode cX10_cellAfter 4 = .ok (.iload_n 1, 1) := by decide +kernel
theorem dX10_cellAfter_5 : decode cX10_cellAfter 5 = .ok (.iconst 1, 1) := by decide +kernel
theorem dX10_cellAfter_6 : decode cX10_cellAfter 6 = .ok (.if_icmp .ne 7, 3) := by decide +kernel
theorem dX10_cellAfter_9 : decode cX10_cellAfter 9 = .ok (.iconst 1, 1) := by decide +kernel
theorem dX10_cellAfter_10 : decode cX10_cellAfter 10 = .ok (.goto 13, 3) := by decide +kernel
theorem dX10_cellAfter_13 : decode cX10_cellAfter 13 = .ok (.iload_n 1, 1) := by decide +kernel
theorem dX10_cellAfter_14 : decode cX10_cellAfter 14 = .ok (.iconst 3, 1) := by decide +kernel
theorem dX10_cellAfter_15 : decode cX10_cellAfter 15 = .ok (.if_icmp .ne 7, 3) := by decide +kernel
theorem dX10_cellAfter_18 : decode cX10_cellAfter 18 = .ok (.iconst (-1), 1) := by decide +kernel
theorem dX10_cellAfter_19 : decode cX10_cellAfter 19 = .ok (.goto 4, 3) := by decide +kernel
theorem dX10_cellAfter_22 : decode cX10_cellAfter 22 = .ok (.iconst 0, 1) := by decide +kernel
theorem dX10_cellAfter_23 : decode cX10_cellAfter 23 = .ok (.iadd, 1) := by decide +kernel
theorem dX10_cellAfter_24 : decode cX10_cellAfter 24 = .ok (.istore_n 2, 1) := by decide +kernel
theorem dX10_cellAfter_25 : decode cX10_cellAfter 25 = .ok (.iload_n 0, 1) := by decide +kernel
theorem dX10_cellAfter_26 : decode cX10_cellAfter 26 = .ok (.bipush 12, 2) := by decide +kernel
theorem dX10_cellAfter_28 : decode cX10_cellAfter 28 = .ok (.idiv, 1) := by decide +kernel
theorem dX10_cellAfter_29 : decode cX10_cellAfter 29 = .ok (.iload_n 1, 1) := by decide +kernel
theorem dX10_cellAfter_30 : decode cX10_cellAfter 30 = .ok (.iconst 2, 1) := by decide +kernel
theorem dX10_cellAfter_31 : decode cX10_cellAfter 31 = .ok (.if_icmp .ne 7, 3) := by decide +kernel
theorem dX10_cellAfter_34 : decode cX10_cellAfter 34 = .ok (.iconst 1, 1) := by decide +kernel
theorem dX10_cellAfter_35 : decode cX10_cellAfter 35 = .ok (.goto 12, 3) := by decide +kernel
theorem dX10_cellAfter_38 : decode cX10_cellAfter 38 = .ok (.iload_n 1, 1) := by decide +kernel
theorem dX10_cellAfter_39 : decode cX10_cellAfter 39 = .ok (.ifCond .ne 7, 3) := by decide +kernel
theorem dX10_cellAfter_42 : decode cX10_cellAfter 42 = .ok (.iconst (-1), 1) := by decide +kernel
theorem dX10_cellAfter_43 : decode cX10_cellAfter 43 = .ok (.goto 4, 3) := by decide +kernel
theorem dX10_cellAfter_46 : decode cX10_cellAfter 46 = .ok (.iconst 0, 1) := by decide +kernel
theorem dX10_cellAfter_47 : decode cX10_cellAfter 47 = .ok (.iadd, 1) := by decide +kernel
theorem dX10_cellAfter_48 : decode cX10_cellAfter 48 = .ok (.istore_n 3, 1) := by decide +kernel
theorem dX10_cellAfter_49 : decode cX10_cellAfter 49 = .ok (.iload_n 2, 1) := by decide +kernel
theorem dX10_cellAfter_50 : decode cX10_cellAfter 50 = .ok (.ifCond .lt 19, 3) := by decide +kernel
theorem dX10_cellAfter_53 : decode cX10_cellAfter 53 = .ok (.iload_n 2, 1) := by decide +kernel
theorem dX10_cellAfter_54 : decode cX10_cellAfter 54 = .ok (.bipush 12, 2) := by decide +kernel
theorem dX10_cellAfter_56 : decode cX10_cellAfter 56 = .ok (.if_icmp .ge 13, 3) := by decide +kernel
theorem dX10_cellAfter_59 : decode cX10_cellAfter 59 = .ok (.iload_n 3, 1) := by decide +kernel
theorem dX10_cellAfter_60 : decode cX10_cellAfter 60 = .ok (.ifCond .lt 9, 3) := by decide +kernel
theorem dX10_cellAfter_63 : decode cX10_cellAfter 63 = .ok (.iload_n 3, 1) := by decide +kernel
theorem dX10_cellAfter_64 : decode cX10_cellAfter 64 = .ok (.bipush 12, 2) := by decide +kernel
theorem dX10_cellAfter_66 : decode cX10_cellAfter 66 = .ok (.if_icmp .lt 7, 3) := by decide +kernel
theorem dX10_cellAfter_69 : decode cX10_cellAfter 69 = .ok (.iconst (-1), 1) := by decide +kernel
theorem dX10_cellAfter_70 : decode cX10_cellAfter 70 = .ok (.goto 9, 3) := by decide +kernel
theorem dX10_cellAfter_73 : decode cX10_cellAfter 73 = .ok (.bipush 12, 2) := by decide +kernel
theorem dX10_cellAfter_75 : decode cX10_cellAfter 75 = .ok (.iload_n 3, 1) := by decide +kernel
theorem dX10_cellAfter_76 : decode cX10_cellAfter 76 = .ok (.imul, 1) := by decide +kernel
theorem dX10_cellAfter_77 : decode cX10_cellAfter 77 = .ok (.iload_n 2, 1) := by decide +kernel
theorem dX10_cellAfter_78 : decode cX10_cellAfter 78 = .ok (.iadd, 1) := by decide +kernel
theorem dX10_cellAfter_79 : decode cX10_cellAfter 79 = .ok (.ireturn, 1) := by decide +kernel
theorem dX10_sitterFrom_0 : decode cX10_sitterFrom 0 = .ok (.lload_n 2, 1) := by decide +kernel
theorem dX10_sitterFrom_1 : decode cX10_sitterFrom 1 = .ok (.lconst 0, 1) := by decide +kernel
theorem dX10_sitterFrom_2 : decode cX10_sitterFrom 2 = .ok (.lcmp, 1) := by decide +kernel
theorem dX10_sitterFrom_3 : decode cX10_sitterFrom 3 = .ok (.ifCond .lt 17, 3) := by decide +kernel
theorem dX10_sitterFrom_6 : decode cX10_sitterFrom 6 = .ok (.lload_n 2, 1) := by decide +kernel
theorem dX10_sitterFrom_7 : decode cX10_sitterFrom 7 = .ok (.ldc2_w 348, 3) := by decide +kernel
theorem dX10_sitterFrom_10 : decode cX10_sitterFrom 10 = .ok (.ladd, 1) := by decide +kernel
theorem dX10_sitterFrom_11 : decode cX10_sitterFrom 11 = .ok (.aload_n 1, 1) := by decide +kernel
theorem dX10_sitterFrom_12 : decode cX10_sitterFrom 12 = .ok (.invokevirtual 350, 3) := by decide +kernel
theorem dX10_sitterFrom_15 : decode cX10_sitterFrom 15 = .ok (.i2l, 1) := by decide +kernel
theorem dX10_sitterFrom_16 : decode cX10_sitterFrom 16 = .ok (.lcmp, 1) := by decide +kernel
theorem dX10_sitterFrom_17 : decode cX10_sitterFrom 17 = .ok (.ifCond .lt 5, 3) := by decide +kernel
theorem dX10_sitterFrom_20 : decode cX10_sitterFrom 20 = .ok (.iconst 0, 1) := by decide +kernel
theorem dX10_sitterFrom_21 : decode cX10_sitterFrom 21 = .ok (.ireturn, 1) := by decide +kernel
theorem dX10_sitterFrom_22 : decode cX10_sitterFrom 22 = .ok (.lload_n 2, 1) := by decide +kernel
theorem dX10_sitterFrom_23 : decode cX10_sitterFrom 23 = .ok (.l2i, 1) := by decide +kernel
theorem dX10_sitterFrom_24 : decode cX10_sitterFrom 24 = .ok (.istore 4, 2) := by decide +kernel
theorem dX10_sitterFrom_26 : decode cX10_sitterFrom 26 = .ok (.aload_n 1, 1) := by decide +kernel
theorem dX10_sitterFrom_27 : decode cX10_sitterFrom 27 = .ok (.iload 4, 2) := by decide +kernel
theorem dX10_sitterFrom_29 : decode cX10_sitterFrom 29 = .ok (.invokevirtual 323, 3) := by decide +kernel
theorem dX10_sitterFrom_32 : decode cX10_sitterFrom 32 = .ok (.l2i, 1) := by decide +kernel
theorem dX10_sitterFrom_33 : decode cX10_sitterFrom 33 = .ok (.istore 5, 2) := by decide +kernel
theorem dX10_sitterFrom_35 : decode cX10_sitterFrom 35 = .ok (.aload_n 1, 1) := by decide +kernel
theorem dX10_sitterFrom_36 : decode cX10_sitterFrom 36 = .ok (.iload 4, 2) := by decide +kernel
theorem dX10_sitterFrom_38 : decode cX10_sitterFrom 38 = .ok (.iconst 1, 1) := by decide +kernel
theorem dX10_sitterFrom_39 : decode cX10_sitterFrom 39 = .ok (.iadd, 1) := by decide +kernel
theorem dX10_sitterFrom_40 : decode cX10_sitterFrom 40 = .ok (.invokevirtual 323, 3) := by decide +kernel
theorem dX10_sitterFrom_43 : decode cX10_sitterFrom 43 = .ok (.l2i, 1) := by decide +kernel
theorem dX10_sitterFrom_44 : decode cX10_sitterFrom 44 = .ok (.istore 6, 2) := by decide +kernel
theorem dX10_sitterFrom_46 : decode cX10_sitterFrom 46 = .ok (.aload_n 1, 1) := by decide +kernel
theorem dX10_sitterFrom_47 : decode cX10_sitterFrom 47 = .ok (.iload 4, 2) := by decide +kernel
theorem dX10_sitterFrom_49 : decode cX10_sitterFrom 49 = .ok (.iconst 2, 1) := by decide +kernel
theorem dX10_sitterFrom_50 : decode cX10_sitterFrom 50 = .ok (.iadd, 1) := by decide +kernel
theorem dX10_sitterFrom_51 : decode cX10_sitterFrom 51 = .ok (.invokevirtual 323, 3) := by decide +kernel
theorem dX10_sitterFrom_54 : decode cX10_sitterFrom 54 = .ok (.l2i, 1) := by decide +kernel
theorem dX10_sitterFrom_55 : decode cX10_sitterFrom 55 = .ok (.istore 7, 2) := by decide +kernel
theorem dX10_sitterFrom_57 : decode cX10_sitterFrom 57 = .ok (.aload_n 0, 1) := by decide +kernel
theorem dX10_sitterFrom_58 : decode cX10_sitterFrom 58 = .ok (.getfield 10, 3) := by decide +kernel
theorem dX10_sitterFrom_61 : decode cX10_sitterFrom 61 = .ok (.iconst 4, 1) := by decide +kernel
theorem dX10_sitterFrom_62 : decode cX10_sitterFrom 62 = .ok (.iload 5, 2) := by decide +kernel
theorem dX10_sitterFrom_64 : decode cX10_sitterFrom 64 = .ok (.invokevirtual 85, 3) := by decide +kernel
theorem dX10_sitterFrom_67 : decode cX10_sitterFrom 67 = .ok (.ifCond .eq 30, 3) := by decide +kernel
theorem dX10_sitterFrom_70 : decode cX10_sitterFrom 70 = .ok (.aload_n 0, 1) := by decide +kernel
theorem dX10_sitterFrom_71 : decode cX10_sitterFrom 71 = .ok (.getfield 10, 3) := by decide +kernel
theorem dX10_sitterFrom_74 : decode cX10_sitterFrom 74 = .ok (.iconst 5, 1) := by decide +kernel
theorem dX10_sitterFrom_75 : decode cX10_sitterFrom 75 = .ok (.iload 6, 2) := by decide +kernel
theorem dX10_sitterFrom_77 : decode cX10_sitterFrom 77 = .ok (.invokevirtual 85, 3) := by decide +kernel
theorem dX10_sitterFrom_80 : decode cX10_sitterFrom 80 = .ok (.ifCond .eq 17, 3) := by decide +kernel
theorem dX10_sitterFrom_83 : decode cX10_sitterFrom 83 = .ok (.aload_n 0, 1) := by decide +kernel
theorem dX10_sitterFrom_84 : decode cX10_sitterFrom 84 = .ok (.getfield 10, 3) := by decide +kernel
theorem dX10_sitterFrom_87 : decode cX10_sitterFrom 87 = .ok (.bipush 6, 2) := by decide +kernel
theorem dX10_sitterFrom_89 : decode cX10_sitterFrom 89 = .ok (.iload 7, 2) := by decide +kernel
theorem dX10_sitterFrom_91 : decode cX10_sitterFrom 91 = .ok (.invokevirtual 85, 3) := by decide +kernel
theorem dX10_sitterFrom_94 : decode cX10_sitterFrom 94 = .ok (.ifCond .ne 5, 3) := by decide +kernel
theorem dX10_sitterFrom_97 : decode cX10_sitterFrom 97 = .ok (.iconst 0, 1) := by decide +kernel
theorem dX10_sitterFrom_98 : decode cX10_sitterFrom 98 = .ok (.ireturn, 1) := by decide +kernel
theorem dX10_sitterFrom_99 : decode cX10_sitterFrom 99 = .ok (.aload_n 0, 1) := by decide +kernel
theorem dX10_sitterFrom_100 : decode cX10_sitterFrom 100 = .ok (.getfield 10, 3) := by decide +kernel
theorem dX10_sitterFrom_103 : decode cX10_sitterFrom 103 = .ok (.iload 5, 2) := by decide +kernel
theorem dX10_sitterFrom_105 : decode cX10_sitterFrom 105 = .ok (.iload 6, 2) := by decide +kernel
theorem dX10_sitterFrom_107 : decode cX10_sitterFrom 107 = .ok (.iload 7, 2) := by decide +kernel
theorem dX10_sitterFrom_109 : decode cX10_sitterFrom 109 = .ok (.invokevirtual 93, 3) := by decide +kernel
theorem dX10_sitterFrom_112 : decode cX10_sitterFrom 112 = .ok (.ifCond .lt 7, 3) := by decide +kernel
theorem dX10_sitterFrom_115 : decode cX10_sitterFrom 115 = .ok (.iconst 1, 1) := by decide +kernel
theorem dX10_sitterFrom_116 : decode cX10_sitterFrom 116 = .ok (.goto 4, 3) := by decide +kernel
theorem dX10_sitterFrom_119 : decode cX10_sitterFrom 119 = .ok (.iconst 0, 1) := by decide +kernel
theorem dX10_sitterFrom_120 : decode cX10_sitterFrom 120 = .ok (.ireturn, 1) := by decide +kernel
