theorem dX4_init_0 : decode cX4_init 0 = .ok (.aload_n 0, 1) := by decide +kernel
theorem dX4_init_1 : decode cX4_init 1 = .ok (.invokespecial 3, 3) := by decide +kernel
theorem dX4_init_4 : decode cX4_init 4 = .ok (.aload_n 0, 1) := by decide +kernel
theorem dX4_init_5 : decode cX4_init 5 = .ok (.bipush 64, 2) := by decide +kernel
theorem dX4_init_7 : decode cX4_init 7 = .ok (.newarray .int, 2) := by decide +kernel
theorem dX4_init_9 : decode cX4_init 9 = .ok (.putfield 11, 3) := by decide +kernel
theorem dX4_init_12 : decode cX4_init 12 = .ok (.return_, 1) := by decide +kernel
theorem dX4_addMan_0 : decode cX4_addMan 0 = .ok (.aload_n 0, 1) := by decide +kernel
theorem dX4_addMan_1 : decode cX4_addMan 1 = .ok (.getfield 15, 3) := by decide +kernel
theorem dX4_addMan_4 : decode cX4_addMan 4 = .ok (.bipush 7, 2) := by decide +kernel
theorem dX4_addMan_6 : decode cX4_addMan 6 = .ok (.if_icmp .lt 6, 3) := by decide +kernel
theorem dX4_addMan_9 : decode cX4_addMan 9 = .ok (.bipush (-3), 2) := by decide +kernel
theorem dX4_addMan_11 : decode cX4_addMan 11 = .ok (.ireturn, 1) := by decide +kernel
theorem dX4_addMan_12 : decode cX4_addMan 12 = .ok (.aload_n 0, 1) := by decide +kernel
theorem dX4_addMan_13 : decode cX4_addMan 13 = .ok (.getfield 15, 3) := by decide +kernel
theorem dX4_addMan_16 : decode cX4_addMan 16 = .ok (.istore_n 3, 1) := by decide +kernel
theorem dX4_addMan_17 : decode cX4_addMan 17 = .ok (.aload_n 0, 1) := by decide +kernel
theorem dX4_addMan_18 : decode cX4_addMan 18 = .ok (.dup, 1) := by decide +kernel
theorem dX4_addMan_19 : decode cX4_addMan 19 = .ok (.getfield 15, 3) := by decide +kernel
theorem dX4_addMan_22 : decode cX4_addMan 22 = .ok (.iconst 1, 1) := by decide +kernel
theorem dX4_addMan_23 : decode cX4_addMan 23 = .ok (.iadd, 1) := by decide +kernel
theorem dX4_addMan_24 : decode cX4_addMan 24 = .ok (.putfield 15, 3) := by decide +kernel
theorem dX4_addMan_27 : decode cX4_addMan 27 = .ok (.aload_n 0, 1) := by decide +kernel
theorem dX4_addMan_28 : decode cX4_addMan 28 = .ok (.iload_n 3, 1) := by decide +kernel
theorem dX4_addMan_29 : decode cX4_addMan 29 = .ok (.iconst 0, 1) := by decide +kernel
theorem dX4_addMan_30 : decode cX4_addMan 30 = .ok (.iload_n 1, 1) := by decide +kernel
theorem dX4_addMan_31 : decode cX4_addMan 31 = .ok (.invokevirtual 19, 3) := by decide +kernel
theorem dX4_addMan_34 : decode cX4_addMan 34 = .ok (.aload_n 0, 1) := by decide +kernel
theorem dX4_addMan_35 : decode cX4_addMan 35 = .ok (.iload_n 3, 1) := by decide +kernel
theorem dX4_addMan_36 : decode cX4_addMan 36 = .ok (.iconst 1, 1) := by decide +kernel
theorem dX4_addMan_37 : decode cX4_addMan 37 = .ok (.iload_n 2, 1) := by decide +kernel
theorem dX4_addMan_38 : decode cX4_addMan 38 = .ok (.invokevirtual 19, 3) := by decide +kernel
theorem dX4_addMan_41 : decode cX4_addMan 41 = .ok (.aload_n 0, 1) := by decide +kernel
theorem dX4_addMan_42 : decode cX4_addMan 42 = .ok (.iload_n 3, 1) := by decide +kernel
theorem dX4_addMan_43 : decode cX4_addMan 43 = .ok (.iconst 2, 1) := by decide +kernel
theorem dX4_addMan_44 : decode cX4_addMan 44 = .ok (.iconst 1, 1) := by decide +kernel
theorem dX4_addMan_45 : decode cX4_addMan 45 = .ok (.invokevirtual 19, 3) := by decide +kernel
theorem dX4_addMan_48 : decode cX4_addMan 48 = .ok (.aload_n 0, 1) := by decide +kernel
theorem dX4_addMan_49 : decode cX4_addMan 49 = .ok (.iload_n 3, 1) := by decide +kernel
theorem dX4_addMan_50 : decode cX4_addMan 50 = .ok (.iconst 3, 1) := by decide +kernel
theorem dX4_addMan_51 : decode cX4_addMan 51 = .ok (.bipush 10, 2) := by decide +kernel
theorem dX4_addMan_53 : decode cX4_addMan 53 = .ok (.invokevirtual 19, 3) := by decide +kernel
theorem dX4_addMan_56 : decode cX4_addMan 56 = .ok (.iload_n 3, 1) := by decide +kernel
theorem dX4_addMan_57 : decode cX4_addMan 57 = .ok (.ireturn, 1) := by decide +kernel
theorem dX4_addSitter_0 : decode cX4_addSitter 0 = .ok (.aload_n 0, 1) := by decide +kernel
theorem dX4_addSitter_1 : decode cX4_addSitter 1 = .ok (.getfield 23, 3) := by decide +kernel
theorem dX4_addSitter_4 : decode cX4_addSitter 4 = .ok (.bipush 8, 2) := by decide +kernel
theorem dX4_addSitter_6 : decode cX4_addSitter 6 = .ok (.if_icmp .lt 6, 3) := by decide +kernel
theorem dX4_addSitter_9 : decode cX4_addSitter 9 = .ok (.bipush (-3), 2) := by decide +kernel
theorem dX4_addSitter_11 : decode cX4_addSitter 11 = .ok (.ireturn, 1) := by decide +kernel
theorem dX4_addSitter_12 : decode cX4_addSitter 12 = .ok (.aload_n 0, 1) := by decide +kernel
theorem dX4_addSitter_13 : decode cX4_addSitter 13 = .ok (.getfield 23, 3) := by decide +kernel
theorem dX4_addSitter_16 : decode cX4_addSitter 16 = .ok (.istore 4, 2) := by decide +kernel
theorem dX4_addSitter_18 : decode cX4_addSitter 18 = .ok (.aload_n 0, 1) := by decide +kernel
theorem dX4_addSitter_19 : decode cX4_addSitter 19 = .ok (.dup, 1) := by decide +kernel
theorem dX4_addSitter_20 : decode cX4_addSitter 20 = .ok (.getfield 23, 3) := by decide +kernel
theorem dX4_addSitter_23 : decode cX4_addSitter 23 = .ok (.iconst 1, 1) := by decide +kernel
theorem dX4_addSitter_24 : decode cX4_addSitter 24 = .ok (.iadd, 1) := by decide +kernel
theorem dX4_addSitter_25 : decode cX4_addSitter 25 = .ok (.putfield 23, 3) := by decide +kernel
theorem dX4_addSitter_28 : decode cX4_addSitter 28 = .ok (.aload_n 0, 1) := by decide +kernel
theorem dX4_addSitter_29 : decode cX4_addSitter 29 = .ok (.iload 4, 2) := by decide +kernel
theorem dX4_addSitter_31 : decode cX4_addSitter 31 = .ok (.iconst 4, 1) := by decide +kernel
theorem dX4_addSitter_32 : decode cX4_addSitter 32 = .ok (.iload_n 1, 1) := by decide +kernel
theorem dX4_addSitter_33 : decode cX4_addSitter 33 = .ok (.invokevirtual 19, 3) := by decide +kernel
theorem dX4_addSitter_36 : decode cX4_addSitter 36 = .ok (.aload_n 0, 1) := by decide +kernel
theorem dX4_addSitter_37 : decode cX4_addSitter 37 = .ok (.iload 4, 2) := by decide +kernel
theorem dX4_addSitter_39 : decode cX4_addSitter 39 = .ok (.iconst 5, 1) := by decide +kernel
theorem dX4_addSitter_40 : decode cX4_addSitter 40 = .ok (.iload_n 2, 1) := by decide +kernel
theorem dX4_addSitter_41 : decode cX4_addSitter 41 = .ok (.invokevirtual 19, 3) := by decide +kernel
theorem dX4_addSitter_44 : decode cX4_addSitter 44 = .ok (.aload_n 0, 1) := by decide +kernel
theorem dX4_addSitter_45 : decode cX4_addSitter 45 = .ok (.iload 4, 2) := by decide +kernel
theorem dX4_addSitter_47 : decode cX4_addSitter 47 = .ok (.bipush 6, 2) := by decide +kernel
theorem dX4_addSitter_49 : decode cX4_addSitter 49 = .ok (.iload_n 3, 1) := by decide +kernel
theorem dX4_addSitter_50 : decode cX4_addSitter 50 = .ok (.invokevirtual 19, 3) := by decide +kernel
theorem dX4_addSitter_53 : decode cX4_addSitter 53 = .ok (.iload 4, 2) := by decide +kernel
theorem dX4_addSitter_55 : decode cX4_addSitter 55 = .ok (.ireturn, 1) := by decide +kernel
theorem dX4_has_0 : decode cX4_has 0 = .ok (.iload_n 2, 1) := by decide +kernel
theorem dX4_has_1 : decode cX4_has 1 = .ok (.ifCond .lt 13, 3) := by decide +kernel
theorem dX4_has_4 : decode cX4_has 4 = .ok (.iload_n 2, 1) := by decide +kernel
theorem dX4_has_5 : decode cX4_has 5 = .ok (.bipush 8, 2) := by decide +kernel
theorem dX4_has_7 : decode cX4_has 7 = .ok (.if_icmp .ge 7, 3) := by decide +kernel
theorem dX4_has_10 : decode cX4_has 10 = .ok (.iload_n 1, 1) := by decide +kernel
theorem dX4_has_11 : decode cX4_has 11 = .ok (.ifCond .ge 5, 3) := by decide +kernel
theorem dX4_has_14 : decode cX4_has 14 = .ok (.iconst 0, 1) := by decide +kernel
theorem dX4_has_15 : decode cX4_has 15 = .ok (.ireturn, 1) := by decide +kernel
theorem dX4_has_16 : decode cX4_has 16 = .ok (.iload_n 1, 1) := by decide +kernel
theorem dX4_has_17 : decode cX4_has 17 = .ok (.iload_n 2, 1) := by decide +kernel
theorem dX4_has_18 : decode cX4_has 18 = .ok (.iconst 4, 1) := by decide +kernel
theorem dX4_has_19 : decode cX4_has 19 = .ok (.if_icmp .ge 10, 3) := by decide +kernel
theorem dX4_has_22 : decode cX4_has 22 = .ok (.aload_n 0, 1) := by decide +kernel
theorem dX4_has_23 : decode cX4_has 23 = .ok (.getfield 15, 3) := by decide +kernel
theorem dX4_has_26 : decode cX4_has 26 = .ok (.goto 17, 3) := by decide +kernel
theorem dX4_has_29 : decode cX4_has 29 = .ok (.iload_n 2, 1) := by decide +kernel
theorem dX4_has_30 : decode cX4_has 30 = .ok (.bipush 7, 2) := by decide +kernel
theorem dX4_has_32 : decode cX4_has 32 = .ok (.if_icmp .ge 10, 3) := by decide +kernel
theorem dX4_has_35 : decode cX4_has 35 = .ok (.aload_n 0, 1) := by decide +kernel
theorem dX4_has_36 : decode cX4_has 36 = .ok (.getfield 23, 3) := by decide +kernel
theorem dX4_has_39 : decode cX4_has 39 = .ok (.goto 4, 3) := by decide +kernel
theorem dX4_has_42 : decode cX4_has 42 = .ok (.iconst 1, 1) := by decide +kernel
theorem dX4_has_43 : decode cX4_has 43 = .ok (.if_icmp .ge 7, 3) := by decide +kernel
theorem dX4_has_46 : decode cX4_has 46 = .ok (.iconst 1, 1) := by decide +kernel
theorem dX4_has_47 : decode cX4_has 47 = .ok (.goto 4, 3) := by decide +kernel
theorem dX4_has_50 : decode cX4_has 50 = .ok (.iconst 0, 1) := by decide +kernel
theorem dX4_has_51 : decode cX4_has 51 = .ok (.ireturn, 1) := by decide +kernel
theorem dX4_fits_0 : decode cX4_fits 0 = .ok (.iload_n 1, 1) := by decide +kernel
theorem dX4_fits_1 : decode cX4_fits 1 = .ok (.ifCond .lt 31, 3) := by decide +kernel
theorem dX4_fits_4 : decode cX4_fits 4 = .ok (.iload_n 1, 1) := by decide +kernel
theorem dX4_fits_5 : decode cX4_fits 5 = .ok (.bipush 8, 2) := by decide +kernel
theorem dX4_fits_7 : decode cX4_fits 7 = .ok (.if_icmp .ge 25, 3) := by decide +kernel
theorem dX4_fits_10 : decode cX4_fits 10 = .ok (.iload_n 2, 1) := by decide +kernel
theorem dX4_fits_11 : decode cX4_fits 11 = .ok (.getstatic 26, 3) := by decide +kernel
theorem dX4_fits_14 : decode cX4_fits 14 = .ok (.iload_n 1, 1) := by decide +kernel
theorem dX4_fits_15 : decode cX4_fits 15 = .ok (.iaload, 1) := by decide +kernel
theorem dX4_fits_16 : decode cX4_fits 16 = .ok (.if_icmp .lt 16, 3) := by decide +kernel
theorem dX4_fits_19 : decode cX4_fits 19 = .ok (.iload_n 2, 1) := by decide +kernel
theorem dX4_fits_20 : decode cX4_fits 20 = .ok (.getstatic 29, 3) := by decide +kernel
theorem dX4_fits_23 : decode cX4_fits 23 = .ok (.iload_n 1, 1) := by decide +kernel
theorem dX4_fits_24 : decode cX4_fits 24 = .ok (.iaload, 1) := by decide +kernel
theorem dX4_fits_25 : decode cX4_fits 25 = .ok (.if_icmp .gt 7, 3) := by decide +kernel
theorem dX4_fits_28 : decode cX4_fits 28 = .ok (.iconst 1, 1) := by decide +kernel
theorem dX4_fits_29 : decode cX4_fits 29 = .ok (.goto 4, 3) := by decide +kernel
theorem dX4_fits_32 : decode cX4_fits 32 = .ok (.iconst 0, 1) := by decide +kernel
theorem dX4_fits_33 : decode cX4_fits 33 = .ok (.ireturn, 1) := by decide +kernel
theorem dX4_get_0 : decode cX4_get 0 = .ok (.aload_n 0, 1) := by decide +kernel
theorem dX4_get_1 : decode cX4_get 1 = .ok (.iload_n 1, 1) := by decide +kernel
theorem dX4_get_2 : decode cX4_get 2 = .ok (.iload_n 2, 1) := by decide +kernel
theorem dX4_get_3 : decode cX4_get 3 = .ok (.invokevirtual 32, 3) := by decide +kernel
theorem dX4_get_6 : decode cX4_get 6 = .ok (.ifCond .eq 17, 3) := by decide +kernel
theorem dX4_get_9 : decode cX4_get 9 = .ok (.aload_n 0, 1) := by decide +kernel
theorem dX4_get_10 : decode cX4_get 10 = .ok (.getfield 11, 3) := by decide +kernel
theorem dX4_get_13 : decode cX4_get 13 = .ok (.bipush 8, 2) := by decide +kernel
theorem dX4_get_15 : decode cX4_get 15 = .ok (.iload_n 2, 1) := by decide +kernel
theorem dX4_get_16 : decode cX4_get 16 = .ok (.imul, 1) := by decide +kernel
theorem dX4_get_17 : decode cX4_get 17 = .ok (.iload_n 1, 1) := by decide +kernel
theorem dX4_get_18 : decode cX4_get 18 = .ok (.iadd, 1) := by decide +kernel
theorem dX4_get_19 : decode cX4_get 19 = .ok (.iaload, 1) := by decide +kernel
theorem dX4_get_20 : decode cX4_get 20 = .ok (.goto 4, 3) := by decide +kernel
theorem dX4_get_23 : decode cX4_get 23 = .ok (.iconst 0, 1) := by decide +kernel
theorem dX4_get_24 : decode cX4_get 24 = .ok (.ireturn, 1) := by decide +kernel
theorem dX4_set_0 : decode cX4_set 0 = .ok (.aload_n 0, 1) := by decide +kernel
theorem dX4_set_1 : decode cX4_set 1 = .ok (.iload_n 1, 1) := by decide +kernel
theorem dX4_set_2 : decode cX4_set 2 = .ok (.iload_n 2, 1) := by decide +kernel
theorem dX4_set_3 : decode cX4_set 3 = .ok (.invokevirtual 32, 3) := by decide +kernel
theorem dX4_set_6 : decode cX4_set 6 = .ok (.ifCond .eq 15, 3) := by decide +kernel
theorem dX4_set_9 : decode cX4_set 9 = .ok (.aload_n 0, 1) := by decide +kernel
theorem dX4_set_10 : decode cX4_set 10 = .ok (.getfield 11, 3) := by decide +kernel
theorem dX4_set_13 : decode cX4_set 13 = .ok (.bipush 8, 2) := by decide +kernel
theorem dX4_set_15 : decode cX4_set 15 = .ok (.iload_n 2, 1) := by decide +kernel
theorem dX4_set_16 : decode cX4_set 16 = .ok (.imul, 1) := by decide +kernel
theorem dX4_set_17 : decode cX4_set 17 = .ok (.iload_n 1, 1) := by decide +kernel
theorem dX4_set_18 : decode cX4_set 18 = .ok (.iadd, 1) := by decide +kernel
theorem dX4_set_19 : decode cX4_set 19 = .ok (.iload_n 3, 1) := by decide +kernel
theorem dX4_set_20 : decode cX4_set 20 = .ok (.iastore, 1) := by decide +kernel
theorem dX4_set_21 : decode cX4_set 21 = .ok (.return_, 1) := by decide +kernel
theorem dX4_payOf_0 : decode cX4_payOf 0 = .ok (.iconst 0, 1) := by decide +kernel
theorem dX4_payOf_1 : decode cX4_payOf 1 = .ok (.istore_n 2, 1) := by decide +kernel
theorem dX4_payOf_2 : decode cX4_payOf 2 = .ok (.iconst 0, 1) := by decide +kernel
theorem dX4_payOf_3 : decode cX4_payOf 3 = .ok (.istore_n 3, 1) := by decide +kernel
theorem dX4_payOf_4 : decode cX4_payOf 4 = .ok (.iload_n 3, 1) := by decide +kernel
theorem dX4_payOf_5 : decode cX4_payOf 5 = .ok (.aload_n 0, 1) := by decide +kernel
theorem dX4_payOf_6 : decode cX4_payOf 6 = .ok (.getfield 15, 3) := by decide +kernel
theorem dX4_payOf_9 : decode cX4_payOf 9 = .ok (.if_icmp .ge 26, 3) := by decide +kernel
theorem dX4_payOf_12 : decode cX4_payOf 12 = .ok (.iload_n 1, 1) := by decide +kernel
theorem dX4_payOf_13 : decode cX4_payOf 13 = .ok (.iload_n 3, 1) := by decide +kernel
theorem dX4_payOf_14 : decode cX4_payOf 14 = .ok (.ishr, 1) := by decide +kernel
theorem dX4_payOf_15 : decode cX4_payOf 15 = .ok (.iconst 1, 1) := by decide +kernel
theorem dX4_payOf_16 : decode cX4_payOf 16 = .ok (.iand, 1) := by decide +kernel
theorem dX4_payOf_17 : decode cX4_payOf 17 = .ok (.ifCond .eq 12, 3) := by decide +kernel
theorem dX4_payOf_20 : decode cX4_payOf 20 = .ok (.iload_n 2, 1) := by decide +kernel
theorem dX4_payOf_21 : decode cX4_payOf 21 = .ok (.aload_n 0, 1) := by decide +kernel
theorem dX4_payOf_22 : decode cX4_payOf 22 = .ok (.iload_n 3, 1) := by decide +kernel
theorem dX4_payOf_23 : decode cX4_payOf 23 = .ok (.iconst 3, 1) := by decide +kernel
theorem dX4_payOf_24 : decode cX4_payOf 24 = .ok (.invokevirtual 36, 3) := by decide +kernel
theorem dX4_payOf_27 : decode cX4_payOf 27 = .ok (.iadd, 1) := by decide +kernel
theorem dX4_payOf_28 : decode cX4_payOf 28 = .ok (.istore_n 2, 1) := by decide +kernel
theorem dX4_payOf_29 : decode cX4_payOf 29 = .ok (.iinc 3 1, 3) := by decide +kernel
theorem dX4_payOf_32 : decode cX4_payOf 32 = .ok (.goto (-28), 3) := by decide +kernel
theorem dX4_payOf_35 : decode cX4_payOf 35 = .ok (.iload_n 2, 1) := by decide +kernel
theorem dX4_payOf_36 : decode cX4_payOf 36 = .ok (.ireturn, 1) := by decide +kernel
theorem dX4_everyone_0 : decode cX4_everyone 0 = .ok (.iconst 1, 1) := by decide +kernel
theorem dX4_everyone_1 : decode cX4_everyone 1 = .ok (.aload_n 0, 1) := by decide +kernel
theorem dX4_everyone_2 : decode cX4_everyone 2 = .ok (.getfield 15, 3) := by decide +kernel
theorem dX4_everyone_5 : decode cX4_everyone 5 = .ok (.ishl, 1) := by decide +kernel
theorem dX4_everyone_6 : decode cX4_everyone 6 = .ok (.iconst 1, 1) := by decide +kernel
theorem dX4_everyone_7 : decode cX4_everyone 7 = .ok (.isub, 1) := by decide +kernel
theorem dX4_everyone_8 : decode cX4_everyone 8 = .ok (.ireturn, 1) := by decide +kernel
