theorem dX5_init_0 : decode cX5_init 0 = .ok (.aload_n 0, 1) := by decide +kernel
theorem dX5_init_1 : decode cX5_init 1 = .ok (.invokespecial 3, 3) := by decide +kernel
theorem dX5_init_4 : decode cX5_init 4 = .ok (.aload_n 0, 1) := by decide +kernel
theorem dX5_init_5 : decode cX5_init 5 = .ok (.aload_n 1, 1) := by decide +kernel
theorem dX5_init_6 : decode cX5_init 6 = .ok (.putfield 9, 3) := by decide +kernel
theorem dX5_init_9 : decode cX5_init 9 = .ok (.aload_n 0, 1) := by decide +kernel
theorem dX5_init_10 : decode cX5_init 10 = .ok (.aload_n 2, 1) := by decide +kernel
theorem dX5_init_11 : decode cX5_init 11 = .ok (.putfield 15, 3) := by decide +kernel
theorem dX5_init_14 : decode cX5_init 14 = .ok (.return_, 1) := by decide +kernel
theorem dX5_ifHe_0 : decode cX5_ifHe 0 = .ok (.aload_n 0, 1) := by decide +kernel
theorem dX5_ifHe_1 : decode cX5_ifHe 1 = .ok (.iload_n 2, 1) := by decide +kernel
theorem dX5_ifHe_2 : decode cX5_ifHe 2 = .ok (.iload_n 3, 1) := by decide +kernel
theorem dX5_ifHe_3 : decode cX5_ifHe 3 = .ok (.aload_n 0, 1) := by decide +kernel
theorem dX5_ifHe_4 : decode cX5_ifHe 4 = .ok (.getfield 9, 3) := by decide +kernel
theorem dX5_ifHe_7 : decode cX5_ifHe 7 = .ok (.iload_n 1, 1) := by decide +kernel
theorem dX5_ifHe_8 : decode cX5_ifHe 8 = .ok (.iconst 2, 1) := by decide +kernel
theorem dX5_ifHe_9 : decode cX5_ifHe 9 = .ok (.invokevirtual 19, 3) := by decide +kernel
theorem dX5_ifHe_12 : decode cX5_ifHe 12 = .ok (.iload_n 1, 1) := by decide +kernel
theorem dX5_ifHe_13 : decode cX5_ifHe 13 = .ok (.iload 4, 2) := by decide +kernel
theorem dX5_ifHe_15 : decode cX5_ifHe 15 = .ok (.iload 5, 2) := by decide +kernel
theorem dX5_ifHe_17 : decode cX5_ifHe 17 = .ok (.invokevirtual 25, 3) := by decide +kernel
theorem dX5_ifHe_20 : decode cX5_ifHe 20 = .ok (.ireturn, 1) := by decide +kernel
theorem dX5_cast_0 : decode cX5_cast 0 = .ok (.iload 6, 2) := by decide +kernel
theorem dX5_cast_2 : decode cX5_cast 2 = .ok (.invokestatic 29, 3) := by decide +kernel
theorem dX5_cast_5 : decode cX5_cast 5 = .ok (.ifCond .ne 5, 3) := by decide +kernel
theorem dX5_cast_8 : decode cX5_cast 8 = .ok (.iconst 0, 1) := by decide +kernel
theorem dX5_cast_9 : decode cX5_cast 9 = .ok (.ireturn, 1) := by decide +kernel
theorem dX5_cast_10 : decode cX5_cast 10 = .ok (.iload 5, 2) := by decide +kernel
theorem dX5_cast_12 : decode cX5_cast 12 = .ok (.bipush 12, 2) := by decide +kernel
theorem dX5_cast_14 : decode cX5_cast 14 = .ok (.irem, 1) := by decide +kernel
theorem dX5_cast_15 : decode cX5_cast 15 = .ok (.iload_n 1, 1) := by decide +kernel
theorem dX5_cast_16 : decode cX5_cast 16 = .ok (.bipush 12, 2) := by decide +kernel
theorem dX5_cast_18 : decode cX5_cast 18 = .ok (.irem, 1) := by decide +kernel
theorem dX5_cast_19 : decode cX5_cast 19 = .ok (.isub, 1) := by decide +kernel
theorem dX5_cast_20 : decode cX5_cast 20 = .ok (.istore 7, 2) := by decide +kernel
theorem dX5_cast_22 : decode cX5_cast 22 = .ok (.iload 5, 2) := by decide +kernel
theorem dX5_cast_24 : decode cX5_cast 24 = .ok (.bipush 12, 2) := by decide +kernel
theorem dX5_cast_26 : decode cX5_cast 26 = .ok (.idiv, 1) := by decide +kernel
theorem dX5_cast_27 : decode cX5_cast 27 = .ok (.iload_n 1, 1) := by decide +kernel
theorem dX5_cast_28 : decode cX5_cast 28 = .ok (.bipush 12, 2) := by decide +kernel
theorem dX5_cast_30 : decode cX5_cast 30 = .ok (.idiv, 1) := by decide +kernel
theorem dX5_cast_31 : decode cX5_cast 31 = .ok (.isub, 1) := by decide +kernel
theorem dX5_cast_32 : decode cX5_cast 32 = .ok (.istore 8, 2) := by decide +kernel
theorem dX5_cast_34 : decode cX5_cast 34 = .ok (.iload 6, 2) := by decide +kernel
theorem dX5_cast_36 : decode cX5_cast 36 = .ok (.iconst 4, 1) := by decide +kernel
theorem dX5_cast_37 : decode cX5_cast 37 = .ok (.if_icmp .lt 14, 3) := by decide +kernel
theorem dX5_cast_40 : decode cX5_cast 40 = .ok (.iload 6, 2) := by decide +kernel
theorem dX5_cast_42 : decode cX5_cast 42 = .ok (.bipush 8, 2) := by decide +kernel
theorem dX5_cast_44 : decode cX5_cast 44 = .ok (.if_icmp .ge 7, 3) := by decide +kernel
theorem dX5_cast_47 : decode cX5_cast 47 = .ok (.iconst 1, 1) := by decide +kernel
theorem dX5_cast_48 : decode cX5_cast 48 = .ok (.goto 4, 3) := by decide +kernel
theorem dX5_cast_51 : decode cX5_cast 51 = .ok (.iconst 0, 1) := by decide +kernel
theorem dX5_cast_52 : decode cX5_cast 52 = .ok (.istore 9, 2) := by decide +kernel
theorem dX5_cast_54 : decode cX5_cast 54 = .ok (.iload 9, 2) := by decide +kernel
theorem dX5_cast_56 : decode cX5_cast 56 = .ok (.ifCond .eq 9, 3) := by decide +kernel
theorem dX5_cast_59 : decode cX5_cast 59 = .ok (.iload 8, 2) := by decide +kernel
theorem dX5_cast_61 : decode cX5_cast 61 = .ok (.ineg, 1) := by decide +kernel
theorem dX5_cast_62 : decode cX5_cast 62 = .ok (.goto 17, 3) := by decide +kernel
theorem dX5_cast_65 : decode cX5_cast 65 = .ok (.iload 6, 2) := by decide +kernel
theorem dX5_cast_67 : decode cX5_cast 67 = .ok (.iconst 4, 1) := by decide +kernel
theorem dX5_cast_68 : decode cX5_cast 68 = .ok (.if_icmp .ge 9, 3) := by decide +kernel
theorem dX5_cast_71 : decode cX5_cast 71 = .ok (.iload 7, 2) := by decide +kernel
theorem dX5_cast_73 : decode cX5_cast 73 = .ok (.ineg, 1) := by decide +kernel
theorem dX5_cast_74 : decode cX5_cast 74 = .ok (.goto 5, 3) := by decide +kernel
theorem dX5_cast_77 : decode cX5_cast 77 = .ok (.iload 7, 2) := by decide +kernel
theorem dX5_cast_79 : decode cX5_cast 79 = .ok (.istore 10, 2) := by decide +kernel
theorem dX5_cast_81 : decode cX5_cast 81 = .ok (.iload 9, 2) := by decide +kernel
theorem dX5_cast_83 : decode cX5_cast 83 = .ok (.ifCond .eq 8, 3) := by decide +kernel
theorem dX5_cast_86 : decode cX5_cast 86 = .ok (.iload 7, 2) := by decide +kernel
theorem dX5_cast_88 : decode cX5_cast 88 = .ok (.goto 5, 3) := by decide +kernel
theorem dX5_cast_91 : decode cX5_cast 91 = .ok (.iload 8, 2) := by decide +kernel
theorem dX5_cast_93 : decode cX5_cast 93 = .ok (.invokestatic 33, 3) := by decide +kernel
theorem dX5_cast_96 : decode cX5_cast 96 = .ok (.istore 11, 2) := by decide +kernel
theorem dX5_cast_98 : decode cX5_cast 98 = .ok (.iload 10, 2) := by decide +kernel
theorem dX5_cast_100 : decode cX5_cast 100 = .ok (.iconst 1, 1) := by decide +kernel
theorem dX5_cast_101 : decode cX5_cast 101 = .ok (.if_icmp .lt 31, 3) := by decide +kernel
theorem dX5_cast_104 : decode cX5_cast 104 = .ok (.iload 10, 2) := by decide +kernel
theorem dX5_cast_106 : decode cX5_cast 106 = .ok (.getstatic 39, 3) := by decide +kernel
theorem dX5_cast_109 : decode cX5_cast 109 = .ok (.iload 6, 2) := by decide +kernel
theorem dX5_cast_111 : decode cX5_cast 111 = .ok (.iaload, 1) := by decide +kernel
theorem dX5_cast_112 : decode cX5_cast 112 = .ok (.iload_n 2, 1) := by decide +kernel
theorem dX5_cast_113 : decode cX5_cast 113 = .ok (.iconst 2, 1) := by decide +kernel
theorem dX5_cast_114 : decode cX5_cast 114 = .ok (.if_icmp .ne 7, 3) := by decide +kernel
theorem dX5_cast_117 : decode cX5_cast 117 = .ok (.iconst 1, 1) := by decide +kernel
theorem dX5_cast_118 : decode cX5_cast 118 = .ok (.goto 4, 3) := by decide +kernel
theorem dX5_cast_121 : decode cX5_cast 121 = .ok (.iconst 0, 1) := by decide +kernel
theorem dX5_cast_122 : decode cX5_cast 122 = .ok (.iadd, 1) := by decide +kernel
theorem dX5_cast_123 : decode cX5_cast 123 = .ok (.if_icmp .gt 9, 3) := by decide +kernel
theorem dX5_cast_126 : decode cX5_cast 126 = .ok (.iload 11, 2) := by decide +kernel
theorem dX5_cast_128 : decode cX5_cast 128 = .ok (.iload_n 3, 1) := by decide +kernel
theorem dX5_cast_129 : decode cX5_cast 129 = .ok (.if_icmp .le 5, 3) := by decide +kernel
theorem dX5_cast_132 : decode cX5_cast 132 = .ok (.iconst 0, 1) := by decide +kernel
theorem dX5_cast_133 : decode cX5_cast 133 = .ok (.ireturn, 1) := by decide +kernel
theorem dX5_cast_134 : decode cX5_cast 134 = .ok (.aload_n 0, 1) := by decide +kernel
theorem dX5_cast_135 : decode cX5_cast 135 = .ok (.getfield 9, 3) := by decide +kernel
theorem dX5_cast_138 : decode cX5_cast 138 = .ok (.iconst 0, 1) := by decide +kernel
theorem dX5_cast_139 : decode cX5_cast 139 = .ok (.bipush 7, 2) := by decide +kernel
theorem dX5_cast_141 : decode cX5_cast 141 = .ok (.invokevirtual 19, 3) := by decide +kernel
theorem dX5_cast_144 : decode cX5_cast 144 = .ok (.istore 12, 2) := by decide +kernel
theorem dX5_cast_146 : decode cX5_cast 146 = .ok (.bipush 6, 2) := by decide +kernel
theorem dX5_cast_148 : decode cX5_cast 148 = .ok (.iconst 2, 1) := by decide +kernel
theorem dX5_cast_149 : decode cX5_cast 149 = .ok (.iload_n 2, 1) := by decide +kernel
theorem dX5_cast_150 : decode cX5_cast 150 = .ok (.imul, 1) := by decide +kernel
theorem dX5_cast_151 : decode cX5_cast 151 = .ok (.iadd, 1) := by decide +kernel
theorem dX5_cast_152 : decode cX5_cast 152 = .ok (.iload 10, 2) := by decide +kernel
theorem dX5_cast_154 : decode cX5_cast 154 = .ok (.isub, 1) := by decide +kernel
theorem dX5_cast_155 : decode cX5_cast 155 = .ok (.iload 11, 2) := by decide +kernel
theorem dX5_cast_157 : decode cX5_cast 157 = .ok (.isub, 1) := by decide +kernel
theorem dX5_cast_158 : decode cX5_cast 158 = .ok (.iload 12, 2) := by decide +kernel
theorem dX5_cast_160 : decode cX5_cast 160 = .ok (.isub, 1) := by decide +kernel
theorem dX5_cast_161 : decode cX5_cast 161 = .ok (.istore 13, 2) := by decide +kernel
theorem dX5_cast_163 : decode cX5_cast 163 = .ok (.aload_n 0, 1) := by decide +kernel
theorem dX5_cast_164 : decode cX5_cast 164 = .ok (.getfield 15, 3) := by decide +kernel
theorem dX5_cast_167 : decode cX5_cast 167 = .ok (.invokevirtual 43, 3) := by decide +kernel
theorem dX5_cast_170 : decode cX5_cast 170 = .ok (.ifCond .eq 23, 3) := by decide +kernel
theorem dX5_cast_173 : decode cX5_cast 173 = .ok (.aload_n 0, 1) := by decide +kernel
theorem dX5_cast_174 : decode cX5_cast 174 = .ok (.getfield 15, 3) := by decide +kernel
theorem dX5_cast_177 : decode cX5_cast 177 = .ok (.iload_n 2, 1) := by decide +kernel
theorem dX5_cast_178 : decode cX5_cast 178 = .ok (.iload 10, 2) := by decide +kernel
theorem dX5_cast_180 : decode cX5_cast 180 = .ok (.iload 11, 2) := by decide +kernel
theorem dX5_cast_182 : decode cX5_cast 182 = .ok (.iload 12, 2) := by decide +kernel
theorem dX5_cast_184 : decode cX5_cast 184 = .ok (.iload 6, 2) := by decide +kernel
theorem dX5_cast_186 : decode cX5_cast 186 = .ok (.iload 4, 2) := by decide +kernel
theorem dX5_cast_188 : decode cX5_cast 188 = .ok (.invokevirtual 49, 3) := by decide +kernel
theorem dX5_cast_191 : decode cX5_cast 191 = .ok (.istore 13, 2) := by decide +kernel
theorem dX5_cast_193 : decode cX5_cast 193 = .ok (.iconst 0, 1) := by decide +kernel
theorem dX5_cast_194 : decode cX5_cast 194 = .ok (.bipush 12, 2) := by decide +kernel
theorem dX5_cast_196 : decode cX5_cast 196 = .ok (.iload 13, 2) := by decide +kernel
theorem dX5_cast_198 : decode cX5_cast 198 = .ok (.invokestatic 52, 3) := by decide +kernel
theorem dX5_cast_201 : decode cX5_cast 201 = .ok (.invokestatic 55, 3) := by decide +kernel
theorem dX5_cast_204 : decode cX5_cast 204 = .ok (.ireturn, 1) := by decide +kernel
theorem dX5_byMan_0 : decode cX5_byMan 0 = .ok (.iload_n 1, 1) := by decide +kernel
theorem dX5_byMan_1 : decode cX5_byMan 1 = .ok (.aload_n 0, 1) := by decide +kernel
theorem dX5_byMan_2 : decode cX5_byMan 2 = .ok (.getfield 9, 3) := by decide +kernel
theorem dX5_byMan_5 : decode cX5_byMan 5 = .ok (.getfield 58, 3) := by decide +kernel
theorem dX5_byMan_8 : decode cX5_byMan 8 = .ok (.if_icmp .lt 5, 3) := by decide +kernel
theorem dX5_byMan_11 : decode cX5_byMan 11 = .ok (.iconst 0, 1) := by decide +kernel
theorem dX5_byMan_12 : decode cX5_byMan 12 = .ok (.ireturn, 1) := by decide +kernel
theorem dX5_byMan_13 : decode cX5_byMan 13 = .ok (.aload_n 0, 1) := by decide +kernel
theorem dX5_byMan_14 : decode cX5_byMan 14 = .ok (.getfield 9, 3) := by decide +kernel
theorem dX5_byMan_17 : decode cX5_byMan 17 = .ok (.iload_n 1, 1) := by decide +kernel
theorem dX5_byMan_18 : decode cX5_byMan 18 = .ok (.iconst 0, 1) := by decide +kernel
theorem dX5_byMan_19 : decode cX5_byMan 19 = .ok (.invokevirtual 19, 3) := by decide +kernel
theorem dX5_byMan_22 : decode cX5_byMan 22 = .ok (.istore 4, 2) := by decide +kernel
theorem dX5_byMan_24 : decode cX5_byMan 24 = .ok (.aload_n 0, 1) := by decide +kernel
theorem dX5_byMan_25 : decode cX5_byMan 25 = .ok (.iload 4, 2) := by decide +kernel
theorem dX5_byMan_27 : decode cX5_byMan 27 = .ok (.aload_n 0, 1) := by decide +kernel
theorem dX5_byMan_28 : decode cX5_byMan 28 = .ok (.getfield 9, 3) := by decide +kernel
theorem dX5_byMan_31 : decode cX5_byMan 31 = .ok (.iload_n 1, 1) := by decide +kernel
theorem dX5_byMan_32 : decode cX5_byMan 32 = .ok (.iconst 1, 1) := by decide +kernel
theorem dX5_byMan_33 : decode cX5_byMan 33 = .ok (.invokevirtual 19, 3) := by decide +kernel
theorem dX5_byMan_36 : decode cX5_byMan 36 = .ok (.aload_n 0, 1) := by decide +kernel
theorem dX5_byMan_37 : decode cX5_byMan 37 = .ok (.getfield 9, 3) := by decide +kernel
theorem dX5_byMan_40 : decode cX5_byMan 40 = .ok (.iload_n 1, 1) := by decide +kernel
theorem dX5_byMan_41 : decode cX5_byMan 41 = .ok (.iconst 2, 1) := by decide +kernel
theorem dX5_byMan_42 : decode cX5_byMan 42 = .ok (.invokevirtual 19, 3) := by decide +kernel
theorem dX5_byMan_45 : decode cX5_byMan 45 = .ok (.iload_n 1, 1) := by decide +kernel
theorem dX5_byMan_46 : decode cX5_byMan 46 = .ok (.iload_n 2, 1) := by decide +kernel
theorem dX5_byMan_47 : decode cX5_byMan 47 = .ok (.iload_n 3, 1) := by decide +kernel
theorem dX5_byMan_48 : decode cX5_byMan 48 = .ok (.invokevirtual 25, 3) := by decide +kernel
theorem dX5_byMan_51 : decode cX5_byMan 51 = .ok (.ireturn, 1) := by decide +kernel
theorem dX5_byAll_0 : decode cX5_byAll 0 = .ok (.iconst 0, 1) := by decide +kernel
theorem dX5_byAll_1 : decode cX5_byAll 1 = .ok (.istore_n 3, 1) := by decide +kernel
theorem dX5_byAll_2 : decode cX5_byAll 2 = .ok (.iconst 0, 1) := by decide +kernel
theorem dX5_byAll_3 : decode cX5_byAll 3 = .ok (.istore 4, 2) := by decide +kernel
theorem dX5_byAll_5 : decode cX5_byAll 5 = .ok (.iload 4, 2) := by decide +kernel
theorem dX5_byAll_7 : decode cX5_byAll 7 = .ok (.aload_n 0, 1) := by decide +kernel
theorem dX5_byAll_8 : decode cX5_byAll 8 = .ok (.getfield 9, 3) := by decide +kernel
theorem dX5_byAll_11 : decode cX5_byAll 11 = .ok (.getfield 58, 3) := by decide +kernel
theorem dX5_byAll_14 : decode cX5_byAll 14 = .ok (.if_icmp .ge 20, 3) := by decide +kernel
theorem dX5_byAll_17 : decode cX5_byAll 17 = .ok (.iload_n 3, 1) := by decide +kernel
theorem dX5_byAll_18 : decode cX5_byAll 18 = .ok (.aload_n 0, 1) := by decide +kernel
theorem dX5_byAll_19 : decode cX5_byAll 19 = .ok (.iload 4, 2) := by decide +kernel
theorem dX5_byAll_21 : decode cX5_byAll 21 = .ok (.iload_n 1, 1) := by decide +kernel
theorem dX5_byAll_22 : decode cX5_byAll 22 = .ok (.iload_n 2, 1) := by decide +kernel
theorem dX5_byAll_23 : decode cX5_byAll 23 = .ok (.invokevirtual 62, 3) := by decide +kernel
theorem dX5_byAll_26 : decode cX5_byAll 26 = .ok (.iadd, 1) := by decide +kernel
theorem dX5_byAll_27 : decode cX5_byAll 27 = .ok (.istore_n 3, 1) := by decide +kernel
theorem dX5_byAll_28 : decode cX5_byAll 28 = .ok (.iinc 4 1, 3) := by decide +kernel
theorem dX5_byAll_31 : decode cX5_byAll 31 = .ok (.goto (-26), 3) := by decide +kernel
theorem dX5_byAll_34 : decode cX5_byAll 34 = .ok (.iload_n 3, 1) := by decide +kernel
theorem dX5_byAll_35 : decode cX5_byAll 35 = .ok (.ireturn, 1) := by decide +kernel
