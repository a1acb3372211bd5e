theorem dX3_init_0 : decode cX3_init 0 = .ok (.aload_n 0, 1) := by decide +kernel
theorem dX3_init_1 : decode cX3_init 1 = .ok (.invokespecial 3, 3) := by decide +kernel
theorem dX3_init_4 : decode cX3_init 4 = .ok (.aload_n 0, 1) := by decide +kernel
theorem dX3_init_5 : decode cX3_init 5 = .ok (.bipush 120, 2) := by decide +kernel
theorem dX3_init_7 : decode cX3_init 7 = .ok (.newarray .int, 2) := by decide +kernel
theorem dX3_init_9 : decode cX3_init 9 = .ok (.putfield 11, 3) := by decide +kernel
theorem dX3_init_12 : decode cX3_init 12 = .ok (.aload_n 0, 1) := by decide +kernel
theorem dX3_init_13 : decode cX3_init 13 = .ok (.sipush 128, 3) := by decide +kernel
theorem dX3_init_16 : decode cX3_init 16 = .ok (.newarray .int, 2) := by decide +kernel
theorem dX3_init_18 : decode cX3_init 18 = .ok (.putfield 15, 3) := by decide +kernel
theorem dX3_init_21 : decode cX3_init 21 = .ok (.aload_n 0, 1) := by decide +kernel
theorem dX3_init_22 : decode cX3_init 22 = .ok (.sipush 128, 3) := by decide +kernel
theorem dX3_init_25 : decode cX3_init 25 = .ok (.newarray .int, 2) := by decide +kernel
theorem dX3_init_27 : decode cX3_init 27 = .ok (.putfield 18, 3) := by decide +kernel
theorem dX3_init_30 : decode cX3_init 30 = .ok (.aload_n 0, 1) := by decide +kernel
theorem dX3_init_31 : decode cX3_init 31 = .ok (.bipush 64, 2) := by decide +kernel
theorem dX3_init_33 : decode cX3_init 33 = .ok (.newarray .int, 2) := by decide +kernel
theorem dX3_init_35 : decode cX3_init 35 = .ok (.putfield 21, 3) := by decide +kernel
theorem dX3_init_38 : decode cX3_init 38 = .ok (.aload_n 0, 1) := by decide +kernel
theorem dX3_init_39 : decode cX3_init 39 = .ok (.bipush 6, 2) := by decide +kernel
theorem dX3_init_41 : decode cX3_init 41 = .ok (.newarray .int, 2) := by decide +kernel
theorem dX3_init_43 : decode cX3_init 43 = .ok (.putfield 24, 3) := by decide +kernel
theorem dX3_init_46 : decode cX3_init 46 = .ok (.return_, 1) := by decide +kernel
theorem dX3_take_0 : decode cX3_take 0 = .ok (.aload_n 0, 1) := by decide +kernel
theorem dX3_take_1 : decode cX3_take 1 = .ok (.getfield 27, 3) := by decide +kernel
theorem dX3_take_4 : decode cX3_take 4 = .ok (.bipush 120, 2) := by decide +kernel
theorem dX3_take_6 : decode cX3_take 6 = .ok (.if_icmp .lt 6, 3) := by decide +kernel
theorem dX3_take_9 : decode cX3_take 9 = .ok (.bipush (-3), 2) := by decide +kernel
theorem dX3_take_11 : decode cX3_take 11 = .ok (.ireturn, 1) := by decide +kernel
theorem dX3_take_12 : decode cX3_take 12 = .ok (.aload_n 0, 1) := by decide +kernel
theorem dX3_take_13 : decode cX3_take 13 = .ok (.getfield 11, 3) := by decide +kernel
theorem dX3_take_16 : decode cX3_take 16 = .ok (.aload_n 0, 1) := by decide +kernel
theorem dX3_take_17 : decode cX3_take 17 = .ok (.getfield 27, 3) := by decide +kernel
theorem dX3_take_20 : decode cX3_take 20 = .ok (.iload_n 1, 1) := by decide +kernel
theorem dX3_take_21 : decode cX3_take 21 = .ok (.iastore, 1) := by decide +kernel
theorem dX3_take_22 : decode cX3_take 22 = .ok (.aload_n 0, 1) := by decide +kernel
theorem dX3_take_23 : decode cX3_take 23 = .ok (.dup, 1) := by decide +kernel
theorem dX3_take_24 : decode cX3_take 24 = .ok (.getfield 27, 3) := by decide +kernel
theorem dX3_take_27 : decode cX3_take 27 = .ok (.iconst 1, 1) := by decide +kernel
theorem dX3_take_28 : decode cX3_take 28 = .ok (.iadd, 1) := by decide +kernel
theorem dX3_take_29 : decode cX3_take 29 = .ok (.putfield 27, 3) := by decide +kernel
theorem dX3_take_32 : decode cX3_take 32 = .ok (.aload_n 0, 1) := by decide +kernel
theorem dX3_take_33 : decode cX3_take 33 = .ok (.getfield 27, 3) := by decide +kernel
theorem dX3_take_36 : decode cX3_take 36 = .ok (.ireturn, 1) := by decide +kernel
theorem dX3_learn_0 : decode cX3_learn 0 = .ok (.aload_n 0, 1) := by decide +kernel
theorem dX3_learn_1 : decode cX3_learn 1 = .ok (.iconst 0, 1) := by decide +kernel
theorem dX3_learn_2 : decode cX3_learn 2 = .ok (.putfield 31, 3) := by decide +kernel
theorem dX3_learn_5 : decode cX3_learn 5 = .ok (.aload_n 0, 1) := by decide +kernel
theorem dX3_learn_6 : decode cX3_learn 6 = .ok (.iconst 0, 1) := by decide +kernel
theorem dX3_learn_7 : decode cX3_learn 7 = .ok (.putfield 34, 3) := by decide +kernel
theorem dX3_learn_10 : decode cX3_learn 10 = .ok (.aload_n 0, 1) := by decide +kernel
theorem dX3_learn_11 : decode cX3_learn 11 = .ok (.invokevirtual 37, 3) := by decide +kernel
theorem dX3_learn_14 : decode cX3_learn 14 = .ok (.istore_n 1, 1) := by decide +kernel
theorem dX3_learn_15 : decode cX3_learn 15 = .ok (.aload_n 0, 1) := by decide +kernel
theorem dX3_learn_16 : decode cX3_learn 16 = .ok (.iconst 0, 1) := by decide +kernel
theorem dX3_learn_17 : decode cX3_learn 17 = .ok (.putfield 27, 3) := by decide +kernel
theorem dX3_learn_20 : decode cX3_learn 20 = .ok (.iload_n 1, 1) := by decide +kernel
theorem dX3_learn_21 : decode cX3_learn 21 = .ok (.ifCond .ne 8, 3) := by decide +kernel
theorem dX3_learn_24 : decode cX3_learn 24 = .ok (.aload_n 0, 1) := by decide +kernel
theorem dX3_learn_25 : decode cX3_learn 25 = .ok (.getfield 31, 3) := by decide +kernel
theorem dX3_learn_28 : decode cX3_learn 28 = .ok (.ireturn, 1) := by decide +kernel
theorem dX3_learn_29 : decode cX3_learn 29 = .ok (.aload_n 0, 1) := by decide +kernel
theorem dX3_learn_30 : decode cX3_learn 30 = .ok (.getfield 15, 3) := by decide +kernel
theorem dX3_learn_33 : decode cX3_learn 33 = .ok (.astore_n 2, 1) := by decide +kernel
theorem dX3_learn_34 : decode cX3_learn 34 = .ok (.aload_n 0, 1) := by decide +kernel
theorem dX3_learn_35 : decode cX3_learn 35 = .ok (.aload_n 0, 1) := by decide +kernel
theorem dX3_learn_36 : decode cX3_learn 36 = .ok (.getfield 18, 3) := by decide +kernel
theorem dX3_learn_39 : decode cX3_learn 39 = .ok (.putfield 15, 3) := by decide +kernel
theorem dX3_learn_42 : decode cX3_learn 42 = .ok (.aload_n 0, 1) := by decide +kernel
theorem dX3_learn_43 : decode cX3_learn 43 = .ok (.aload_n 2, 1) := by decide +kernel
theorem dX3_learn_44 : decode cX3_learn 44 = .ok (.putfield 18, 3) := by decide +kernel
theorem dX3_learn_47 : decode cX3_learn 47 = .ok (.aload_n 0, 1) := by decide +kernel
theorem dX3_learn_48 : decode cX3_learn 48 = .ok (.aload_n 0, 1) := by decide +kernel
theorem dX3_learn_49 : decode cX3_learn 49 = .ok (.getfield 34, 3) := by decide +kernel
theorem dX3_learn_52 : decode cX3_learn 52 = .ok (.putfield 41, 3) := by decide +kernel
theorem dX3_learn_55 : decode cX3_learn 55 = .ok (.aload_n 0, 1) := by decide +kernel
theorem dX3_learn_56 : decode cX3_learn 56 = .ok (.iconst 1, 1) := by decide +kernel
theorem dX3_learn_57 : decode cX3_learn 57 = .ok (.putfield 44, 3) := by decide +kernel
theorem dX3_learn_60 : decode cX3_learn 60 = .ok (.iconst (-1), 1) := by decide +kernel
theorem dX3_learn_61 : decode cX3_learn 61 = .ok (.ireturn, 1) := by decide +kernel
theorem dX3_isTold_0 : decode cX3_isTold 0 = .ok (.aload_n 0, 1) := by decide +kernel
theorem dX3_isTold_1 : decode cX3_isTold 1 = .ok (.getfield 44, 3) := by decide +kernel
theorem dX3_isTold_4 : decode cX3_isTold 4 = .ok (.ireturn, 1) := by decide +kernel
theorem dX3_value_0 : decode cX3_value 0 = .ok (.aload_n 0, 1) := by decide +kernel
theorem dX3_value_1 : decode cX3_value 1 = .ok (.getfield 24, 3) := by decide +kernel
theorem dX3_value_4 : decode cX3_value 4 = .ok (.iconst 0, 1) := by decide +kernel
theorem dX3_value_5 : decode cX3_value 5 = .ok (.iload_n 1, 1) := by decide +kernel
theorem dX3_value_6 : decode cX3_value 6 = .ok (.iastore, 1) := by decide +kernel
theorem dX3_value_7 : decode cX3_value 7 = .ok (.aload_n 0, 1) := by decide +kernel
theorem dX3_value_8 : decode cX3_value 8 = .ok (.getfield 24, 3) := by decide +kernel
theorem dX3_value_11 : decode cX3_value 11 = .ok (.iconst 1, 1) := by decide +kernel
theorem dX3_value_12 : decode cX3_value 12 = .ok (.iload_n 2, 1) := by decide +kernel
theorem dX3_value_13 : decode cX3_value 13 = .ok (.iastore, 1) := by decide +kernel
theorem dX3_value_14 : decode cX3_value 14 = .ok (.aload_n 0, 1) := by decide +kernel
theorem dX3_value_15 : decode cX3_value 15 = .ok (.getfield 24, 3) := by decide +kernel
theorem dX3_value_18 : decode cX3_value 18 = .ok (.iconst 2, 1) := by decide +kernel
theorem dX3_value_19 : decode cX3_value 19 = .ok (.iload_n 3, 1) := by decide +kernel
theorem dX3_value_20 : decode cX3_value 20 = .ok (.iastore, 1) := by decide +kernel
theorem dX3_value_21 : decode cX3_value 21 = .ok (.aload_n 0, 1) := by decide +kernel
theorem dX3_value_22 : decode cX3_value 22 = .ok (.getfield 24, 3) := by decide +kernel
theorem dX3_value_25 : decode cX3_value 25 = .ok (.iconst 3, 1) := by decide +kernel
theorem dX3_value_26 : decode cX3_value 26 = .ok (.iload 4, 2) := by decide +kernel
theorem dX3_value_28 : decode cX3_value 28 = .ok (.iastore, 1) := by decide +kernel
theorem dX3_value_29 : decode cX3_value 29 = .ok (.aload_n 0, 1) := by decide +kernel
theorem dX3_value_30 : decode cX3_value 30 = .ok (.getfield 24, 3) := by decide +kernel
theorem dX3_value_33 : decode cX3_value 33 = .ok (.iconst 4, 1) := by decide +kernel
theorem dX3_value_34 : decode cX3_value 34 = .ok (.iload 5, 2) := by decide +kernel
theorem dX3_value_36 : decode cX3_value 36 = .ok (.iastore, 1) := by decide +kernel
theorem dX3_value_37 : decode cX3_value 37 = .ok (.aload_n 0, 1) := by decide +kernel
theorem dX3_value_38 : decode cX3_value 38 = .ok (.getfield 24, 3) := by decide +kernel
theorem dX3_value_41 : decode cX3_value 41 = .ok (.iconst 5, 1) := by decide +kernel
theorem dX3_value_42 : decode cX3_value 42 = .ok (.iload 6, 2) := by decide +kernel
theorem dX3_value_44 : decode cX3_value 44 = .ok (.iastore, 1) := by decide +kernel
theorem dX3_value_45 : decode cX3_value 45 = .ok (.iconst 0, 1) := by decide +kernel
theorem dX3_value_46 : decode cX3_value 46 = .ok (.istore 7, 2) := by decide +kernel
theorem dX3_value_48 : decode cX3_value 48 = .ok (.iconst 0, 1) := by decide +kernel
theorem dX3_value_49 : decode cX3_value 49 = .ok (.istore 8, 2) := by decide +kernel
theorem dX3_value_51 : decode cX3_value 51 = .ok (.iconst 0, 1) := by decide +kernel
theorem dX3_value_52 : decode cX3_value 52 = .ok (.istore 9, 2) := by decide +kernel
theorem dX3_value_54 : decode cX3_value 54 = .ok (.iload 9, 2) := by decide +kernel
theorem dX3_value_56 : decode cX3_value 56 = .ok (.aload_n 0, 1) := by decide +kernel
theorem dX3_value_57 : decode cX3_value 57 = .ok (.getfield 15, 3) := by decide +kernel
theorem dX3_value_60 : decode cX3_value 60 = .ok (.arraylength, 1) := by decide +kernel
theorem dX3_value_61 : decode cX3_value 61 = .ok (.if_icmp .ge 256, 3) := by decide +kernel
theorem dX3_value_64 : decode cX3_value 64 = .ok (.iload 8, 2) := by decide +kernel
theorem dX3_value_66 : decode cX3_value 66 = .ok (.ifCond .lt 251, 3) := by decide +kernel
theorem dX3_value_69 : decode cX3_value 69 = .ok (.iload 8, 2) := by decide +kernel
theorem dX3_value_71 : decode cX3_value 71 = .ok (.aload_n 0, 1) := by decide +kernel
theorem dX3_value_72 : decode cX3_value 72 = .ok (.getfield 41, 3) := by decide +kernel
theorem dX3_value_75 : decode cX3_value 75 = .ok (.if_icmp .ge 242, 3) := by decide +kernel
theorem dX3_value_78 : decode cX3_value 78 = .ok (.aload_n 0, 1) := by decide +kernel
theorem dX3_value_79 : decode cX3_value 79 = .ok (.getfield 15, 3) := by decide +kernel
theorem dX3_value_82 : decode cX3_value 82 = .ok (.iload 8, 2) := by decide +kernel
theorem dX3_value_84 : decode cX3_value 84 = .ok (.iaload, 1) := by decide +kernel
theorem dX3_value_85 : decode cX3_value 85 = .ok (.bipush 31, 2) := by decide +kernel
theorem dX3_value_87 : decode cX3_value 87 = .ok (.iand, 1) := by decide +kernel
theorem dX3_value_88 : decode cX3_value 88 = .ok (.istore 10, 2) := by decide +kernel
theorem dX3_value_90 : decode cX3_value 90 = .ok (.aload_n 0, 1) := by decide +kernel
theorem dX3_value_91 : decode cX3_value 91 = .ok (.getfield 15, 3) := by decide +kernel
theorem dX3_value_94 : decode cX3_value 94 = .ok (.iload 8, 2) := by decide +kernel
theorem dX3_value_96 : decode cX3_value 96 = .ok (.iaload, 1) := by decide +kernel
theorem dX3_value_97 : decode cX3_value 97 = .ok (.iconst 5, 1) := by decide +kernel
theorem dX3_value_98 : decode cX3_value 98 = .ok (.ishr, 1) := by decide +kernel
theorem dX3_value_99 : decode cX3_value 99 = .ok (.istore 11, 2) := by decide +kernel
theorem dX3_value_101 : decode cX3_value 101 = .ok (.iinc 8 1, 3) := by decide +kernel
theorem dX3_value_104 : decode cX3_value 104 = .ok (.iload 10, 2) := by decide +kernel
theorem dX3_value_106 : decode cX3_value 106 = .ok (.iconst 2, 1) := by decide +kernel
theorem dX3_value_107 : decode cX3_value 107 = .ok (.if_icmp .ne 22, 3) := by decide +kernel
theorem dX3_value_110 : decode cX3_value 110 = .ok (.iload 7, 2) := by decide +kernel
theorem dX3_value_112 : decode cX3_value 112 = .ok (.ifCond .le 15, 3) := by decide +kernel
theorem dX3_value_115 : decode cX3_value 115 = .ok (.aload_n 0, 1) := by decide +kernel
theorem dX3_value_116 : decode cX3_value 116 = .ok (.getfield 21, 3) := by decide +kernel
theorem dX3_value_119 : decode cX3_value 119 = .ok (.iload 7, 2) := by decide +kernel
theorem dX3_value_121 : decode cX3_value 121 = .ok (.iconst 1, 1) := by decide +kernel
theorem dX3_value_122 : decode cX3_value 122 = .ok (.isub, 1) := by decide +kernel
theorem dX3_value_123 : decode cX3_value 123 = .ok (.iaload, 1) := by decide +kernel
theorem dX3_value_124 : decode cX3_value 124 = .ok (.goto 4, 3) := by decide +kernel
theorem dX3_value_127 : decode cX3_value 127 = .ok (.iconst 0, 1) := by decide +kernel
theorem dX3_value_128 : decode cX3_value 128 = .ok (.ireturn, 1) := by decide +kernel
theorem dX3_value_129 : decode cX3_value 129 = .ok (.iload 10, 2) := by decide +kernel
theorem dX3_value_131 : decode cX3_value 131 = .ok (.iconst 1, 1) := by decide +kernel
theorem dX3_value_132 : decode cX3_value 132 = .ok (.if_icmp .gt 44, 3) := by decide +kernel
theorem dX3_value_135 : decode cX3_value 135 = .ok (.iload 7, 2) := by decide +kernel
theorem dX3_value_137 : decode cX3_value 137 = .ok (.aload_n 0, 1) := by decide +kernel
theorem dX3_value_138 : decode cX3_value 138 = .ok (.getfield 21, 3) := by decide +kernel
theorem dX3_value_141 : decode cX3_value 141 = .ok (.arraylength, 1) := by decide +kernel
theorem dX3_value_142 : decode cX3_value 142 = .ok (.if_icmp .lt 5, 3) := by decide +kernel
theorem dX3_value_145 : decode cX3_value 145 = .ok (.iconst 0, 1) := by decide +kernel
theorem dX3_value_146 : decode cX3_value 146 = .ok (.ireturn, 1) := by decide +kernel
theorem dX3_value_147 : decode cX3_value 147 = .ok (.aload_n 0, 1) := by decide +kernel
theorem dX3_value_148 : decode cX3_value 148 = .ok (.getfield 21, 3) := by decide +kernel
theorem dX3_value_151 : decode cX3_value 151 = .ok (.iload 7, 2) := by decide +kernel
theorem dX3_value_153 : decode cX3_value 153 = .ok (.iload 10, 2) := by decide +kernel
theorem dX3_value_155 : decode cX3_value 155 = .ok (.ifCond .ne 8, 3) := by decide +kernel
theorem dX3_value_158 : decode cX3_value 158 = .ok (.iload 11, 2) := by decide +kernel
theorem dX3_value_160 : decode cX3_value 160 = .ok (.goto 9, 3) := by decide +kernel
theorem dX3_value_163 : decode cX3_value 163 = .ok (.aload_n 0, 1) := by decide +kernel
theorem dX3_value_164 : decode cX3_value 164 = .ok (.iload 11, 2) := by decide +kernel
theorem dX3_value_166 : decode cX3_value 166 = .ok (.invokevirtual 48, 3) := by decide +kernel
theorem dX3_value_169 : decode cX3_value 169 = .ok (.iastore, 1) := by decide +kernel
theorem dX3_value_170 : decode cX3_value 170 = .ok (.iinc 7 1, 3) := by decide +kernel
theorem dX3_value_173 : decode cX3_value 173 = .ok (.goto 138, 3) := by decide +kernel
theorem dX3_value_176 : decode cX3_value 176 = .ok (.iload 7, 2) := by decide +kernel
theorem dX3_value_178 : decode cX3_value 178 = .ok (.iload 10, 2) := by decide +kernel
theorem dX3_value_180 : decode cX3_value 180 = .ok (.bipush 6, 2) := by decide +kernel
theorem dX3_value_182 : decode cX3_value 182 = .ok (.if_icmp .ge 7, 3) := by decide +kernel
theorem dX3_value_185 : decode cX3_value 185 = .ok (.iconst 1, 1) := by decide +kernel
theorem dX3_value_186 : decode cX3_value 186 = .ok (.goto 4, 3) := by decide +kernel
theorem dX3_value_189 : decode cX3_value 189 = .ok (.iconst 2, 1) := by decide +kernel
theorem dX3_value_190 : decode cX3_value 190 = .ok (.if_icmp .ge 5, 3) := by decide +kernel
theorem dX3_value_193 : decode cX3_value 193 = .ok (.iconst 0, 1) := by decide +kernel
theorem dX3_value_194 : decode cX3_value 194 = .ok (.ireturn, 1) := by decide +kernel
theorem dX3_value_195 : decode cX3_value 195 = .ok (.iload 10, 2) := by decide +kernel
theorem dX3_value_197 : decode cX3_value 197 = .ok (.iconst 3, 1) := by decide +kernel
theorem dX3_value_198 : decode cX3_value 198 = .ok (.if_icmp .ne 28, 3) := by decide +kernel
theorem dX3_value_201 : decode cX3_value 201 = .ok (.iinc 7 (-1), 3) := by decide +kernel
theorem dX3_value_204 : decode cX3_value 204 = .ok (.aload_n 0, 1) := by decide +kernel
theorem dX3_value_205 : decode cX3_value 205 = .ok (.getfield 21, 3) := by decide +kernel
theorem dX3_value_208 : decode cX3_value 208 = .ok (.iload 7, 2) := by decide +kernel
theorem dX3_value_210 : decode cX3_value 210 = .ok (.iaload, 1) := by decide +kernel
theorem dX3_value_211 : decode cX3_value 211 = .ok (.ifCond .ne 8, 3) := by decide +kernel
theorem dX3_value_214 : decode cX3_value 214 = .ok (.iload 11, 2) := by decide +kernel
theorem dX3_value_216 : decode cX3_value 216 = .ok (.goto 5, 3) := by decide +kernel
theorem dX3_value_219 : decode cX3_value 219 = .ok (.iload 8, 2) := by decide +kernel
theorem dX3_value_221 : decode cX3_value 221 = .ok (.istore 8, 2) := by decide +kernel
theorem dX3_value_223 : decode cX3_value 223 = .ok (.goto 88, 3) := by decide +kernel
theorem dX3_value_226 : decode cX3_value 226 = .ok (.iload 10, 2) := by decide +kernel
theorem dX3_value_228 : decode cX3_value 228 = .ok (.bipush 6, 2) := by decide +kernel
theorem dX3_value_230 : decode cX3_value 230 = .ok (.if_icmp .ge 48, 3) := by decide +kernel
theorem dX3_value_233 : decode cX3_value 233 = .ok (.aload_n 0, 1) := by decide +kernel
theorem dX3_value_234 : decode cX3_value 234 = .ok (.getfield 21, 3) := by decide +kernel
theorem dX3_value_237 : decode cX3_value 237 = .ok (.iload 7, 2) := by decide +kernel
theorem dX3_value_239 : decode cX3_value 239 = .ok (.iconst 1, 1) := by decide +kernel
theorem dX3_value_240 : decode cX3_value 240 = .ok (.isub, 1) := by decide +kernel
theorem dX3_value_241 : decode cX3_value 241 = .ok (.iaload, 1) := by decide +kernel
theorem dX3_value_242 : decode cX3_value 242 = .ok (.istore 12, 2) := by decide +kernel
theorem dX3_value_244 : decode cX3_value 244 = .ok (.aload_n 0, 1) := by decide +kernel
theorem dX3_value_245 : decode cX3_value 245 = .ok (.getfield 21, 3) := by decide +kernel
theorem dX3_value_248 : decode cX3_value 248 = .ok (.iload 7, 2) := by decide +kernel
theorem dX3_value_250 : decode cX3_value 250 = .ok (.iconst 1, 1) := by decide +kernel
theorem dX3_value_251 : decode cX3_value 251 = .ok (.isub, 1) := by decide +kernel
theorem dX3_value_252 : decode cX3_value 252 = .ok (.iload 10, 2) := by decide +kernel
theorem dX3_value_254 : decode cX3_value 254 = .ok (.iconst 5, 1) := by decide +kernel
theorem dX3_value_255 : decode cX3_value 255 = .ok (.if_icmp .ne 9, 3) := by decide +kernel
theorem dX3_value_258 : decode cX3_value 258 = .ok (.iload 12, 2) := by decide +kernel
theorem dX3_value_260 : decode cX3_value 260 = .ok (.ineg, 1) := by decide +kernel
theorem dX3_value_261 : decode cX3_value 261 = .ok (.goto 13, 3) := by decide +kernel
theorem dX3_value_264 : decode cX3_value 264 = .ok (.iload 12, 2) := by decide +kernel
theorem dX3_value_266 : decode cX3_value 266 = .ok (.ifCond .ne 7, 3) := by decide +kernel
theorem dX3_value_269 : decode cX3_value 269 = .ok (.iconst 1, 1) := by decide +kernel
theorem dX3_value_270 : decode cX3_value 270 = .ok (.goto 4, 3) := by decide +kernel
theorem dX3_value_273 : decode cX3_value 273 = .ok (.iconst 0, 1) := by decide +kernel
theorem dX3_value_274 : decode cX3_value 274 = .ok (.iastore, 1) := by decide +kernel
theorem dX3_value_275 : decode cX3_value 275 = .ok (.goto 36, 3) := by decide +kernel
theorem dX3_value_278 : decode cX3_value 278 = .ok (.iinc 7 (-1), 3) := by decide +kernel
theorem dX3_value_281 : decode cX3_value 281 = .ok (.aload_n 0, 1) := by decide +kernel
theorem dX3_value_282 : decode cX3_value 282 = .ok (.getfield 21, 3) := by decide +kernel
theorem dX3_value_285 : decode cX3_value 285 = .ok (.iload 7, 2) := by decide +kernel
theorem dX3_value_287 : decode cX3_value 287 = .ok (.iconst 1, 1) := by decide +kernel
theorem dX3_value_288 : decode cX3_value 288 = .ok (.isub, 1) := by decide +kernel
theorem dX3_value_289 : decode cX3_value 289 = .ok (.iload 10, 2) := by decide +kernel
theorem dX3_value_291 : decode cX3_value 291 = .ok (.aload_n 0, 1) := by decide +kernel
theorem dX3_value_292 : decode cX3_value 292 = .ok (.getfield 21, 3) := by decide +kernel
theorem dX3_value_295 : decode cX3_value 295 = .ok (.iload 7, 2) := by decide +kernel
theorem dX3_value_297 : decode cX3_value 297 = .ok (.iconst 1, 1) := by decide +kernel
theorem dX3_value_298 : decode cX3_value 298 = .ok (.isub, 1) := by decide +kernel
theorem dX3_value_299 : decode cX3_value 299 = .ok (.iaload, 1) := by decide +kernel
theorem dX3_value_300 : decode cX3_value 300 = .ok (.aload_n 0, 1) := by decide +kernel
theorem dX3_value_301 : decode cX3_value 301 = .ok (.getfield 21, 3) := by decide +kernel
theorem dX3_value_304 : decode cX3_value 304 = .ok (.iload 7, 2) := by decide +kernel
theorem dX3_value_306 : decode cX3_value 306 = .ok (.iaload, 1) := by decide +kernel
theorem dX3_value_307 : decode cX3_value 307 = .ok (.invokestatic 52, 3) := by decide +kernel
theorem dX3_value_310 : decode cX3_value 310 = .ok (.iastore, 1) := by decide +kernel
theorem dX3_value_311 : decode cX3_value 311 = .ok (.iinc 9 1, 3) := by decide +kernel
theorem dX3_value_314 : decode cX3_value 314 = .ok (.goto (-260), 3) := by decide +kernel
theorem dX3_value_317 : decode cX3_value 317 = .ok (.iconst 0, 1) := by decide +kernel
theorem dX3_value_318 : decode cX3_value 318 = .ok (.ireturn, 1) := by decide +kernel
theorem dX3_valueOf_0 : decode cX3_valueOf 0 = .ok (.iload_n 1, 1) := by decide +kernel
theorem dX3_valueOf_1 : decode cX3_valueOf 1 = .ok (.ifCond .lt 21, 3) := by decide +kernel
theorem dX3_valueOf_4 : decode cX3_valueOf 4 = .ok (.iload_n 1, 1) := by decide +kernel
theorem dX3_valueOf_5 : decode cX3_valueOf 5 = .ok (.aload_n 0, 1) := by decide +kernel
theorem dX3_valueOf_6 : decode cX3_valueOf 6 = .ok (.getfield 24, 3) := by decide +kernel
theorem dX3_valueOf_9 : decode cX3_valueOf 9 = .ok (.arraylength, 1) := by decide +kernel
theorem dX3_valueOf_10 : decode cX3_valueOf 10 = .ok (.if_icmp .ge 12, 3) := by decide +kernel
theorem dX3_valueOf_13 : decode cX3_valueOf 13 = .ok (.aload_n 0, 1) := by decide +kernel
theorem dX3_valueOf_14 : decode cX3_valueOf 14 = .ok (.getfield 24, 3) := by decide +kernel
theorem dX3_valueOf_17 : decode cX3_valueOf 17 = .ok (.iload_n 1, 1) := by decide +kernel
theorem dX3_valueOf_18 : decode cX3_valueOf 18 = .ok (.iaload, 1) := by decide +kernel
theorem dX3_valueOf_19 : decode cX3_valueOf 19 = .ok (.goto 4, 3) := by decide +kernel
theorem dX3_valueOf_22 : decode cX3_valueOf 22 = .ok (.iconst 0, 1) := by decide +kernel
theorem dX3_valueOf_23 : decode cX3_valueOf 23 = .ok (.ireturn, 1) := by decide +kernel
theorem dX3_worked_0 : decode cX3_worked 0 = .ok (.iload_n 0, 1) := by decide +kernel
theorem dX3_worked_1 : decode cX3_worked 1 = .ok (.tableswitch 136 6 14 #[51, 65, 79, 90, 101, 112, 116, 120, 124], 51) := by decide +kernel
theorem dX3_worked_52 : decode cX3_worked 52 = .ok (.iload_n 1, 1) := by decide +kernel
theorem dX3_worked_53 : decode cX3_worked 53 = .ok (.ifCond .ne 7, 3) := by decide +kernel
theorem dX3_worked_56 : decode cX3_worked 56 = .ok (.iload_n 2, 1) := by decide +kernel
theorem dX3_worked_57 : decode cX3_worked 57 = .ok (.ifCond .eq 7, 3) := by decide +kernel
theorem dX3_worked_60 : decode cX3_worked 60 = .ok (.iconst 1, 1) := by decide +kernel
theorem dX3_worked_61 : decode cX3_worked 61 = .ok (.goto 4, 3) := by decide +kernel
theorem dX3_worked_64 : decode cX3_worked 64 = .ok (.iconst 0, 1) := by decide +kernel
theorem dX3_worked_65 : decode cX3_worked 65 = .ok (.ireturn, 1) := by decide +kernel
theorem dX3_worked_66 : decode cX3_worked 66 = .ok (.iload_n 1, 1) := by decide +kernel
theorem dX3_worked_67 : decode cX3_worked 67 = .ok (.ifCond .eq 11, 3) := by decide +kernel
theorem dX3_worked_70 : decode cX3_worked 70 = .ok (.iload_n 2, 1) := by decide +kernel
theorem dX3_worked_71 : decode cX3_worked 71 = .ok (.ifCond .eq 7, 3) := by decide +kernel
theorem dX3_worked_74 : decode cX3_worked 74 = .ok (.iconst 1, 1) := by decide +kernel
theorem dX3_worked_75 : decode cX3_worked 75 = .ok (.goto 4, 3) := by decide +kernel
theorem dX3_worked_78 : decode cX3_worked 78 = .ok (.iconst 0, 1) := by decide +kernel
theorem dX3_worked_79 : decode cX3_worked 79 = .ok (.ireturn, 1) := by decide +kernel
theorem dX3_worked_80 : decode cX3_worked 80 = .ok (.iload_n 1, 1) := by decide +kernel
theorem dX3_worked_81 : decode cX3_worked 81 = .ok (.iload_n 2, 1) := by decide +kernel
theorem dX3_worked_82 : decode cX3_worked 82 = .ok (.if_icmp .ge 7, 3) := by decide +kernel
theorem dX3_worked_85 : decode cX3_worked 85 = .ok (.iconst 1, 1) := by decide +kernel
theorem dX3_worked_86 : decode cX3_worked 86 = .ok (.goto 4, 3) := by decide +kernel
theorem dX3_worked_89 : decode cX3_worked 89 = .ok (.iconst 0, 1) := by decide +kernel
theorem dX3_worked_90 : decode cX3_worked 90 = .ok (.ireturn, 1) := by decide +kernel
theorem dX3_worked_91 : decode cX3_worked 91 = .ok (.iload_n 1, 1) := by decide +kernel
theorem dX3_worked_92 : decode cX3_worked 92 = .ok (.iload_n 2, 1) := by decide +kernel
theorem dX3_worked_93 : decode cX3_worked 93 = .ok (.if_icmp .ne 7, 3) := by decide +kernel
theorem dX3_worked_96 : decode cX3_worked 96 = .ok (.iconst 1, 1) := by decide +kernel
theorem dX3_worked_97 : decode cX3_worked 97 = .ok (.goto 4, 3) := by decide +kernel
theorem dX3_worked_100 : decode cX3_worked 100 = .ok (.iconst 0, 1) := by decide +kernel
theorem dX3_worked_101 : decode cX3_worked 101 = .ok (.ireturn, 1) := by decide +kernel
theorem dX3_worked_102 : decode cX3_worked 102 = .ok (.iload_n 1, 1) := by decide +kernel
theorem dX3_worked_103 : decode cX3_worked 103 = .ok (.iload_n 2, 1) := by decide +kernel
theorem dX3_worked_104 : decode cX3_worked 104 = .ok (.if_icmp .le 7, 3) := by decide +kernel
theorem dX3_worked_107 : decode cX3_worked 107 = .ok (.iconst 1, 1) := by decide +kernel
theorem dX3_worked_108 : decode cX3_worked 108 = .ok (.goto 4, 3) := by decide +kernel
theorem dX3_worked_111 : decode cX3_worked 111 = .ok (.iconst 0, 1) := by decide +kernel
theorem dX3_worked_112 : decode cX3_worked 112 = .ok (.ireturn, 1) := by decide +kernel
theorem dX3_worked_113 : decode cX3_worked 113 = .ok (.iload_n 1, 1) := by decide +kernel
theorem dX3_worked_114 : decode cX3_worked 114 = .ok (.iload_n 2, 1) := by decide +kernel
theorem dX3_worked_115 : decode cX3_worked 115 = .ok (.iadd, 1) := by decide +kernel
theorem dX3_worked_116 : decode cX3_worked 116 = .ok (.ireturn, 1) := by decide +kernel
theorem dX3_worked_117 : decode cX3_worked 117 = .ok (.iload_n 1, 1) := by decide +kernel
theorem dX3_worked_118 : decode cX3_worked 118 = .ok (.iload_n 2, 1) := by decide +kernel
theorem dX3_worked_119 : decode cX3_worked 119 = .ok (.isub, 1) := by decide +kernel
theorem dX3_worked_120 : decode cX3_worked 120 = .ok (.ireturn, 1) := by decide +kernel
theorem dX3_worked_121 : decode cX3_worked 121 = .ok (.iload_n 1, 1) := by decide +kernel
theorem dX3_worked_122 : decode cX3_worked 122 = .ok (.iload_n 2, 1) := by decide +kernel
theorem dX3_worked_123 : decode cX3_worked 123 = .ok (.imul, 1) := by decide +kernel
theorem dX3_worked_124 : decode cX3_worked 124 = .ok (.ireturn, 1) := by decide +kernel
theorem dX3_worked_125 : decode cX3_worked 125 = .ok (.iload_n 2, 1) := by decide +kernel
theorem dX3_worked_126 : decode cX3_worked 126 = .ok (.ifCond .ne 7, 3) := by decide +kernel
theorem dX3_worked_129 : decode cX3_worked 129 = .ok (.iconst 0, 1) := by decide +kernel
theorem dX3_worked_130 : decode cX3_worked 130 = .ok (.goto 6, 3) := by decide +kernel
theorem dX3_worked_133 : decode cX3_worked 133 = .ok (.iload_n 1, 1) := by decide +kernel
theorem dX3_worked_134 : decode cX3_worked 134 = .ok (.iload_n 2, 1) := by decide +kernel
theorem dX3_worked_135 : decode cX3_worked 135 = .ok (.idiv, 1) := by decide +kernel
theorem dX3_worked_136 : decode cX3_worked 136 = .ok (.ireturn, 1) := by decide +kernel
theorem dX3_worked_137 : decode cX3_worked 137 = .ok (.iload_n 2, 1) := by decide +kernel
theorem dX3_worked_138 : decode cX3_worked 138 = .ok (.ifCond .ne 7, 3) := by decide +kernel
theorem dX3_worked_141 : decode cX3_worked 141 = .ok (.iconst 0, 1) := by decide +kernel
theorem dX3_worked_142 : decode cX3_worked 142 = .ok (.goto 6, 3) := by decide +kernel
theorem dX3_worked_145 : decode cX3_worked 145 = .ok (.iload_n 1, 1) := by decide +kernel
theorem dX3_worked_146 : decode cX3_worked 146 = .ok (.iload_n 2, 1) := by decide +kernel
theorem dX3_worked_147 : decode cX3_worked 147 = .ok (.irem, 1) := by decide +kernel
theorem dX3_worked_148 : decode cX3_worked 148 = .ok (.ireturn, 1) := by decide +kernel
theorem dX3_readText_0 : decode cX3_readText 0 = .ok (.iconst 0, 1) := by decide +kernel
theorem dX3_readText_1 : decode cX3_readText 1 = .ok (.istore_n 1, 1) := by decide +kernel
theorem dX3_readText_2 : decode cX3_readText 2 = .ok (.iload_n 1, 1) := by decide +kernel
theorem dX3_readText_3 : decode cX3_readText 3 = .ok (.bipush 120, 2) := by decide +kernel
theorem dX3_readText_5 : decode cX3_readText 5 = .ok (.if_icmp .gt 47, 3) := by decide +kernel
theorem dX3_readText_8 : decode cX3_readText 8 = .ok (.aload_n 0, 1) := by decide +kernel
theorem dX3_readText_9 : decode cX3_readText 9 = .ok (.invokevirtual 56, 3) := by decide +kernel
theorem dX3_readText_12 : decode cX3_readText 12 = .ok (.ifCond .ne 5, 3) := by decide +kernel
theorem dX3_readText_15 : decode cX3_readText 15 = .ok (.iconst 0, 1) := by decide +kernel
theorem dX3_readText_16 : decode cX3_readText 16 = .ok (.ireturn, 1) := by decide +kernel
theorem dX3_readText_17 : decode cX3_readText 17 = .ok (.aload_n 0, 1) := by decide +kernel
theorem dX3_readText_18 : decode cX3_readText 18 = .ok (.invokevirtual 59, 3) := by decide +kernel
theorem dX3_readText_21 : decode cX3_readText 21 = .ok (.istore_n 2, 1) := by decide +kernel
theorem dX3_readText_22 : decode cX3_readText 22 = .ok (.iload_n 2, 1) := by decide +kernel
theorem dX3_readText_23 : decode cX3_readText 23 = .ok (.ifCond .ge 5, 3) := by decide +kernel
theorem dX3_readText_26 : decode cX3_readText 26 = .ok (.iconst 1, 1) := by decide +kernel
theorem dX3_readText_27 : decode cX3_readText 27 = .ok (.ireturn, 1) := by decide +kernel
theorem dX3_readText_28 : decode cX3_readText 28 = .ok (.iload_n 2, 1) := by decide +kernel
theorem dX3_readText_29 : decode cX3_readText 29 = .ok (.bipush 59, 2) := by decide +kernel
theorem dX3_readText_31 : decode cX3_readText 31 = .ok (.if_icmp .eq 5, 3) := by decide +kernel
theorem dX3_readText_34 : decode cX3_readText 34 = .ok (.iconst 0, 1) := by decide +kernel
theorem dX3_readText_35 : decode cX3_readText 35 = .ok (.ireturn, 1) := by decide +kernel
theorem dX3_readText_36 : decode cX3_readText 36 = .ok (.aload_n 0, 1) := by decide +kernel
theorem dX3_readText_37 : decode cX3_readText 37 = .ok (.dup, 1) := by decide +kernel
theorem dX3_readText_38 : decode cX3_readText 38 = .ok (.getfield 31, 3) := by decide +kernel
theorem dX3_readText_41 : decode cX3_readText 41 = .ok (.iconst 1, 1) := by decide +kernel
theorem dX3_readText_42 : decode cX3_readText 42 = .ok (.iadd, 1) := by decide +kernel
theorem dX3_readText_43 : decode cX3_readText 43 = .ok (.putfield 31, 3) := by decide +kernel
theorem dX3_readText_46 : decode cX3_readText 46 = .ok (.iinc 1 1, 3) := by decide +kernel
theorem dX3_readText_49 : decode cX3_readText 49 = .ok (.goto (-47), 3) := by decide +kernel
theorem dX3_readText_52 : decode cX3_readText 52 = .ok (.iconst 0, 1) := by decide +kernel
theorem dX3_readText_53 : decode cX3_readText 53 = .ok (.ireturn, 1) := by decide +kernel
theorem dX3_readLine_0 : decode cX3_readLine 0 = .ok (.aload_n 0, 1) := by decide +kernel
theorem dX3_readLine_1 : decode cX3_readLine 1 = .ok (.iconst 0, 1) := by decide +kernel
theorem dX3_readLine_2 : decode cX3_readLine 2 = .ok (.iconst 0, 1) := by decide +kernel
theorem dX3_readLine_3 : decode cX3_readLine 3 = .ok (.invokevirtual 63, 3) := by decide +kernel
theorem dX3_readLine_6 : decode cX3_readLine 6 = .ok (.ifCond .ne 5, 3) := by decide +kernel
theorem dX3_readLine_9 : decode cX3_readLine 9 = .ok (.iconst 0, 1) := by decide +kernel
theorem dX3_readLine_10 : decode cX3_readLine 10 = .ok (.ireturn, 1) := by decide +kernel
theorem dX3_readLine_11 : decode cX3_readLine 11 = .ok (.aload_n 0, 1) := by decide +kernel
theorem dX3_readLine_12 : decode cX3_readLine 12 = .ok (.invokevirtual 59, 3) := by decide +kernel
theorem dX3_readLine_15 : decode cX3_readLine 15 = .ok (.bipush 63, 2) := by decide +kernel
theorem dX3_readLine_17 : decode cX3_readLine 17 = .ok (.if_icmp .ne 66, 3) := by decide +kernel
theorem dX3_readLine_20 : decode cX3_readLine 20 = .ok (.aload_n 0, 1) := by decide +kernel
theorem dX3_readLine_21 : decode cX3_readLine 21 = .ok (.dup, 1) := by decide +kernel
theorem dX3_readLine_22 : decode cX3_readLine 22 = .ok (.getfield 31, 3) := by decide +kernel
theorem dX3_readLine_25 : decode cX3_readLine 25 = .ok (.iconst 1, 1) := by decide +kernel
theorem dX3_readLine_26 : decode cX3_readLine 26 = .ok (.iadd, 1) := by decide +kernel
theorem dX3_readLine_27 : decode cX3_readLine 27 = .ok (.putfield 31, 3) := by decide +kernel
theorem dX3_readLine_30 : decode cX3_readLine 30 = .ok (.aload_n 0, 1) := by decide +kernel
theorem dX3_readLine_31 : decode cX3_readLine 31 = .ok (.getfield 34, 3) := by decide +kernel
theorem dX3_readLine_34 : decode cX3_readLine 34 = .ok (.istore_n 1, 1) := by decide +kernel
theorem dX3_readLine_35 : decode cX3_readLine 35 = .ok (.aload_n 0, 1) := by decide +kernel
theorem dX3_readLine_36 : decode cX3_readLine 36 = .ok (.iconst 3, 1) := by decide +kernel
theorem dX3_readLine_37 : decode cX3_readLine 37 = .ok (.iconst 0, 1) := by decide +kernel
theorem dX3_readLine_38 : decode cX3_readLine 38 = .ok (.invokevirtual 67, 3) := by decide +kernel
theorem dX3_readLine_41 : decode cX3_readLine 41 = .ok (.aload_n 0, 1) := by decide +kernel
theorem dX3_readLine_42 : decode cX3_readLine 42 = .ok (.iconst 0, 1) := by decide +kernel
theorem dX3_readLine_43 : decode cX3_readLine 43 = .ok (.iconst 0, 1) := by decide +kernel
theorem dX3_readLine_44 : decode cX3_readLine 44 = .ok (.invokevirtual 63, 3) := by decide +kernel
theorem dX3_readLine_47 : decode cX3_readLine 47 = .ok (.ifCond .ne 5, 3) := by decide +kernel
theorem dX3_readLine_50 : decode cX3_readLine 50 = .ok (.iconst 0, 1) := by decide +kernel
theorem dX3_readLine_51 : decode cX3_readLine 51 = .ok (.ireturn, 1) := by decide +kernel
theorem dX3_readLine_52 : decode cX3_readLine 52 = .ok (.aload_n 0, 1) := by decide +kernel
theorem dX3_readLine_53 : decode cX3_readLine 53 = .ok (.iconst 2, 1) := by decide +kernel
theorem dX3_readLine_54 : decode cX3_readLine 54 = .ok (.iconst 0, 1) := by decide +kernel
theorem dX3_readLine_55 : decode cX3_readLine 55 = .ok (.invokevirtual 67, 3) := by decide +kernel
theorem dX3_readLine_58 : decode cX3_readLine 58 = .ok (.iload_n 1, 1) := by decide +kernel
theorem dX3_readLine_59 : decode cX3_readLine 59 = .ok (.aload_n 0, 1) := by decide +kernel
theorem dX3_readLine_60 : decode cX3_readLine 60 = .ok (.getfield 18, 3) := by decide +kernel
theorem dX3_readLine_63 : decode cX3_readLine 63 = .ok (.arraylength, 1) := by decide +kernel
theorem dX3_readLine_64 : decode cX3_readLine 64 = .ok (.if_icmp .ge 17, 3) := by decide +kernel
theorem dX3_readLine_67 : decode cX3_readLine 67 = .ok (.aload_n 0, 1) := by decide +kernel
theorem dX3_readLine_68 : decode cX3_readLine 68 = .ok (.getfield 18, 3) := by decide +kernel
theorem dX3_readLine_71 : decode cX3_readLine 71 = .ok (.iload_n 1, 1) := by decide +kernel
theorem dX3_readLine_72 : decode cX3_readLine 72 = .ok (.iconst 3, 1) := by decide +kernel
theorem dX3_readLine_73 : decode cX3_readLine 73 = .ok (.aload_n 0, 1) := by decide +kernel
theorem dX3_readLine_74 : decode cX3_readLine 74 = .ok (.getfield 34, 3) := by decide +kernel
theorem dX3_readLine_77 : decode cX3_readLine 77 = .ok (.iconst 5, 1) := by decide +kernel
theorem dX3_readLine_78 : decode cX3_readLine 78 = .ok (.ishl, 1) := by decide +kernel
theorem dX3_readLine_79 : decode cX3_readLine 79 = .ok (.ior, 1) := by decide +kernel
theorem dX3_readLine_80 : decode cX3_readLine 80 = .ok (.iastore, 1) := by decide +kernel
theorem dX3_readLine_81 : decode cX3_readLine 81 = .ok (.iconst 1, 1) := by decide +kernel
theorem dX3_readLine_82 : decode cX3_readLine 82 = .ok (.ireturn, 1) := by decide +kernel
theorem dX3_readLine_83 : decode cX3_readLine 83 = .ok (.aload_n 0, 1) := by decide +kernel
theorem dX3_readLine_84 : decode cX3_readLine 84 = .ok (.iconst 2, 1) := by decide +kernel
theorem dX3_readLine_85 : decode cX3_readLine 85 = .ok (.iconst 0, 1) := by decide +kernel
theorem dX3_readLine_86 : decode cX3_readLine 86 = .ok (.invokevirtual 67, 3) := by decide +kernel
theorem dX3_readLine_89 : decode cX3_readLine 89 = .ok (.iconst 1, 1) := by decide +kernel
theorem dX3_readLine_90 : decode cX3_readLine 90 = .ok (.ireturn, 1) := by decide +kernel
theorem dX3_readLevel_0 : decode cX3_readLevel 0 = .ok (.iload_n 1, 1) := by decide +kernel
theorem dX3_readLevel_1 : decode cX3_readLevel 1 = .ok (.iconst 5, 1) := by decide +kernel
theorem dX3_readLevel_2 : decode cX3_readLevel 2 = .ok (.if_icmp .lt 9, 3) := by decide +kernel
theorem dX3_readLevel_5 : decode cX3_readLevel 5 = .ok (.aload_n 0, 1) := by decide +kernel
theorem dX3_readLevel_6 : decode cX3_readLevel 6 = .ok (.iload_n 2, 1) := by decide +kernel
theorem dX3_readLevel_7 : decode cX3_readLevel 7 = .ok (.invokevirtual 71, 3) := by decide +kernel
theorem dX3_readLevel_10 : decode cX3_readLevel 10 = .ok (.ireturn, 1) := by decide +kernel
theorem dX3_readLevel_11 : decode cX3_readLevel 11 = .ok (.aload_n 0, 1) := by decide +kernel
theorem dX3_readLevel_12 : decode cX3_readLevel 12 = .ok (.iload_n 1, 1) := by decide +kernel
theorem dX3_readLevel_13 : decode cX3_readLevel 13 = .ok (.iconst 1, 1) := by decide +kernel
theorem dX3_readLevel_14 : decode cX3_readLevel 14 = .ok (.iadd, 1) := by decide +kernel
theorem dX3_readLevel_15 : decode cX3_readLevel 15 = .ok (.iload_n 2, 1) := by decide +kernel
theorem dX3_readLevel_16 : decode cX3_readLevel 16 = .ok (.invokevirtual 63, 3) := by decide +kernel
theorem dX3_readLevel_19 : decode cX3_readLevel 19 = .ok (.ifCond .ne 5, 3) := by decide +kernel
theorem dX3_readLevel_22 : decode cX3_readLevel 22 = .ok (.iconst 0, 1) := by decide +kernel
theorem dX3_readLevel_23 : decode cX3_readLevel 23 = .ok (.ireturn, 1) := by decide +kernel
theorem dX3_readLevel_24 : decode cX3_readLevel 24 = .ok (.iload_n 1, 1) := by decide +kernel
theorem dX3_readLevel_25 : decode cX3_readLevel 25 = .ok (.iconst 2, 1) := by decide +kernel
theorem dX3_readLevel_26 : decode cX3_readLevel 26 = .ok (.if_icmp .ne 7, 3) := by decide +kernel
theorem dX3_readLevel_29 : decode cX3_readLevel 29 = .ok (.iconst 1, 1) := by decide +kernel
theorem dX3_readLevel_30 : decode cX3_readLevel 30 = .ok (.goto 5, 3) := by decide +kernel
theorem dX3_readLevel_33 : decode cX3_readLevel 33 = .ok (.bipush 120, 2) := by decide +kernel
theorem dX3_readLevel_35 : decode cX3_readLevel 35 = .ok (.istore_n 3, 1) := by decide +kernel
theorem dX3_readLevel_36 : decode cX3_readLevel 36 = .ok (.iconst 0, 1) := by decide +kernel
theorem dX3_readLevel_37 : decode cX3_readLevel 37 = .ok (.istore 4, 2) := by decide +kernel
theorem dX3_readLevel_39 : decode cX3_readLevel 39 = .ok (.iload 4, 2) := by decide +kernel
theorem dX3_readLevel_41 : decode cX3_readLevel 41 = .ok (.iload_n 3, 1) := by decide +kernel
theorem dX3_readLevel_42 : decode cX3_readLevel 42 = .ok (.if_icmp .ge 56, 3) := by decide +kernel
theorem dX3_readLevel_45 : decode cX3_readLevel 45 = .ok (.iload_n 1, 1) := by decide +kernel
theorem dX3_readLevel_46 : decode cX3_readLevel 46 = .ok (.aload_n 0, 1) := by decide +kernel
theorem dX3_readLevel_47 : decode cX3_readLevel 47 = .ok (.invokevirtual 59, 3) := by decide +kernel
theorem dX3_readLevel_50 : decode cX3_readLevel 50 = .ok (.invokestatic 75, 3) := by decide +kernel
theorem dX3_readLevel_53 : decode cX3_readLevel 53 = .ok (.istore 5, 2) := by decide +kernel
theorem dX3_readLevel_55 : decode cX3_readLevel 55 = .ok (.iload 5, 2) := by decide +kernel
theorem dX3_readLevel_57 : decode cX3_readLevel 57 = .ok (.ifCond .ge 5, 3) := by decide +kernel
theorem dX3_readLevel_60 : decode cX3_readLevel 60 = .ok (.iconst 1, 1) := by decide +kernel
theorem dX3_readLevel_61 : decode cX3_readLevel 61 = .ok (.ireturn, 1) := by decide +kernel
theorem dX3_readLevel_62 : decode cX3_readLevel 62 = .ok (.aload_n 0, 1) := by decide +kernel
theorem dX3_readLevel_63 : decode cX3_readLevel 63 = .ok (.dup, 1) := by decide +kernel
theorem dX3_readLevel_64 : decode cX3_readLevel 64 = .ok (.getfield 31, 3) := by decide +kernel
theorem dX3_readLevel_67 : decode cX3_readLevel 67 = .ok (.iconst 1, 1) := by decide +kernel
theorem dX3_readLevel_68 : decode cX3_readLevel 68 = .ok (.iadd, 1) := by decide +kernel
theorem dX3_readLevel_69 : decode cX3_readLevel 69 = .ok (.putfield 31, 3) := by decide +kernel
theorem dX3_readLevel_72 : decode cX3_readLevel 72 = .ok (.aload_n 0, 1) := by decide +kernel
theorem dX3_readLevel_73 : decode cX3_readLevel 73 = .ok (.iload_n 1, 1) := by decide +kernel
theorem dX3_readLevel_74 : decode cX3_readLevel 74 = .ok (.iconst 1, 1) := by decide +kernel
theorem dX3_readLevel_75 : decode cX3_readLevel 75 = .ok (.iadd, 1) := by decide +kernel
theorem dX3_readLevel_76 : decode cX3_readLevel 76 = .ok (.iload_n 2, 1) := by decide +kernel
theorem dX3_readLevel_77 : decode cX3_readLevel 77 = .ok (.invokevirtual 63, 3) := by decide +kernel
theorem dX3_readLevel_80 : decode cX3_readLevel 80 = .ok (.ifCond .ne 5, 3) := by decide +kernel
theorem dX3_readLevel_83 : decode cX3_readLevel 83 = .ok (.iconst 0, 1) := by decide +kernel
theorem dX3_readLevel_84 : decode cX3_readLevel 84 = .ok (.ireturn, 1) := by decide +kernel
theorem dX3_readLevel_85 : decode cX3_readLevel 85 = .ok (.aload_n 0, 1) := by decide +kernel
theorem dX3_readLevel_86 : decode cX3_readLevel 86 = .ok (.iload 5, 2) := by decide +kernel
theorem dX3_readLevel_88 : decode cX3_readLevel 88 = .ok (.iconst 0, 1) := by decide +kernel
theorem dX3_readLevel_89 : decode cX3_readLevel 89 = .ok (.invokevirtual 67, 3) := by decide +kernel
theorem dX3_readLevel_92 : decode cX3_readLevel 92 = .ok (.iinc 4 1, 3) := by decide +kernel
theorem dX3_readLevel_95 : decode cX3_readLevel 95 = .ok (.goto (-56), 3) := by decide +kernel
theorem dX3_readLevel_98 : decode cX3_readLevel 98 = .ok (.iconst 1, 1) := by decide +kernel
theorem dX3_readLevel_99 : decode cX3_readLevel 99 = .ok (.ireturn, 1) := by decide +kernel
theorem dX3_readOperand_0 : decode cX3_readOperand 0 = .ok (.aload_n 0, 1) := by decide +kernel
theorem dX3_readOperand_1 : decode cX3_readOperand 1 = .ok (.invokevirtual 59, 3) := by decide +kernel
theorem dX3_readOperand_4 : decode cX3_readOperand 4 = .ok (.istore_n 2, 1) := by decide +kernel
theorem dX3_readOperand_5 : decode cX3_readOperand 5 = .ok (.iload_n 2, 1) := by decide +kernel
theorem dX3_readOperand_6 : decode cX3_readOperand 6 = .ok (.invokestatic 79, 3) := by decide +kernel
theorem dX3_readOperand_9 : decode cX3_readOperand 9 = .ok (.ifCond .eq 9, 3) := by decide +kernel
theorem dX3_readOperand_12 : decode cX3_readOperand 12 = .ok (.aload_n 0, 1) := by decide +kernel
theorem dX3_readOperand_13 : decode cX3_readOperand 13 = .ok (.invokevirtual 82, 3) := by decide +kernel
theorem dX3_readOperand_16 : decode cX3_readOperand 16 = .ok (.iconst 1, 1) := by decide +kernel
theorem dX3_readOperand_17 : decode cX3_readOperand 17 = .ok (.ireturn, 1) := by decide +kernel
theorem dX3_readOperand_18 : decode cX3_readOperand 18 = .ok (.iload_n 2, 1) := by decide +kernel
theorem dX3_readOperand_19 : decode cX3_readOperand 19 = .ok (.invokestatic 85, 3) := by decide +kernel
theorem dX3_readOperand_22 : decode cX3_readOperand 22 = .ok (.istore_n 3, 1) := by decide +kernel
theorem dX3_readOperand_23 : decode cX3_readOperand 23 = .ok (.iload_n 3, 1) := by decide +kernel
theorem dX3_readOperand_24 : decode cX3_readOperand 24 = .ok (.ifCond .lt 21, 3) := by decide +kernel
theorem dX3_readOperand_27 : decode cX3_readOperand 27 = .ok (.aload_n 0, 1) := by decide +kernel
theorem dX3_readOperand_28 : decode cX3_readOperand 28 = .ok (.dup, 1) := by decide +kernel
theorem dX3_readOperand_29 : decode cX3_readOperand 29 = .ok (.getfield 31, 3) := by decide +kernel
theorem dX3_readOperand_32 : decode cX3_readOperand 32 = .ok (.iconst 1, 1) := by decide +kernel
theorem dX3_readOperand_33 : decode cX3_readOperand 33 = .ok (.iadd, 1) := by decide +kernel
theorem dX3_readOperand_34 : decode cX3_readOperand 34 = .ok (.putfield 31, 3) := by decide +kernel
theorem dX3_readOperand_37 : decode cX3_readOperand 37 = .ok (.aload_n 0, 1) := by decide +kernel
theorem dX3_readOperand_38 : decode cX3_readOperand 38 = .ok (.iconst 1, 1) := by decide +kernel
theorem dX3_readOperand_39 : decode cX3_readOperand 39 = .ok (.iload_n 3, 1) := by decide +kernel
theorem dX3_readOperand_40 : decode cX3_readOperand 40 = .ok (.invokevirtual 67, 3) := by decide +kernel
theorem dX3_readOperand_43 : decode cX3_readOperand 43 = .ok (.iconst 1, 1) := by decide +kernel
theorem dX3_readOperand_44 : decode cX3_readOperand 44 = .ok (.ireturn, 1) := by decide +kernel
theorem dX3_readOperand_45 : decode cX3_readOperand 45 = .ok (.iload_n 1, 1) := by decide +kernel
theorem dX3_readOperand_46 : decode cX3_readOperand 46 = .ok (.bipush 6, 2) := by decide +kernel
theorem dX3_readOperand_48 : decode cX3_readOperand 48 = .ok (.if_icmp .ge 21, 3) := by decide +kernel
theorem dX3_readOperand_51 : decode cX3_readOperand 51 = .ok (.iload_n 2, 1) := by decide +kernel
theorem dX3_readOperand_52 : decode cX3_readOperand 52 = .ok (.bipush 40, 2) := by decide +kernel
theorem dX3_readOperand_54 : decode cX3_readOperand 54 = .ok (.if_icmp .eq 17, 3) := by decide +kernel
theorem dX3_readOperand_57 : decode cX3_readOperand 57 = .ok (.iload_n 2, 1) := by decide +kernel
theorem dX3_readOperand_58 : decode cX3_readOperand 58 = .ok (.bipush 33, 2) := by decide +kernel
theorem dX3_readOperand_60 : decode cX3_readOperand 60 = .ok (.if_icmp .eq 11, 3) := by decide +kernel
theorem dX3_readOperand_63 : decode cX3_readOperand 63 = .ok (.iload_n 2, 1) := by decide +kernel
theorem dX3_readOperand_64 : decode cX3_readOperand 64 = .ok (.bipush 45, 2) := by decide +kernel
theorem dX3_readOperand_66 : decode cX3_readOperand 66 = .ok (.if_icmp .eq 5, 3) := by decide +kernel
theorem dX3_readOperand_69 : decode cX3_readOperand 69 = .ok (.iconst 0, 1) := by decide +kernel
theorem dX3_readOperand_70 : decode cX3_readOperand 70 = .ok (.ireturn, 1) := by decide +kernel
theorem dX3_readOperand_71 : decode cX3_readOperand 71 = .ok (.aload_n 0, 1) := by decide +kernel
theorem dX3_readOperand_72 : decode cX3_readOperand 72 = .ok (.dup, 1) := by decide +kernel
theorem dX3_readOperand_73 : decode cX3_readOperand 73 = .ok (.getfield 31, 3) := by decide +kernel
theorem dX3_readOperand_76 : decode cX3_readOperand 76 = .ok (.iconst 1, 1) := by decide +kernel
theorem dX3_readOperand_77 : decode cX3_readOperand 77 = .ok (.iadd, 1) := by decide +kernel
theorem dX3_readOperand_78 : decode cX3_readOperand 78 = .ok (.putfield 31, 3) := by decide +kernel
theorem dX3_readOperand_81 : decode cX3_readOperand 81 = .ok (.iload_n 2, 1) := by decide +kernel
theorem dX3_readOperand_82 : decode cX3_readOperand 82 = .ok (.bipush 40, 2) := by decide +kernel
theorem dX3_readOperand_84 : decode cX3_readOperand 84 = .ok (.if_icmp .eq 31, 3) := by decide +kernel
theorem dX3_readOperand_87 : decode cX3_readOperand 87 = .ok (.aload_n 0, 1) := by decide +kernel
theorem dX3_readOperand_88 : decode cX3_readOperand 88 = .ok (.iload_n 1, 1) := by decide +kernel
theorem dX3_readOperand_89 : decode cX3_readOperand 89 = .ok (.iconst 1, 1) := by decide +kernel
theorem dX3_readOperand_90 : decode cX3_readOperand 90 = .ok (.iadd, 1) := by decide +kernel
theorem dX3_readOperand_91 : decode cX3_readOperand 91 = .ok (.invokevirtual 71, 3) := by decide +kernel
theorem dX3_readOperand_94 : decode cX3_readOperand 94 = .ok (.istore 4, 2) := by decide +kernel
theorem dX3_readOperand_96 : decode cX3_readOperand 96 = .ok (.aload_n 0, 1) := by decide +kernel
theorem dX3_readOperand_97 : decode cX3_readOperand 97 = .ok (.iload_n 2, 1) := by decide +kernel
theorem dX3_readOperand_98 : decode cX3_readOperand 98 = .ok (.bipush 33, 2) := by decide +kernel
theorem dX3_readOperand_100 : decode cX3_readOperand 100 = .ok (.if_icmp .ne 7, 3) := by decide +kernel
theorem dX3_readOperand_103 : decode cX3_readOperand 103 = .ok (.iconst 4, 1) := by decide +kernel
theorem dX3_readOperand_104 : decode cX3_readOperand 104 = .ok (.goto 4, 3) := by decide +kernel
theorem dX3_readOperand_107 : decode cX3_readOperand 107 = .ok (.iconst 5, 1) := by decide +kernel
theorem dX3_readOperand_108 : decode cX3_readOperand 108 = .ok (.iconst 0, 1) := by decide +kernel
theorem dX3_readOperand_109 : decode cX3_readOperand 109 = .ok (.invokevirtual 67, 3) := by decide +kernel
theorem dX3_readOperand_112 : decode cX3_readOperand 112 = .ok (.iload 4, 2) := by decide +kernel
theorem dX3_readOperand_114 : decode cX3_readOperand 114 = .ok (.ireturn, 1) := by decide +kernel
theorem dX3_readOperand_115 : decode cX3_readOperand 115 = .ok (.aload_n 0, 1) := by decide +kernel
theorem dX3_readOperand_116 : decode cX3_readOperand 116 = .ok (.iconst 0, 1) := by decide +kernel
theorem dX3_readOperand_117 : decode cX3_readOperand 117 = .ok (.iload_n 1, 1) := by decide +kernel
theorem dX3_readOperand_118 : decode cX3_readOperand 118 = .ok (.iconst 1, 1) := by decide +kernel
theorem dX3_readOperand_119 : decode cX3_readOperand 119 = .ok (.iadd, 1) := by decide +kernel
theorem dX3_readOperand_120 : decode cX3_readOperand 120 = .ok (.invokevirtual 63, 3) := by decide +kernel
theorem dX3_readOperand_123 : decode cX3_readOperand 123 = .ok (.ifCond .eq 12, 3) := by decide +kernel
theorem dX3_readOperand_126 : decode cX3_readOperand 126 = .ok (.aload_n 0, 1) := by decide +kernel
theorem dX3_readOperand_127 : decode cX3_readOperand 127 = .ok (.invokevirtual 59, 3) := by decide +kernel
theorem dX3_readOperand_130 : decode cX3_readOperand 130 = .ok (.bipush 41, 2) := by decide +kernel
theorem dX3_readOperand_132 : decode cX3_readOperand 132 = .ok (.if_icmp .eq 5, 3) := by decide +kernel
theorem dX3_readOperand_135 : decode cX3_readOperand 135 = .ok (.iconst 0, 1) := by decide +kernel
theorem dX3_readOperand_136 : decode cX3_readOperand 136 = .ok (.ireturn, 1) := by decide +kernel
theorem dX3_readOperand_137 : decode cX3_readOperand 137 = .ok (.aload_n 0, 1) := by decide +kernel
theorem dX3_readOperand_138 : decode cX3_readOperand 138 = .ok (.dup, 1) := by decide +kernel
theorem dX3_readOperand_139 : decode cX3_readOperand 139 = .ok (.getfield 31, 3) := by decide +kernel
theorem dX3_readOperand_142 : decode cX3_readOperand 142 = .ok (.iconst 1, 1) := by decide +kernel
theorem dX3_readOperand_143 : decode cX3_readOperand 143 = .ok (.iadd, 1) := by decide +kernel
theorem dX3_readOperand_144 : decode cX3_readOperand 144 = .ok (.putfield 31, 3) := by decide +kernel
theorem dX3_readOperand_147 : decode cX3_readOperand 147 = .ok (.iconst 1, 1) := by decide +kernel
theorem dX3_readOperand_148 : decode cX3_readOperand 148 = .ok (.ireturn, 1) := by decide +kernel
theorem dX3_readNumber_0 : decode cX3_readNumber 0 = .ok (.iconst 0, 1) := by decide +kernel
theorem dX3_readNumber_1 : decode cX3_readNumber 1 = .ok (.istore_n 1, 1) := by decide +kernel
theorem dX3_readNumber_2 : decode cX3_readNumber 2 = .ok (.iconst 0, 1) := by decide +kernel
theorem dX3_readNumber_3 : decode cX3_readNumber 3 = .ok (.istore_n 2, 1) := by decide +kernel
theorem dX3_readNumber_4 : decode cX3_readNumber 4 = .ok (.iload_n 2, 1) := by decide +kernel
theorem dX3_readNumber_5 : decode cX3_readNumber 5 = .ok (.iconst 4, 1) := by decide +kernel
theorem dX3_readNumber_6 : decode cX3_readNumber 6 = .ok (.if_icmp .ge 42, 3) := by decide +kernel
theorem dX3_readNumber_9 : decode cX3_readNumber 9 = .ok (.aload_n 0, 1) := by decide +kernel
theorem dX3_readNumber_10 : decode cX3_readNumber 10 = .ok (.invokevirtual 59, 3) := by decide +kernel
theorem dX3_readNumber_13 : decode cX3_readNumber 13 = .ok (.invokestatic 79, 3) := by decide +kernel
theorem dX3_readNumber_16 : decode cX3_readNumber 16 = .ok (.ifCond .eq 32, 3) := by decide +kernel
theorem dX3_readNumber_19 : decode cX3_readNumber 19 = .ok (.bipush 10, 2) := by decide +kernel
theorem dX3_readNumber_21 : decode cX3_readNumber 21 = .ok (.iload_n 1, 1) := by decide +kernel
theorem dX3_readNumber_22 : decode cX3_readNumber 22 = .ok (.imul, 1) := by decide +kernel
theorem dX3_readNumber_23 : decode cX3_readNumber 23 = .ok (.aload_n 0, 1) := by decide +kernel
theorem dX3_readNumber_24 : decode cX3_readNumber 24 = .ok (.invokevirtual 59, 3) := by decide +kernel
theorem dX3_readNumber_27 : decode cX3_readNumber 27 = .ok (.iadd, 1) := by decide +kernel
theorem dX3_readNumber_28 : decode cX3_readNumber 28 = .ok (.bipush 48, 2) := by decide +kernel
theorem dX3_readNumber_30 : decode cX3_readNumber 30 = .ok (.isub, 1) := by decide +kernel
theorem dX3_readNumber_31 : decode cX3_readNumber 31 = .ok (.istore_n 1, 1) := by decide +kernel
theorem dX3_readNumber_32 : decode cX3_readNumber 32 = .ok (.aload_n 0, 1) := by decide +kernel
theorem dX3_readNumber_33 : decode cX3_readNumber 33 = .ok (.dup, 1) := by decide +kernel
theorem dX3_readNumber_34 : decode cX3_readNumber 34 = .ok (.getfield 31, 3) := by decide +kernel
theorem dX3_readNumber_37 : decode cX3_readNumber 37 = .ok (.iconst 1, 1) := by decide +kernel
theorem dX3_readNumber_38 : decode cX3_readNumber 38 = .ok (.iadd, 1) := by decide +kernel
theorem dX3_readNumber_39 : decode cX3_readNumber 39 = .ok (.putfield 31, 3) := by decide +kernel
theorem dX3_readNumber_42 : decode cX3_readNumber 42 = .ok (.iinc 2 1, 3) := by decide +kernel
theorem dX3_readNumber_45 : decode cX3_readNumber 45 = .ok (.goto (-41), 3) := by decide +kernel
theorem dX3_readNumber_48 : decode cX3_readNumber 48 = .ok (.aload_n 0, 1) := by decide +kernel
theorem dX3_readNumber_49 : decode cX3_readNumber 49 = .ok (.iconst 0, 1) := by decide +kernel
theorem dX3_readNumber_50 : decode cX3_readNumber 50 = .ok (.iload_n 1, 1) := by decide +kernel
theorem dX3_readNumber_51 : decode cX3_readNumber 51 = .ok (.invokevirtual 67, 3) := by decide +kernel
theorem dX3_readNumber_54 : decode cX3_readNumber 54 = .ok (.return_, 1) := by decide +kernel
theorem dX3_next_0 : decode cX3_next 0 = .ok (.aload_n 0, 1) := by decide +kernel
theorem dX3_next_1 : decode cX3_next 1 = .ok (.getfield 31, 3) := by decide +kernel
theorem dX3_next_4 : decode cX3_next 4 = .ok (.aload_n 0, 1) := by decide +kernel
theorem dX3_next_5 : decode cX3_next 5 = .ok (.getfield 27, 3) := by decide +kernel
theorem dX3_next_8 : decode cX3_next 8 = .ok (.if_icmp .ge 24, 3) := by decide +kernel
theorem dX3_next_11 : decode cX3_next 11 = .ok (.aload_n 0, 1) := by decide +kernel
theorem dX3_next_12 : decode cX3_next 12 = .ok (.getfield 31, 3) := by decide +kernel
theorem dX3_next_15 : decode cX3_next 15 = .ok (.bipush 120, 2) := by decide +kernel
theorem dX3_next_17 : decode cX3_next 17 = .ok (.if_icmp .ge 15, 3) := by decide +kernel
theorem dX3_next_20 : decode cX3_next 20 = .ok (.aload_n 0, 1) := by decide +kernel
theorem dX3_next_21 : decode cX3_next 21 = .ok (.getfield 11, 3) := by decide +kernel
theorem dX3_next_24 : decode cX3_next 24 = .ok (.aload_n 0, 1) := by decide +kernel
theorem dX3_next_25 : decode cX3_next 25 = .ok (.getfield 31, 3) := by decide +kernel
theorem dX3_next_28 : decode cX3_next 28 = .ok (.iaload, 1) := by decide +kernel
theorem dX3_next_29 : decode cX3_next 29 = .ok (.goto 4, 3) := by decide +kernel
theorem dX3_next_32 : decode cX3_next 32 = .ok (.iconst (-1), 1) := by decide +kernel
theorem dX3_next_33 : decode cX3_next 33 = .ok (.ireturn, 1) := by decide +kernel
theorem dX3_write_0 : decode cX3_write 0 = .ok (.aload_n 0, 1) := by decide +kernel
theorem dX3_write_1 : decode cX3_write 1 = .ok (.getfield 34, 3) := by decide +kernel
theorem dX3_write_4 : decode cX3_write 4 = .ok (.aload_n 0, 1) := by decide +kernel
theorem dX3_write_5 : decode cX3_write 5 = .ok (.getfield 18, 3) := by decide +kernel
theorem dX3_write_8 : decode cX3_write 8 = .ok (.arraylength, 1) := by decide +kernel
theorem dX3_write_9 : decode cX3_write 9 = .ok (.if_icmp .ge 27, 3) := by decide +kernel
theorem dX3_write_12 : decode cX3_write 12 = .ok (.aload_n 0, 1) := by decide +kernel
theorem dX3_write_13 : decode cX3_write 13 = .ok (.getfield 18, 3) := by decide +kernel
theorem dX3_write_16 : decode cX3_write 16 = .ok (.aload_n 0, 1) := by decide +kernel
theorem dX3_write_17 : decode cX3_write 17 = .ok (.getfield 34, 3) := by decide +kernel
theorem dX3_write_20 : decode cX3_write 20 = .ok (.iload_n 1, 1) := by decide +kernel
theorem dX3_write_21 : decode cX3_write 21 = .ok (.iload_n 2, 1) := by decide +kernel
theorem dX3_write_22 : decode cX3_write 22 = .ok (.iconst 5, 1) := by decide +kernel
theorem dX3_write_23 : decode cX3_write 23 = .ok (.ishl, 1) := by decide +kernel
theorem dX3_write_24 : decode cX3_write 24 = .ok (.ior, 1) := by decide +kernel
theorem dX3_write_25 : decode cX3_write 25 = .ok (.iastore, 1) := by decide +kernel
theorem dX3_write_26 : decode cX3_write 26 = .ok (.aload_n 0, 1) := by decide +kernel
theorem dX3_write_27 : decode cX3_write 27 = .ok (.dup, 1) := by decide +kernel
theorem dX3_write_28 : decode cX3_write 28 = .ok (.getfield 34, 3) := by decide +kernel
theorem dX3_write_31 : decode cX3_write 31 = .ok (.iconst 1, 1) := by decide +kernel
theorem dX3_write_32 : decode cX3_write 32 = .ok (.iadd, 1) := by decide +kernel
theorem dX3_write_33 : decode cX3_write 33 = .ok (.putfield 34, 3) := by decide +kernel
theorem dX3_write_36 : decode cX3_write 36 = .ok (.return_, 1) := by decide +kernel
theorem dX3_isDigit_0 : decode cX3_isDigit 0 = .ok (.iload_n 0, 1) := by decide +kernel
theorem dX3_isDigit_1 : decode cX3_isDigit 1 = .ok (.bipush 48, 2) := by decide +kernel
theorem dX3_isDigit_3 : decode cX3_isDigit 3 = .ok (.if_icmp .lt 13, 3) := by decide +kernel
theorem dX3_isDigit_6 : decode cX3_isDigit 6 = .ok (.iload_n 0, 1) := by decide +kernel
theorem dX3_isDigit_7 : decode cX3_isDigit 7 = .ok (.bipush 57, 2) := by decide +kernel
theorem dX3_isDigit_9 : decode cX3_isDigit 9 = .ok (.if_icmp .gt 7, 3) := by decide +kernel
theorem dX3_isDigit_12 : decode cX3_isDigit 12 = .ok (.iconst 1, 1) := by decide +kernel
theorem dX3_isDigit_13 : decode cX3_isDigit 13 = .ok (.goto 4, 3) := by decide +kernel
theorem dX3_isDigit_16 : decode cX3_isDigit 16 = .ok (.iconst 0, 1) := by decide +kernel
theorem dX3_isDigit_17 : decode cX3_isDigit 17 = .ok (.ireturn, 1) := by decide +kernel
theorem dX3_nameOf_0 : decode cX3_nameOf 0 = .ok (.iload_n 0, 1) := by decide +kernel
theorem dX3_nameOf_1 : decode cX3_nameOf 1 = .ok (.tableswitch 103 97 115 #[95, 97, 103, 103, 103, 103, 103, 99, 103, 103, 91, 103, 101, 103, 103, 103, 103, 103, 93], 91) := by decide +kernel
theorem dX3_nameOf_92 : decode cX3_nameOf 92 = .ok (.iconst 0, 1) := by decide +kernel
theorem dX3_nameOf_93 : decode cX3_nameOf 93 = .ok (.ireturn, 1) := by decide +kernel
theorem dX3_nameOf_94 : decode cX3_nameOf 94 = .ok (.iconst 1, 1) := by decide +kernel
theorem dX3_nameOf_95 : decode cX3_nameOf 95 = .ok (.ireturn, 1) := by decide +kernel
theorem dX3_nameOf_96 : decode cX3_nameOf 96 = .ok (.iconst 2, 1) := by decide +kernel
theorem dX3_nameOf_97 : decode cX3_nameOf 97 = .ok (.ireturn, 1) := by decide +kernel
theorem dX3_nameOf_98 : decode cX3_nameOf 98 = .ok (.iconst 3, 1) := by decide +kernel
theorem dX3_nameOf_99 : decode cX3_nameOf 99 = .ok (.ireturn, 1) := by decide +kernel
theorem dX3_nameOf_100 : decode cX3_nameOf 100 = .ok (.iconst 4, 1) := by decide +kernel
theorem dX3_nameOf_101 : decode cX3_nameOf 101 = .ok (.ireturn, 1) := by decide +kernel
theorem dX3_nameOf_102 : decode cX3_nameOf 102 = .ok (.iconst 5, 1) := by decide +kernel
theorem dX3_nameOf_103 : decode cX3_nameOf 103 = .ok (.ireturn, 1) := by decide +kernel
theorem dX3_nameOf_104 : decode cX3_nameOf 104 = .ok (.iconst (-1), 1) := by decide +kernel
theorem dX3_nameOf_105 : decode cX3_nameOf 105 = .ok (.ireturn, 1) := by decide +kernel
theorem dX3_operator_0 : decode cX3_operator 0 = .ok (.iload_n 1, 1) := by decide +kernel
theorem dX3_operator_1 : decode cX3_operator 1 = .ok (.lookupswitch 210 #[(37, 198), (38, 102), (42, 174), (43, 150), (45, 162), (47, 186), (60, 114), (61, 126), (62, 138), (124, 91)], 91) := by decide +kernel
theorem dX3_operator_92 : decode cX3_operator 92 = .ok (.iload_n 0, 1) := by decide +kernel
theorem dX3_operator_93 : decode cX3_operator 93 = .ok (.ifCond .ne 8, 3) := by decide +kernel
theorem dX3_operator_96 : decode cX3_operator 96 = .ok (.bipush 6, 2) := by decide +kernel
theorem dX3_operator_98 : decode cX3_operator 98 = .ok (.goto 4, 3) := by decide +kernel
theorem dX3_operator_101 : decode cX3_operator 101 = .ok (.iconst (-1), 1) := by decide +kernel
theorem dX3_operator_102 : decode cX3_operator 102 = .ok (.ireturn, 1) := by decide +kernel
theorem dX3_operator_103 : decode cX3_operator 103 = .ok (.iload_n 0, 1) := by decide +kernel
theorem dX3_operator_104 : decode cX3_operator 104 = .ok (.iconst 1, 1) := by decide +kernel
theorem dX3_operator_105 : decode cX3_operator 105 = .ok (.if_icmp .ne 8, 3) := by decide +kernel
theorem dX3_operator_108 : decode cX3_operator 108 = .ok (.bipush 7, 2) := by decide +kernel
theorem dX3_operator_110 : decode cX3_operator 110 = .ok (.goto 4, 3) := by decide +kernel
theorem dX3_operator_113 : decode cX3_operator 113 = .ok (.iconst (-1), 1) := by decide +kernel
theorem dX3_operator_114 : decode cX3_operator 114 = .ok (.ireturn, 1) := by decide +kernel
theorem dX3_operator_115 : decode cX3_operator 115 = .ok (.iload_n 0, 1) := by decide +kernel
theorem dX3_operator_116 : decode cX3_operator 116 = .ok (.iconst 2, 1) := by decide +kernel
theorem dX3_operator_117 : decode cX3_operator 117 = .ok (.if_icmp .ne 8, 3) := by decide +kernel
theorem dX3_operator_120 : decode cX3_operator 120 = .ok (.bipush 8, 2) := by decide +kernel
theorem dX3_operator_122 : decode cX3_operator 122 = .ok (.goto 4, 3) := by decide +kernel
theorem dX3_operator_125 : decode cX3_operator 125 = .ok (.iconst (-1), 1) := by decide +kernel
theorem dX3_operator_126 : decode cX3_operator 126 = .ok (.ireturn, 1) := by decide +kernel
theorem dX3_operator_127 : decode cX3_operator 127 = .ok (.iload_n 0, 1) := by decide +kernel
theorem dX3_operator_128 : decode cX3_operator 128 = .ok (.iconst 2, 1) := by decide +kernel
theorem dX3_operator_129 : decode cX3_operator 129 = .ok (.if_icmp .ne 8, 3) := by decide +kernel
theorem dX3_operator_132 : decode cX3_operator 132 = .ok (.bipush 9, 2) := by decide +kernel
theorem dX3_operator_134 : decode cX3_operator 134 = .ok (.goto 4, 3) := by decide +kernel
theorem dX3_operator_137 : decode cX3_operator 137 = .ok (.iconst (-1), 1) := by decide +kernel
theorem dX3_operator_138 : decode cX3_operator 138 = .ok (.ireturn, 1) := by decide +kernel
theorem dX3_operator_139 : decode cX3_operator 139 = .ok (.iload_n 0, 1) := by decide +kernel
theorem dX3_operator_140 : decode cX3_operator 140 = .ok (.iconst 2, 1) := by decide +kernel
theorem dX3_operator_141 : decode cX3_operator 141 = .ok (.if_icmp .ne 8, 3) := by decide +kernel
theorem dX3_operator_144 : decode cX3_operator 144 = .ok (.bipush 10, 2) := by decide +kernel
theorem dX3_operator_146 : decode cX3_operator 146 = .ok (.goto 4, 3) := by decide +kernel
theorem dX3_operator_149 : decode cX3_operator 149 = .ok (.iconst (-1), 1) := by decide +kernel
theorem dX3_operator_150 : decode cX3_operator 150 = .ok (.ireturn, 1) := by decide +kernel
theorem dX3_operator_151 : decode cX3_operator 151 = .ok (.iload_n 0, 1) := by decide +kernel
theorem dX3_operator_152 : decode cX3_operator 152 = .ok (.iconst 3, 1) := by decide +kernel
theorem dX3_operator_153 : decode cX3_operator 153 = .ok (.if_icmp .ne 8, 3) := by decide +kernel
theorem dX3_operator_156 : decode cX3_operator 156 = .ok (.bipush 11, 2) := by decide +kernel
theorem dX3_operator_158 : decode cX3_operator 158 = .ok (.goto 4, 3) := by decide +kernel
theorem dX3_operator_161 : decode cX3_operator 161 = .ok (.iconst (-1), 1) := by decide +kernel
theorem dX3_operator_162 : decode cX3_operator 162 = .ok (.ireturn, 1) := by decide +kernel
theorem dX3_operator_163 : decode cX3_operator 163 = .ok (.iload_n 0, 1) := by decide +kernel
theorem dX3_operator_164 : decode cX3_operator 164 = .ok (.iconst 3, 1) := by decide +kernel
theorem dX3_operator_165 : decode cX3_operator 165 = .ok (.if_icmp .ne 8, 3) := by decide +kernel
theorem dX3_operator_168 : decode cX3_operator 168 = .ok (.bipush 12, 2) := by decide +kernel
theorem dX3_operator_170 : decode cX3_operator 170 = .ok (.goto 4, 3) := by decide +kernel
theorem dX3_operator_173 : decode cX3_operator 173 = .ok (.iconst (-1), 1) := by decide +kernel
theorem dX3_operator_174 : decode cX3_operator 174 = .ok (.ireturn, 1) := by decide +kernel
theorem dX3_operator_175 : decode cX3_operator 175 = .ok (.iload_n 0, 1) := by decide +kernel
theorem dX3_operator_176 : decode cX3_operator 176 = .ok (.iconst 4, 1) := by decide +kernel
theorem dX3_operator_177 : decode cX3_operator 177 = .ok (.if_icmp .ne 8, 3) := by decide +kernel
theorem dX3_operator_180 : decode cX3_operator 180 = .ok (.bipush 13, 2) := by decide +kernel
theorem dX3_operator_182 : decode cX3_operator 182 = .ok (.goto 4, 3) := by decide +kernel
theorem dX3_operator_185 : decode cX3_operator 185 = .ok (.iconst (-1), 1) := by decide +kernel
theorem dX3_operator_186 : decode cX3_operator 186 = .ok (.ireturn, 1) := by decide +kernel
theorem dX3_operator_187 : decode cX3_operator 187 = .ok (.iload_n 0, 1) := by decide +kernel
theorem dX3_operator_188 : decode cX3_operator 188 = .ok (.iconst 4, 1) := by decide +kernel
theorem dX3_operator_189 : decode cX3_operator 189 = .ok (.if_icmp .ne 8, 3) := by decide +kernel
theorem dX3_operator_192 : decode cX3_operator 192 = .ok (.bipush 14, 2) := by decide +kernel
theorem dX3_operator_194 : decode cX3_operator 194 = .ok (.goto 4, 3) := by decide +kernel
theorem dX3_operator_197 : decode cX3_operator 197 = .ok (.iconst (-1), 1) := by decide +kernel
theorem dX3_operator_198 : decode cX3_operator 198 = .ok (.ireturn, 1) := by decide +kernel
theorem dX3_operator_199 : decode cX3_operator 199 = .ok (.iload_n 0, 1) := by decide +kernel
theorem dX3_operator_200 : decode cX3_operator 200 = .ok (.iconst 4, 1) := by decide +kernel
theorem dX3_operator_201 : decode cX3_operator 201 = .ok (.if_icmp .ne 8, 3) := by decide +kernel
theorem dX3_operator_204 : decode cX3_operator 204 = .ok (.bipush 15, 2) := by decide +kernel
theorem dX3_operator_206 : decode cX3_operator 206 = .ok (.goto 4, 3) := by decide +kernel
theorem dX3_operator_209 : decode cX3_operator 209 = .ok (.iconst (-1), 1) := by decide +kernel
theorem dX3_operator_210 : decode cX3_operator 210 = .ok (.ireturn, 1) := by decide +kernel
theorem dX3_operator_211 : decode cX3_operator 211 = .ok (.iconst (-1), 1) := by decide +kernel
theorem dX3_operator_212 : decode cX3_operator 212 = .ok (.ireturn, 1) := by decide +kernel
