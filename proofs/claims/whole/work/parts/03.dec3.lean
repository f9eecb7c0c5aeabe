theorem dX13_init_0 : decode cX13_init 0 = .ok (.aload_n 0, 1) := by decide +kernel
theorem dX13_init_1 : decode cX13_init 1 = .ok (.invokespecial 1, 3) := by decide +kernel
theorem dX13_init_4 : decode cX13_init 4 = .ok (.aload_n 0, 1) := by decide +kernel
theorem dX13_init_5 : decode cX13_init 5 = .ok (.bipush 82, 2) := by decide +kernel
theorem dX13_init_7 : decode cX13_init 7 = .ok (.newarray .int, 2) := by decide +kernel
theorem dX13_init_9 : decode cX13_init 9 = .ok (.putfield 7, 3) := by decide +kernel
theorem dX13_init_12 : decode cX13_init 12 = .ok (.aload_n 0, 1) := by decide +kernel
theorem dX13_init_13 : decode cX13_init 13 = .ok (.bipush 82, 2) := by decide +kernel
theorem dX13_init_15 : decode cX13_init 15 = .ok (.newarray .int, 2) := by decide +kernel
theorem dX13_init_17 : decode cX13_init 17 = .ok (.putfield 13, 3) := by decide +kernel
theorem dX13_init_20 : decode cX13_init 20 = .ok (.aload_n 0, 1) := by decide +kernel
theorem dX13_init_21 : decode cX13_init 21 = .ok (.bipush 82, 2) := by decide +kernel
theorem dX13_init_23 : decode cX13_init 23 = .ok (.newarray .int, 2) := by decide +kernel
theorem dX13_init_25 : decode cX13_init 25 = .ok (.putfield 16, 3) := by decide +kernel
theorem dX13_init_28 : decode cX13_init 28 = .ok (.aload_n 0, 1) := by decide +kernel
theorem dX13_init_29 : decode cX13_init 29 = .ok (.sipush 480, 3) := by decide +kernel
theorem dX13_init_32 : decode cX13_init 32 = .ok (.newarray .int, 2) := by decide +kernel
theorem dX13_init_34 : decode cX13_init 34 = .ok (.putfield 19, 3) := by decide +kernel
theorem dX13_init_37 : decode cX13_init 37 = .ok (.aload_n 0, 1) := by decide +kernel
theorem dX13_init_38 : decode cX13_init 38 = .ok (.sipush 480, 3) := by decide +kernel
theorem dX13_init_41 : decode cX13_init 41 = .ok (.newarray .int, 2) := by decide +kernel
theorem dX13_init_43 : decode cX13_init 43 = .ok (.putfield 22, 3) := by decide +kernel
theorem dX13_init_46 : decode cX13_init 46 = .ok (.aload_n 0, 1) := by decide +kernel
theorem dX13_init_47 : decode cX13_init 47 = .ok (.sipush 480, 3) := by decide +kernel
theorem dX13_init_50 : decode cX13_init 50 = .ok (.newarray .int, 2) := by decide +kernel
theorem dX13_init_52 : decode cX13_init 52 = .ok (.putfield 25, 3) := by decide +kernel
theorem dX13_init_55 : decode cX13_init 55 = .ok (.aload_n 0, 1) := by decide +kernel
theorem dX13_init_56 : decode cX13_init 56 = .ok (.sipush 480, 3) := by decide +kernel
theorem dX13_init_59 : decode cX13_init 59 = .ok (.newarray .int, 2) := by decide +kernel
theorem dX13_init_61 : decode cX13_init 61 = .ok (.putfield 28, 3) := by decide +kernel
theorem dX13_init_64 : decode cX13_init 64 = .ok (.aload_n 0, 1) := by decide +kernel
theorem dX13_init_65 : decode cX13_init 65 = .ok (.bipush 8, 2) := by decide +kernel
theorem dX13_init_67 : decode cX13_init 67 = .ok (.newarray .int, 2) := by decide +kernel
theorem dX13_init_69 : decode cX13_init 69 = .ok (.putfield 31, 3) := by decide +kernel
theorem dX13_init_72 : decode cX13_init 72 = .ok (.aload_n 0, 1) := by decide +kernel
theorem dX13_init_73 : decode cX13_init 73 = .ok (.sipush 260, 3) := by decide +kernel
theorem dX13_init_76 : decode cX13_init 76 = .ok (.newarray .byte, 2) := by decide +kernel
theorem dX13_init_78 : decode cX13_init 78 = .ok (.putfield 34, 3) := by decide +kernel
theorem dX13_init_81 : decode cX13_init 81 = .ok (.aload_n 0, 1) := by decide +kernel
theorem dX13_init_82 : decode cX13_init 82 = .ok (.sipush 260, 3) := by decide +kernel
theorem dX13_init_85 : decode cX13_init 85 = .ok (.newarray .int, 2) := by decide +kernel
theorem dX13_init_87 : decode cX13_init 87 = .ok (.putfield 38, 3) := by decide +kernel
theorem dX13_init_90 : decode cX13_init 90 = .ok (.aload_n 0, 1) := by decide +kernel
theorem dX13_init_91 : decode cX13_init 91 = .ok (.sipush 260, 3) := by decide +kernel
theorem dX13_init_94 : decode cX13_init 94 = .ok (.newarray .int, 2) := by decide +kernel
theorem dX13_init_96 : decode cX13_init 96 = .ok (.putfield 41, 3) := by decide +kernel
theorem dX13_init_99 : decode cX13_init 99 = .ok (.aload_n 0, 1) := by decide +kernel
theorem dX13_init_100 : decode cX13_init 100 = .ok (.bipush 16, 2) := by decide +kernel
theorem dX13_init_102 : decode cX13_init 102 = .ok (.newarray .int, 2) := by decide +kernel
theorem dX13_init_104 : decode cX13_init 104 = .ok (.putfield 44, 3) := by decide +kernel
theorem dX13_init_107 : decode cX13_init 107 = .ok (.aload_n 0, 1) := by decide +kernel
theorem dX13_init_108 : decode cX13_init 108 = .ok (.bipush 16, 2) := by decide +kernel
theorem dX13_init_110 : decode cX13_init 110 = .ok (.newarray .int, 2) := by decide +kernel
theorem dX13_init_112 : decode cX13_init 112 = .ok (.putfield 47, 3) := by decide +kernel
theorem dX13_init_115 : decode cX13_init 115 = .ok (.aload_n 0, 1) := by decide +kernel
theorem dX13_init_116 : decode cX13_init 116 = .ok (.bipush 16, 2) := by decide +kernel
theorem dX13_init_118 : decode cX13_init 118 = .ok (.newarray .int, 2) := by decide +kernel
theorem dX13_init_120 : decode cX13_init 120 = .ok (.putfield 50, 3) := by decide +kernel
theorem dX13_init_123 : decode cX13_init 123 = .ok (.aload_n 0, 1) := by decide +kernel
theorem dX13_init_124 : decode cX13_init 124 = .ok (.bipush 16, 2) := by decide +kernel
theorem dX13_init_126 : decode cX13_init 126 = .ok (.newarray .int, 2) := by decide +kernel
theorem dX13_init_128 : decode cX13_init 128 = .ok (.putfield 53, 3) := by decide +kernel
theorem dX13_init_131 : decode cX13_init 131 = .ok (.aload_n 0, 1) := by decide +kernel
theorem dX13_init_132 : decode cX13_init 132 = .ok (.sipush 260, 3) := by decide +kernel
theorem dX13_init_135 : decode cX13_init 135 = .ok (.newarray .int, 2) := by decide +kernel
theorem dX13_init_137 : decode cX13_init 137 = .ok (.putfield 56, 3) := by decide +kernel
theorem dX13_init_140 : decode cX13_init 140 = .ok (.aload_n 0, 1) := by decide +kernel
theorem dX13_init_141 : decode cX13_init 141 = .ok (.bipush 16, 2) := by decide +kernel
theorem dX13_init_143 : decode cX13_init 143 = .ok (.newarray .int, 2) := by decide +kernel
theorem dX13_init_145 : decode cX13_init 145 = .ok (.putfield 59, 3) := by decide +kernel
theorem dX13_init_148 : decode cX13_init 148 = .ok (.aload_n 0, 1) := by decide +kernel
theorem dX13_init_149 : decode cX13_init 149 = .ok (.bipush 16, 2) := by decide +kernel
theorem dX13_init_151 : decode cX13_init 151 = .ok (.newarray .int, 2) := by decide +kernel
theorem dX13_init_153 : decode cX13_init 153 = .ok (.putfield 62, 3) := by decide +kernel
theorem dX13_init_156 : decode cX13_init 156 = .ok (.aload_n 0, 1) := by decide +kernel
theorem dX13_init_157 : decode cX13_init 157 = .ok (.bipush 16, 2) := by decide +kernel
theorem dX13_init_159 : decode cX13_init 159 = .ok (.newarray .int, 2) := by decide +kernel
theorem dX13_init_161 : decode cX13_init 161 = .ok (.putfield 65, 3) := by decide +kernel
theorem dX13_init_164 : decode cX13_init 164 = .ok (.aload_n 0, 1) := by decide +kernel
theorem dX13_init_165 : decode cX13_init 165 = .ok (.bipush 16, 2) := by decide +kernel
theorem dX13_init_167 : decode cX13_init 167 = .ok (.newarray .int, 2) := by decide +kernel
theorem dX13_init_169 : decode cX13_init 169 = .ok (.putfield 68, 3) := by decide +kernel
theorem dX13_init_172 : decode cX13_init 172 = .ok (.aload_n 0, 1) := by decide +kernel
theorem dX13_init_173 : decode cX13_init 173 = .ok (.sipush 260, 3) := by decide +kernel
theorem dX13_init_176 : decode cX13_init 176 = .ok (.newarray .int, 2) := by decide +kernel
theorem dX13_init_178 : decode cX13_init 178 = .ok (.putfield 71, 3) := by decide +kernel
theorem dX13_init_181 : decode cX13_init 181 = .ok (.aload_n 0, 1) := by decide +kernel
theorem dX13_init_182 : decode cX13_init 182 = .ok (.bipush 8, 2) := by decide +kernel
theorem dX13_init_184 : decode cX13_init 184 = .ok (.newarray .int, 2) := by decide +kernel
theorem dX13_init_186 : decode cX13_init 186 = .ok (.putfield 74, 3) := by decide +kernel
theorem dX13_init_189 : decode cX13_init 189 = .ok (.aload_n 0, 1) := by decide +kernel
theorem dX13_init_190 : decode cX13_init 190 = .ok (.bipush 60, 2) := by decide +kernel
theorem dX13_init_192 : decode cX13_init 192 = .ok (.newarray .int, 2) := by decide +kernel
theorem dX13_init_194 : decode cX13_init 194 = .ok (.putfield 77, 3) := by decide +kernel
theorem dX13_init_197 : decode cX13_init 197 = .ok (.aload_n 0, 1) := by decide +kernel
theorem dX13_init_198 : decode cX13_init 198 = .ok (.bipush 60, 2) := by decide +kernel
theorem dX13_init_200 : decode cX13_init 200 = .ok (.newarray .int, 2) := by decide +kernel
theorem dX13_init_202 : decode cX13_init 202 = .ok (.putfield 80, 3) := by decide +kernel
theorem dX13_init_205 : decode cX13_init 205 = .ok (.aload_n 0, 1) := by decide +kernel
theorem dX13_init_206 : decode cX13_init 206 = .ok (.bipush 60, 2) := by decide +kernel
theorem dX13_init_208 : decode cX13_init 208 = .ok (.newarray .int, 2) := by decide +kernel
theorem dX13_init_210 : decode cX13_init 210 = .ok (.putfield 83, 3) := by decide +kernel
theorem dX13_init_213 : decode cX13_init 213 = .ok (.aload_n 0, 1) := by decide +kernel
theorem dX13_init_214 : decode cX13_init 214 = .ok (.bipush 60, 2) := by decide +kernel
theorem dX13_init_216 : decode cX13_init 216 = .ok (.newarray .int, 2) := by decide +kernel
theorem dX13_init_218 : decode cX13_init 218 = .ok (.putfield 86, 3) := by decide +kernel
theorem dX13_init_221 : decode cX13_init 221 = .ok (.aload_n 0, 1) := by decide +kernel
theorem dX13_init_222 : decode cX13_init 222 = .ok (.iconst 2, 1) := by decide +kernel
theorem dX13_init_223 : decode cX13_init 223 = .ok (.newarray .int, 2) := by decide +kernel
theorem dX13_init_225 : decode cX13_init 225 = .ok (.putfield 89, 3) := by decide +kernel
theorem dX13_init_228 : decode cX13_init 228 = .ok (.aload_n 0, 1) := by decide +kernel
theorem dX13_init_229 : decode cX13_init 229 = .ok (.iconst 2, 1) := by decide +kernel
theorem dX13_init_230 : decode cX13_init 230 = .ok (.newarray .int, 2) := by decide +kernel
theorem dX13_init_232 : decode cX13_init 232 = .ok (.putfield 92, 3) := by decide +kernel
theorem dX13_init_235 : decode cX13_init 235 = .ok (.aload_n 0, 1) := by decide +kernel
theorem dX13_init_236 : decode cX13_init 236 = .ok (.bipush 8, 2) := by decide +kernel
theorem dX13_init_238 : decode cX13_init 238 = .ok (.newarray .int, 2) := by decide +kernel
theorem dX13_init_240 : decode cX13_init 240 = .ok (.putfield 95, 3) := by decide +kernel
theorem dX13_init_243 : decode cX13_init 243 = .ok (.aload_n 0, 1) := by decide +kernel
theorem dX13_init_244 : decode cX13_init 244 = .ok (.bipush 60, 2) := by decide +kernel
theorem dX13_init_246 : decode cX13_init 246 = .ok (.newarray .int, 2) := by decide +kernel
theorem dX13_init_248 : decode cX13_init 248 = .ok (.putfield 98, 3) := by decide +kernel
theorem dX13_init_251 : decode cX13_init 251 = .ok (.aload_n 0, 1) := by decide +kernel
theorem dX13_init_252 : decode cX13_init 252 = .ok (.bipush 60, 2) := by decide +kernel
theorem dX13_init_254 : decode cX13_init 254 = .ok (.newarray .int, 2) := by decide +kernel
theorem dX13_init_256 : decode cX13_init 256 = .ok (.putfield 101, 3) := by decide +kernel
theorem dX13_init_259 : decode cX13_init 259 = .ok (.aload_n 0, 1) := by decide +kernel
theorem dX13_init_260 : decode cX13_init 260 = .ok (.bipush 61, 2) := by decide +kernel
theorem dX13_init_262 : decode cX13_init 262 = .ok (.newarray .int, 2) := by decide +kernel
theorem dX13_init_264 : decode cX13_init 264 = .ok (.putfield 104, 3) := by decide +kernel
theorem dX13_init_267 : decode cX13_init 267 = .ok (.aload_n 0, 1) := by decide +kernel
theorem dX13_init_268 : decode cX13_init 268 = .ok (.getfield 7, 3) := by decide +kernel
theorem dX13_init_271 : decode cX13_init 271 = .ok (.bipush 81, 2) := by decide +kernel
theorem dX13_init_273 : decode cX13_init 273 = .ok (.iconst 1, 1) := by decide +kernel
theorem dX13_init_274 : decode cX13_init 274 = .ok (.iastore, 1) := by decide +kernel
theorem dX13_init_275 : decode cX13_init 275 = .ok (.aload_n 0, 1) := by decide +kernel
theorem dX13_init_276 : decode cX13_init 276 = .ok (.bipush 15, 2) := by decide +kernel
theorem dX13_init_278 : decode cX13_init 278 = .ok (.putfield 107, 3) := by decide +kernel
theorem dX13_init_281 : decode cX13_init 281 = .ok (.aload_n 0, 1) := by decide +kernel
theorem dX13_init_282 : decode cX13_init 282 = .ok (.bipush 120, 2) := by decide +kernel
theorem dX13_init_284 : decode cX13_init 284 = .ok (.putfield 111, 3) := by decide +kernel
theorem dX13_init_287 : decode cX13_init 287 = .ok (.return_, 1) := by decide +kernel
theorem dX13_in_0 : decode cX13_in 0 = .ok (.iload_n 0, 1) := by decide +kernel
theorem dX13_in_1 : decode cX13_in 1 = .ok (.iload_n 1, 1) := by decide +kernel
theorem dX13_in_2 : decode cX13_in 2 = .ok (.if_icmp .lt 12, 3) := by decide +kernel
theorem dX13_in_5 : decode cX13_in 5 = .ok (.iload_n 0, 1) := by decide +kernel
theorem dX13_in_6 : decode cX13_in 6 = .ok (.iload_n 2, 1) := by decide +kernel
theorem dX13_in_7 : decode cX13_in 7 = .ok (.if_icmp .gt 7, 3) := by decide +kernel
theorem dX13_in_10 : decode cX13_in 10 = .ok (.iconst 1, 1) := by decide +kernel
theorem dX13_in_11 : decode cX13_in 11 = .ok (.goto 4, 3) := by decide +kernel
theorem dX13_in_14 : decode cX13_in 14 = .ok (.iconst 0, 1) := by decide +kernel
theorem dX13_in_15 : decode cX13_in 15 = .ok (.ireturn, 1) := by decide +kernel
theorem dX13_min_0 : decode cX13_min 0 = .ok (.iload_n 0, 1) := by decide +kernel
theorem dX13_min_1 : decode cX13_min 1 = .ok (.iload_n 1, 1) := by decide +kernel
theorem dX13_min_2 : decode cX13_min 2 = .ok (.if_icmp .ge 7, 3) := by decide +kernel
theorem dX13_min_5 : decode cX13_min 5 = .ok (.iload_n 0, 1) := by decide +kernel
theorem dX13_min_6 : decode cX13_min 6 = .ok (.goto 4, 3) := by decide +kernel
theorem dX13_min_9 : decode cX13_min 9 = .ok (.iload_n 1, 1) := by decide +kernel
theorem dX13_min_10 : decode cX13_min 10 = .ok (.ireturn, 1) := by decide +kernel
theorem dX13_max_0 : decode cX13_max 0 = .ok (.iload_n 0, 1) := by decide +kernel
theorem dX13_max_1 : decode cX13_max 1 = .ok (.iload_n 1, 1) := by decide +kernel
theorem dX13_max_2 : decode cX13_max 2 = .ok (.if_icmp .le 7, 3) := by decide +kernel
theorem dX13_max_5 : decode cX13_max 5 = .ok (.iload_n 0, 1) := by decide +kernel
theorem dX13_max_6 : decode cX13_max 6 = .ok (.goto 4, 3) := by decide +kernel
theorem dX13_max_9 : decode cX13_max 9 = .ok (.iload_n 1, 1) := by decide +kernel
theorem dX13_max_10 : decode cX13_max 10 = .ok (.ireturn, 1) := by decide +kernel
theorem dX13_size_0 : decode cX13_size 0 = .ok (.iload_n 0, 1) := by decide +kernel
theorem dX13_size_1 : decode cX13_size 1 = .ok (.ifCond .ge 8, 3) := by decide +kernel
theorem dX13_size_4 : decode cX13_size 4 = .ok (.iload_n 0, 1) := by decide +kernel
theorem dX13_size_5 : decode cX13_size 5 = .ok (.ineg, 1) := by decide +kernel
theorem dX13_size_6 : decode cX13_size 6 = .ok (.goto 4, 3) := by decide +kernel
theorem dX13_size_9 : decode cX13_size 9 = .ok (.iload_n 0, 1) := by decide +kernel
theorem dX13_size_10 : decode cX13_size 10 = .ok (.ireturn, 1) := by decide +kernel
theorem dX13_has_0 : decode cX13_has 0 = .ok (.iload_n 0, 1) := by decide +kernel
theorem dX13_has_1 : decode cX13_has 1 = .ok (.iload_n 1, 1) := by decide +kernel
theorem dX13_has_2 : decode cX13_has 2 = .ok (.ishr, 1) := by decide +kernel
theorem dX13_has_3 : decode cX13_has 3 = .ok (.iconst 1, 1) := by decide +kernel
theorem dX13_has_4 : decode cX13_has 4 = .ok (.iand, 1) := by decide +kernel
theorem dX13_has_5 : decode cX13_has 5 = .ok (.iconst 1, 1) := by decide +kernel
theorem dX13_has_6 : decode cX13_has 6 = .ok (.if_icmp .ne 7, 3) := by decide +kernel
theorem dX13_has_9 : decode cX13_has 9 = .ok (.iconst 1, 1) := by decide +kernel
theorem dX13_has_10 : decode cX13_has 10 = .ok (.goto 4, 3) := by decide +kernel
theorem dX13_has_13 : decode cX13_has 13 = .ok (.iconst 0, 1) := by decide +kernel
theorem dX13_has_14 : decode cX13_has 14 = .ok (.ireturn, 1) := by decide +kernel
theorem dX13_bits_0 : decode cX13_bits 0 = .ok (.iconst 0, 1) := by decide +kernel
theorem dX13_bits_1 : decode cX13_bits 1 = .ok (.istore_n 1, 1) := by decide +kernel
theorem dX13_bits_2 : decode cX13_bits 2 = .ok (.iconst 0, 1) := by decide +kernel
theorem dX13_bits_3 : decode cX13_bits 3 = .ok (.istore_n 2, 1) := by decide +kernel
theorem dX13_bits_4 : decode cX13_bits 4 = .ok (.iload_n 2, 1) := by decide +kernel
theorem dX13_bits_5 : decode cX13_bits 5 = .ok (.bipush 8, 2) := by decide +kernel
theorem dX13_bits_7 : decode cX13_bits 7 = .ok (.if_icmp .ge 17, 3) := by decide +kernel
theorem dX13_bits_10 : decode cX13_bits 10 = .ok (.iload_n 1, 1) := by decide +kernel
theorem dX13_bits_11 : decode cX13_bits 11 = .ok (.iload_n 0, 1) := by decide +kernel
theorem dX13_bits_12 : decode cX13_bits 12 = .ok (.iload_n 2, 1) := by decide +kernel
theorem dX13_bits_13 : decode cX13_bits 13 = .ok (.ishr, 1) := by decide +kernel
theorem dX13_bits_14 : decode cX13_bits 14 = .ok (.iconst 1, 1) := by decide +kernel
theorem dX13_bits_15 : decode cX13_bits 15 = .ok (.iand, 1) := by decide +kernel
theorem dX13_bits_16 : decode cX13_bits 16 = .ok (.iadd, 1) := by decide +kernel
theorem dX13_bits_17 : decode cX13_bits 17 = .ok (.istore_n 1, 1) := by decide +kernel
theorem dX13_bits_18 : decode cX13_bits 18 = .ok (.iinc 2 1, 3) := by decide +kernel
theorem dX13_bits_21 : decode cX13_bits 21 = .ok (.goto (-17), 3) := by decide +kernel
theorem dX13_bits_24 : decode cX13_bits 24 = .ok (.iload_n 1, 1) := by decide +kernel
theorem dX13_bits_25 : decode cX13_bits 25 = .ok (.ireturn, 1) := by decide +kernel
theorem dX13_copies_0 : decode cX13_copies 0 = .ok (.iconst 0, 1) := by decide +kernel
theorem dX13_copies_1 : decode cX13_copies 1 = .ok (.istore_n 2, 1) := by decide +kernel
theorem dX13_copies_2 : decode cX13_copies 2 = .ok (.iload_n 2, 1) := by decide +kernel
theorem dX13_copies_3 : decode cX13_copies 3 = .ok (.bipush 82, 2) := by decide +kernel
theorem dX13_copies_5 : decode cX13_copies 5 = .ok (.if_icmp .ge 15, 3) := by decide +kernel
theorem dX13_copies_8 : decode cX13_copies 8 = .ok (.aload_n 1, 1) := by decide +kernel
theorem dX13_copies_9 : decode cX13_copies 9 = .ok (.iload_n 2, 1) := by decide +kernel
theorem dX13_copies_10 : decode cX13_copies 10 = .ok (.aload_n 0, 1) := by decide +kernel
theorem dX13_copies_11 : decode cX13_copies 11 = .ok (.iload_n 2, 1) := by decide +kernel
theorem dX13_copies_12 : decode cX13_copies 12 = .ok (.iaload, 1) := by decide +kernel
theorem dX13_copies_13 : decode cX13_copies 13 = .ok (.iastore, 1) := by decide +kernel
theorem dX13_copies_14 : decode cX13_copies 14 = .ok (.iinc 2 1, 3) := by decide +kernel
theorem dX13_copies_17 : decode cX13_copies 17 = .ok (.goto (-15), 3) := by decide +kernel
theorem dX13_copies_20 : decode cX13_copies 20 = .ok (.return_, 1) := by decide +kernel
theorem dX13_isTold_0 : decode cX13_isTold 0 = .ok (.iload_n 1, 1) := by decide +kernel
theorem dX13_isTold_1 : decode cX13_isTold 1 = .ok (.iconst 0, 1) := by decide +kernel
theorem dX13_isTold_2 : decode cX13_isTold 2 = .ok (.bipush 7, 2) := by decide +kernel
theorem dX13_isTold_4 : decode cX13_isTold 4 = .ok (.invokestatic 114, 3) := by decide +kernel
theorem dX13_isTold_7 : decode cX13_isTold 7 = .ok (.ifCond .eq 19, 3) := by decide +kernel
theorem dX13_isTold_10 : decode cX13_isTold 10 = .ok (.aload_n 0, 1) := by decide +kernel
theorem dX13_isTold_11 : decode cX13_isTold 11 = .ok (.getfield 7, 3) := by decide +kernel
theorem dX13_isTold_14 : decode cX13_isTold 14 = .ok (.iconst 0, 1) := by decide +kernel
theorem dX13_isTold_15 : decode cX13_isTold 15 = .ok (.iload_n 1, 1) := by decide +kernel
theorem dX13_isTold_16 : decode cX13_isTold 16 = .ok (.iadd, 1) := by decide +kernel
theorem dX13_isTold_17 : decode cX13_isTold 17 = .ok (.iaload, 1) := by decide +kernel
theorem dX13_isTold_18 : decode cX13_isTold 18 = .ok (.iconst 1, 1) := by decide +kernel
theorem dX13_isTold_19 : decode cX13_isTold 19 = .ok (.if_icmp .ne 7, 3) := by decide +kernel
theorem dX13_isTold_22 : decode cX13_isTold 22 = .ok (.iconst 1, 1) := by decide +kernel
theorem dX13_isTold_23 : decode cX13_isTold 23 = .ok (.goto 4, 3) := by decide +kernel
theorem dX13_isTold_26 : decode cX13_isTold 26 = .ok (.iconst 0, 1) := by decide +kernel
theorem dX13_isTold_27 : decode cX13_isTold 27 = .ok (.ireturn, 1) := by decide +kernel
theorem dX13_toldSet_0 : decode cX13_toldSet 0 = .ok (.iconst 0, 1) := by decide +kernel
theorem dX13_toldSet_1 : decode cX13_toldSet 1 = .ok (.istore_n 1, 1) := by decide +kernel
theorem dX13_toldSet_2 : decode cX13_toldSet 2 = .ok (.iconst 0, 1) := by decide +kernel
theorem dX13_toldSet_3 : decode cX13_toldSet 3 = .ok (.istore_n 2, 1) := by decide +kernel
theorem dX13_toldSet_4 : decode cX13_toldSet 4 = .ok (.iload_n 2, 1) := by decide +kernel
theorem dX13_toldSet_5 : decode cX13_toldSet 5 = .ok (.bipush 8, 2) := by decide +kernel
theorem dX13_toldSet_7 : decode cX13_toldSet 7 = .ok (.if_icmp .ge 23, 3) := by decide +kernel
theorem dX13_toldSet_10 : decode cX13_toldSet 10 = .ok (.aload_n 0, 1) := by decide +kernel
theorem dX13_toldSet_11 : decode cX13_toldSet 11 = .ok (.iload_n 2, 1) := by decide +kernel
theorem dX13_toldSet_12 : decode cX13_toldSet 12 = .ok (.invokevirtual 118, 3) := by decide +kernel
theorem dX13_toldSet_15 : decode cX13_toldSet 15 = .ok (.ifCond .eq 9, 3) := by decide +kernel
theorem dX13_toldSet_18 : decode cX13_toldSet 18 = .ok (.iload_n 1, 1) := by decide +kernel
theorem dX13_toldSet_19 : decode cX13_toldSet 19 = .ok (.iconst 1, 1) := by decide +kernel
theorem dX13_toldSet_20 : decode cX13_toldSet 20 = .ok (.iload_n 2, 1) := by decide +kernel
theorem dX13_toldSet_21 : decode cX13_toldSet 21 = .ok (.ishl, 1) := by decide +kernel
theorem dX13_toldSet_22 : decode cX13_toldSet 22 = .ok (.ior, 1) := by decide +kernel
theorem dX13_toldSet_23 : decode cX13_toldSet 23 = .ok (.istore_n 1, 1) := by decide +kernel
theorem dX13_toldSet_24 : decode cX13_toldSet 24 = .ok (.iinc 2 1, 3) := by decide +kernel
theorem dX13_toldSet_27 : decode cX13_toldSet 27 = .ok (.goto (-23), 3) := by decide +kernel
theorem dX13_toldSet_30 : decode cX13_toldSet 30 = .ok (.iload_n 1, 1) := by decide +kernel
theorem dX13_toldSet_31 : decode cX13_toldSet 31 = .ok (.ireturn, 1) := by decide +kernel
theorem dX13_isDone_0 : decode cX13_isDone 0 = .ok (.aload_n 0, 1) := by decide +kernel
theorem dX13_isDone_1 : decode cX13_isDone 1 = .ok (.getfield 7, 3) := by decide +kernel
theorem dX13_isDone_4 : decode cX13_isDone 4 = .ok (.bipush 40, 2) := by decide +kernel
theorem dX13_isDone_6 : decode cX13_isDone 6 = .ok (.iload_n 1, 1) := by decide +kernel
theorem dX13_isDone_7 : decode cX13_isDone 7 = .ok (.iadd, 1) := by decide +kernel
theorem dX13_isDone_8 : decode cX13_isDone 8 = .ok (.iaload, 1) := by decide +kernel
theorem dX13_isDone_9 : decode cX13_isDone 9 = .ok (.aload_n 0, 1) := by decide +kernel
theorem dX13_isDone_10 : decode cX13_isDone 10 = .ok (.getfield 31, 3) := by decide +kernel
theorem dX13_isDone_13 : decode cX13_isDone 13 = .ok (.iload_n 1, 1) := by decide +kernel
theorem dX13_isDone_14 : decode cX13_isDone 14 = .ok (.iaload, 1) := by decide +kernel
theorem dX13_isDone_15 : decode cX13_isDone 15 = .ok (.if_icmp .lt 7, 3) := by decide +kernel
theorem dX13_isDone_18 : decode cX13_isDone 18 = .ok (.iconst 1, 1) := by decide +kernel
theorem dX13_isDone_19 : decode cX13_isDone 19 = .ok (.goto 4, 3) := by decide +kernel
theorem dX13_isDone_22 : decode cX13_isDone 22 = .ok (.iconst 0, 1) := by decide +kernel
theorem dX13_isDone_23 : decode cX13_isDone 23 = .ok (.ireturn, 1) := by decide +kernel
theorem dX13_holdsTo_0 : decode cX13_holdsTo 0 = .ok (.iconst 0, 1) := by decide +kernel
theorem dX13_holdsTo_1 : decode cX13_holdsTo 1 = .ok (.istore_n 3, 1) := by decide +kernel
theorem dX13_holdsTo_2 : decode cX13_holdsTo 2 = .ok (.iconst 0, 1) := by decide +kernel
theorem dX13_holdsTo_3 : decode cX13_holdsTo 3 = .ok (.istore 4, 2) := by decide +kernel
theorem dX13_holdsTo_5 : decode cX13_holdsTo 5 = .ok (.iload 4, 2) := by decide +kernel
theorem dX13_holdsTo_7 : decode cX13_holdsTo 7 = .ok (.iload_n 2, 1) := by decide +kernel
theorem dX13_holdsTo_8 : decode cX13_holdsTo 8 = .ok (.if_icmp .ge 24, 3) := by decide +kernel
theorem dX13_holdsTo_11 : decode cX13_holdsTo 11 = .ok (.iload_n 3, 1) := by decide +kernel
theorem dX13_holdsTo_12 : decode cX13_holdsTo 12 = .ok (.aload_n 0, 1) := by decide +kernel
theorem dX13_holdsTo_13 : decode cX13_holdsTo 13 = .ok (.getfield 22, 3) := by decide +kernel
theorem dX13_holdsTo_16 : decode cX13_holdsTo 16 = .ok (.bipush 60, 2) := by decide +kernel
theorem dX13_holdsTo_18 : decode cX13_holdsTo 18 = .ok (.iload_n 1, 1) := by decide +kernel
theorem dX13_holdsTo_19 : decode cX13_holdsTo 19 = .ok (.imul, 1) := by decide +kernel
theorem dX13_holdsTo_20 : decode cX13_holdsTo 20 = .ok (.iload 4, 2) := by decide +kernel
theorem dX13_holdsTo_22 : decode cX13_holdsTo 22 = .ok (.iadd, 1) := by decide +kernel
theorem dX13_holdsTo_23 : decode cX13_holdsTo 23 = .ok (.iaload, 1) := by decide +kernel
theorem dX13_holdsTo_24 : decode cX13_holdsTo 24 = .ok (.iadd, 1) := by decide +kernel
theorem dX13_holdsTo_25 : decode cX13_holdsTo 25 = .ok (.istore_n 3, 1) := by decide +kernel
theorem dX13_holdsTo_26 : decode cX13_holdsTo 26 = .ok (.iinc 4 1, 3) := by decide +kernel
theorem dX13_holdsTo_29 : decode cX13_holdsTo 29 = .ok (.goto (-24), 3) := by decide +kernel
theorem dX13_holdsTo_32 : decode cX13_holdsTo 32 = .ok (.iload_n 3, 1) := by decide +kernel
theorem dX13_holdsTo_33 : decode cX13_holdsTo 33 = .ok (.ireturn, 1) := by decide +kernel
theorem dX13_begins_0 : decode cX13_begins 0 = .ok (.aload_n 0, 1) := by decide +kernel
theorem dX13_begins_1 : decode cX13_begins 1 = .ok (.getfield 7, 3) := by decide +kernel
theorem dX13_begins_4 : decode cX13_begins 4 = .ok (.bipush 40, 2) := by decide +kernel
theorem dX13_begins_6 : decode cX13_begins 6 = .ok (.iload_n 1, 1) := by decide +kernel
theorem dX13_begins_7 : decode cX13_begins 7 = .ok (.iadd, 1) := by decide +kernel
theorem dX13_begins_8 : decode cX13_begins 8 = .ok (.iconst 0, 1) := by decide +kernel
theorem dX13_begins_9 : decode cX13_begins 9 = .ok (.iastore, 1) := by decide +kernel
theorem dX13_begins_10 : decode cX13_begins 10 = .ok (.aload_n 0, 1) := by decide +kernel
theorem dX13_begins_11 : decode cX13_begins 11 = .ok (.getfield 7, 3) := by decide +kernel
theorem dX13_begins_14 : decode cX13_begins 14 = .ok (.bipush 48, 2) := by decide +kernel
theorem dX13_begins_16 : decode cX13_begins 16 = .ok (.iload_n 1, 1) := by decide +kernel
theorem dX13_begins_17 : decode cX13_begins 17 = .ok (.iadd, 1) := by decide +kernel
theorem dX13_begins_18 : decode cX13_begins 18 = .ok (.iconst 0, 1) := by decide +kernel
theorem dX13_begins_19 : decode cX13_begins 19 = .ok (.iastore, 1) := by decide +kernel
theorem dX13_begins_20 : decode cX13_begins 20 = .ok (.aload_n 0, 1) := by decide +kernel
theorem dX13_begins_21 : decode cX13_begins 21 = .ok (.getfield 7, 3) := by decide +kernel
theorem dX13_begins_24 : decode cX13_begins 24 = .ok (.bipush 56, 2) := by decide +kernel
theorem dX13_begins_26 : decode cX13_begins 26 = .ok (.iload_n 1, 1) := by decide +kernel
theorem dX13_begins_27 : decode cX13_begins 27 = .ok (.iadd, 1) := by decide +kernel
theorem dX13_begins_28 : decode cX13_begins 28 = .ok (.aload_n 0, 1) := by decide +kernel
theorem dX13_begins_29 : decode cX13_begins 29 = .ok (.getfield 7, 3) := by decide +kernel
theorem dX13_begins_32 : decode cX13_begins 32 = .ok (.bipush 32, 2) := by decide +kernel
theorem dX13_begins_34 : decode cX13_begins 34 = .ok (.iload_n 1, 1) := by decide +kernel
theorem dX13_begins_35 : decode cX13_begins 35 = .ok (.iadd, 1) := by decide +kernel
theorem dX13_begins_36 : decode cX13_begins 36 = .ok (.iaload, 1) := by decide +kernel
theorem dX13_begins_37 : decode cX13_begins 37 = .ok (.iastore, 1) := by decide +kernel
theorem dX13_begins_38 : decode cX13_begins 38 = .ok (.aload_n 0, 1) := by decide +kernel
theorem dX13_begins_39 : decode cX13_begins 39 = .ok (.getfield 7, 3) := by decide +kernel
theorem dX13_begins_42 : decode cX13_begins 42 = .ok (.bipush 64, 2) := by decide +kernel
theorem dX13_begins_44 : decode cX13_begins 44 = .ok (.iload_n 1, 1) := by decide +kernel
theorem dX13_begins_45 : decode cX13_begins 45 = .ok (.iadd, 1) := by decide +kernel
theorem dX13_begins_46 : decode cX13_begins 46 = .ok (.iconst 0, 1) := by decide +kernel
theorem dX13_begins_47 : decode cX13_begins 47 = .ok (.iastore, 1) := by decide +kernel
theorem dX13_begins_48 : decode cX13_begins 48 = .ok (.aload_n 0, 1) := by decide +kernel
theorem dX13_begins_49 : decode cX13_begins 49 = .ok (.getfield 7, 3) := by decide +kernel
theorem dX13_begins_52 : decode cX13_begins 52 = .ok (.bipush 72, 2) := by decide +kernel
theorem dX13_begins_54 : decode cX13_begins 54 = .ok (.iload_n 1, 1) := by decide +kernel
theorem dX13_begins_55 : decode cX13_begins 55 = .ok (.iadd, 1) := by decide +kernel
theorem dX13_begins_56 : decode cX13_begins 56 = .ok (.iconst 0, 1) := by decide +kernel
theorem dX13_begins_57 : decode cX13_begins 57 = .ok (.iastore, 1) := by decide +kernel
theorem dX13_begins_58 : decode cX13_begins 58 = .ok (.return_, 1) := by decide +kernel
theorem dX13_singer_0 : decode cX13_singer 0 = .ok (.iload_n 1, 1) := by decide +kernel
theorem dX13_singer_1 : decode cX13_singer 1 = .ok (.iconst 0, 1) := by decide +kernel
theorem dX13_singer_2 : decode cX13_singer 2 = .ok (.bipush 7, 2) := by decide +kernel
theorem dX13_singer_4 : decode cX13_singer 4 = .ok (.invokestatic 114, 3) := by decide +kernel
theorem dX13_singer_7 : decode cX13_singer 7 = .ok (.ifCond .eq 45, 3) := by decide +kernel
theorem dX13_singer_10 : decode cX13_singer 10 = .ok (.iload_n 2, 1) := by decide +kernel
theorem dX13_singer_11 : decode cX13_singer 11 = .ok (.bipush (-20), 2) := by decide +kernel
theorem dX13_singer_13 : decode cX13_singer 13 = .ok (.bipush 20, 2) := by decide +kernel
theorem dX13_singer_15 : decode cX13_singer 15 = .ok (.invokestatic 114, 3) := by decide +kernel
theorem dX13_singer_18 : decode cX13_singer 18 = .ok (.ifCond .eq 34, 3) := by decide +kernel
theorem dX13_singer_21 : decode cX13_singer 21 = .ok (.iload_n 3, 1) := by decide +kernel
theorem dX13_singer_22 : decode cX13_singer 22 = .ok (.iconst 0, 1) := by decide +kernel
theorem dX13_singer_23 : decode cX13_singer 23 = .ok (.bipush 15, 2) := by decide +kernel
theorem dX13_singer_25 : decode cX13_singer 25 = .ok (.invokestatic 114, 3) := by decide +kernel
theorem dX13_singer_28 : decode cX13_singer 28 = .ok (.ifCond .eq 24, 3) := by decide +kernel
theorem dX13_singer_31 : decode cX13_singer 31 = .ok (.iload 4, 2) := by decide +kernel
theorem dX13_singer_33 : decode cX13_singer 33 = .ok (.iconst 0, 1) := by decide +kernel
theorem dX13_singer_34 : decode cX13_singer 34 = .ok (.iconst 3, 1) := by decide +kernel
theorem dX13_singer_35 : decode cX13_singer 35 = .ok (.invokestatic 114, 3) := by decide +kernel
theorem dX13_singer_38 : decode cX13_singer 38 = .ok (.ifCond .eq 14, 3) := by decide +kernel
theorem dX13_singer_41 : decode cX13_singer 41 = .ok (.iload 5, 2) := by decide +kernel
theorem dX13_singer_43 : decode cX13_singer 43 = .ok (.iconst 1, 1) := by decide +kernel
theorem dX13_singer_44 : decode cX13_singer 44 = .ok (.bipush 20, 2) := by decide +kernel
theorem dX13_singer_46 : decode cX13_singer 46 = .ok (.invokestatic 114, 3) := by decide +kernel
theorem dX13_singer_49 : decode cX13_singer 49 = .ok (.ifCond .ne 5, 3) := by decide +kernel
theorem dX13_singer_52 : decode cX13_singer 52 = .ok (.iconst 0, 1) := by decide +kernel
theorem dX13_singer_53 : decode cX13_singer 53 = .ok (.ireturn, 1) := by decide +kernel
theorem dX13_singer_54 : decode cX13_singer 54 = .ok (.aload_n 0, 1) := by decide +kernel
theorem dX13_singer_55 : decode cX13_singer 55 = .ok (.getfield 7, 3) := by decide +kernel
theorem dX13_singer_58 : decode cX13_singer 58 = .ok (.iconst 0, 1) := by decide +kernel
theorem dX13_singer_59 : decode cX13_singer 59 = .ok (.iload_n 1, 1) := by decide +kernel
theorem dX13_singer_60 : decode cX13_singer 60 = .ok (.iadd, 1) := by decide +kernel
theorem dX13_singer_61 : decode cX13_singer 61 = .ok (.iconst 1, 1) := by decide +kernel
theorem dX13_singer_62 : decode cX13_singer 62 = .ok (.iastore, 1) := by decide +kernel
theorem dX13_singer_63 : decode cX13_singer 63 = .ok (.aload_n 0, 1) := by decide +kernel
theorem dX13_singer_64 : decode cX13_singer 64 = .ok (.getfield 7, 3) := by decide +kernel
theorem dX13_singer_67 : decode cX13_singer 67 = .ok (.bipush 8, 2) := by decide +kernel
theorem dX13_singer_69 : decode cX13_singer 69 = .ok (.iload_n 1, 1) := by decide +kernel
theorem dX13_singer_70 : decode cX13_singer 70 = .ok (.iadd, 1) := by decide +kernel
theorem dX13_singer_71 : decode cX13_singer 71 = .ok (.iload_n 2, 1) := by decide +kernel
theorem dX13_singer_72 : decode cX13_singer 72 = .ok (.iastore, 1) := by decide +kernel
theorem dX13_singer_73 : decode cX13_singer 73 = .ok (.aload_n 0, 1) := by decide +kernel
theorem dX13_singer_74 : decode cX13_singer 74 = .ok (.getfield 7, 3) := by decide +kernel
theorem dX13_singer_77 : decode cX13_singer 77 = .ok (.bipush 16, 2) := by decide +kernel
theorem dX13_singer_79 : decode cX13_singer 79 = .ok (.iload_n 1, 1) := by decide +kernel
theorem dX13_singer_80 : decode cX13_singer 80 = .ok (.iadd, 1) := by decide +kernel
theorem dX13_singer_81 : decode cX13_singer 81 = .ok (.iload_n 3, 1) := by decide +kernel
theorem dX13_singer_82 : decode cX13_singer 82 = .ok (.iastore, 1) := by decide +kernel
theorem dX13_singer_83 : decode cX13_singer 83 = .ok (.aload_n 0, 1) := by decide +kernel
theorem dX13_singer_84 : decode cX13_singer 84 = .ok (.getfield 7, 3) := by decide +kernel
theorem dX13_singer_87 : decode cX13_singer 87 = .ok (.bipush 24, 2) := by decide +kernel
theorem dX13_singer_89 : decode cX13_singer 89 = .ok (.iload_n 1, 1) := by decide +kernel
theorem dX13_singer_90 : decode cX13_singer 90 = .ok (.iadd, 1) := by decide +kernel
theorem dX13_singer_91 : decode cX13_singer 91 = .ok (.iload 4, 2) := by decide +kernel
theorem dX13_singer_93 : decode cX13_singer 93 = .ok (.iastore, 1) := by decide +kernel
theorem dX13_singer_94 : decode cX13_singer 94 = .ok (.aload_n 0, 1) := by decide +kernel
theorem dX13_singer_95 : decode cX13_singer 95 = .ok (.getfield 7, 3) := by decide +kernel
theorem dX13_singer_98 : decode cX13_singer 98 = .ok (.bipush 32, 2) := by decide +kernel
theorem dX13_singer_100 : decode cX13_singer 100 = .ok (.iload_n 1, 1) := by decide +kernel
theorem dX13_singer_101 : decode cX13_singer 101 = .ok (.iadd, 1) := by decide +kernel
theorem dX13_singer_102 : decode cX13_singer 102 = .ok (.iload 5, 2) := by decide +kernel
theorem dX13_singer_104 : decode cX13_singer 104 = .ok (.iastore, 1) := by decide +kernel
theorem dX13_singer_105 : decode cX13_singer 105 = .ok (.aload_n 0, 1) := by decide +kernel
theorem dX13_singer_106 : decode cX13_singer 106 = .ok (.iload_n 1, 1) := by decide +kernel
theorem dX13_singer_107 : decode cX13_singer 107 = .ok (.invokevirtual 122, 3) := by decide +kernel
theorem dX13_singer_110 : decode cX13_singer 110 = .ok (.iconst 1, 1) := by decide +kernel
theorem dX13_singer_111 : decode cX13_singer 111 = .ok (.ireturn, 1) := by decide +kernel
theorem dX13_ears_0 : decode cX13_ears 0 = .ok (.iload_n 1, 1) := by decide +kernel
theorem dX13_ears_1 : decode cX13_ears 1 = .ok (.iconst 0, 1) := by decide +kernel
theorem dX13_ears_2 : decode cX13_ears 2 = .ok (.bipush 15, 2) := by decide +kernel
theorem dX13_ears_4 : decode cX13_ears 4 = .ok (.invokestatic 114, 3) := by decide +kernel
theorem dX13_ears_7 : decode cX13_ears 7 = .ok (.ifCond .ne 5, 3) := by decide +kernel
theorem dX13_ears_10 : decode cX13_ears 10 = .ok (.iconst 0, 1) := by decide +kernel
theorem dX13_ears_11 : decode cX13_ears 11 = .ok (.ireturn, 1) := by decide +kernel
theorem dX13_ears_12 : decode cX13_ears 12 = .ok (.aload_n 0, 1) := by decide +kernel
theorem dX13_ears_13 : decode cX13_ears 13 = .ok (.iload_n 1, 1) := by decide +kernel
theorem dX13_ears_14 : decode cX13_ears 14 = .ok (.putfield 107, 3) := by decide +kernel
theorem dX13_ears_17 : decode cX13_ears 17 = .ok (.iconst 1, 1) := by decide +kernel
theorem dX13_ears_18 : decode cX13_ears 18 = .ok (.ireturn, 1) := by decide +kernel
theorem dX13_tempo_0 : decode cX13_tempo 0 = .ok (.iload_n 1, 1) := by decide +kernel
theorem dX13_tempo_1 : decode cX13_tempo 1 = .ok (.bipush 60, 2) := by decide +kernel
theorem dX13_tempo_3 : decode cX13_tempo 3 = .ok (.sipush 600, 3) := by decide +kernel
theorem dX13_tempo_6 : decode cX13_tempo 6 = .ok (.invokestatic 114, 3) := by decide +kernel
theorem dX13_tempo_9 : decode cX13_tempo 9 = .ok (.ifCond .ne 5, 3) := by decide +kernel
theorem dX13_tempo_12 : decode cX13_tempo 12 = .ok (.iconst 0, 1) := by decide +kernel
theorem dX13_tempo_13 : decode cX13_tempo 13 = .ok (.ireturn, 1) := by decide +kernel
theorem dX13_tempo_14 : decode cX13_tempo 14 = .ok (.aload_n 0, 1) := by decide +kernel
theorem dX13_tempo_15 : decode cX13_tempo 15 = .ok (.iload_n 1, 1) := by decide +kernel
theorem dX13_tempo_16 : decode cX13_tempo 16 = .ok (.putfield 111, 3) := by decide +kernel
theorem dX13_tempo_19 : decode cX13_tempo 19 = .ok (.iconst 1, 1) := by decide +kernel
theorem dX13_tempo_20 : decode cX13_tempo 20 = .ok (.ireturn, 1) := by decide +kernel
theorem dX13_anew_0 : decode cX13_anew 0 = .ok (.iconst 0, 1) := by decide +kernel
theorem dX13_anew_1 : decode cX13_anew 1 = .ok (.istore_n 1, 1) := by decide +kernel
theorem dX13_anew_2 : decode cX13_anew 2 = .ok (.iload_n 1, 1) := by decide +kernel
theorem dX13_anew_3 : decode cX13_anew 3 = .ok (.bipush 8, 2) := by decide +kernel
theorem dX13_anew_5 : decode cX13_anew 5 = .ok (.if_icmp .ge 22, 3) := by decide +kernel
theorem dX13_anew_8 : decode cX13_anew 8 = .ok (.aload_n 0, 1) := by decide +kernel
theorem dX13_anew_9 : decode cX13_anew 9 = .ok (.iload_n 1, 1) := by decide +kernel
theorem dX13_anew_10 : decode cX13_anew 10 = .ok (.invokevirtual 118, 3) := by decide +kernel
theorem dX13_anew_13 : decode cX13_anew 13 = .ok (.ifCond .eq 8, 3) := by decide +kernel
theorem dX13_anew_16 : decode cX13_anew 16 = .ok (.aload_n 0, 1) := by decide +kernel
theorem dX13_anew_17 : decode cX13_anew 17 = .ok (.iload_n 1, 1) := by decide +kernel
theorem dX13_anew_18 : decode cX13_anew 18 = .ok (.invokevirtual 122, 3) := by decide +kernel
theorem dX13_anew_21 : decode cX13_anew 21 = .ok (.iinc 1 1, 3) := by decide +kernel
theorem dX13_anew_24 : decode cX13_anew 24 = .ok (.goto (-22), 3) := by decide +kernel
theorem dX13_anew_27 : decode cX13_anew 27 = .ok (.aload_n 0, 1) := by decide +kernel
theorem dX13_anew_28 : decode cX13_anew 28 = .ok (.invokevirtual 126, 3) := by decide +kernel
theorem dX13_anew_31 : decode cX13_anew 31 = .ok (.invokestatic 130, 3) := by decide +kernel
theorem dX13_anew_34 : decode cX13_anew 34 = .ok (.ireturn, 1) := by decide +kernel
theorem dX13_hears_0 : decode cX13_hears 0 = .ok (.iload_n 1, 1) := by decide +kernel
theorem dX13_hears_1 : decode cX13_hears 1 = .ok (.iload_n 2, 1) := by decide +kernel
theorem dX13_hears_2 : decode cX13_hears 2 = .ok (.if_icmp .eq 19, 3) := by decide +kernel
theorem dX13_hears_5 : decode cX13_hears 5 = .ok (.aload_n 0, 1) := by decide +kernel
theorem dX13_hears_6 : decode cX13_hears 6 = .ok (.iload_n 1, 1) := by decide +kernel
theorem dX13_hears_7 : decode cX13_hears 7 = .ok (.invokevirtual 118, 3) := by decide +kernel
theorem dX13_hears_10 : decode cX13_hears 10 = .ok (.ifCond .eq 11, 3) := by decide +kernel
theorem dX13_hears_13 : decode cX13_hears 13 = .ok (.aload_n 0, 1) := by decide +kernel
theorem dX13_hears_14 : decode cX13_hears 14 = .ok (.iload_n 2, 1) := by decide +kernel
theorem dX13_hears_15 : decode cX13_hears 15 = .ok (.invokevirtual 118, 3) := by decide +kernel
theorem dX13_hears_18 : decode cX13_hears 18 = .ok (.ifCond .ne 5, 3) := by decide +kernel
theorem dX13_hears_21 : decode cX13_hears 21 = .ok (.iconst 0, 1) := by decide +kernel
theorem dX13_hears_22 : decode cX13_hears 22 = .ok (.ireturn, 1) := by decide +kernel
theorem dX13_hears_23 : decode cX13_hears 23 = .ok (.aload_n 0, 1) := by decide +kernel
theorem dX13_hears_24 : decode cX13_hears 24 = .ok (.getfield 7, 3) := by decide +kernel
theorem dX13_hears_27 : decode cX13_hears 27 = .ok (.bipush 16, 2) := by decide +kernel
theorem dX13_hears_29 : decode cX13_hears 29 = .ok (.iload_n 2, 1) := by decide +kernel
theorem dX13_hears_30 : decode cX13_hears 30 = .ok (.iadd, 1) := by decide +kernel
theorem dX13_hears_31 : decode cX13_hears 31 = .ok (.iaload, 1) := by decide +kernel
theorem dX13_hears_32 : decode cX13_hears 32 = .ok (.aload_n 0, 1) := by decide +kernel
theorem dX13_hears_33 : decode cX13_hears 33 = .ok (.getfield 7, 3) := by decide +kernel
theorem dX13_hears_36 : decode cX13_hears 36 = .ok (.bipush 16, 2) := by decide +kernel
theorem dX13_hears_38 : decode cX13_hears 38 = .ok (.iload_n 1, 1) := by decide +kernel
theorem dX13_hears_39 : decode cX13_hears 39 = .ok (.iadd, 1) := by decide +kernel
theorem dX13_hears_40 : decode cX13_hears 40 = .ok (.iaload, 1) := by decide +kernel
theorem dX13_hears_41 : decode cX13_hears 41 = .ok (.isub, 1) := by decide +kernel
theorem dX13_hears_42 : decode cX13_hears 42 = .ok (.istore_n 3, 1) := by decide +kernel
theorem dX13_hears_43 : decode cX13_hears 43 = .ok (.iload_n 3, 1) := by decide +kernel
theorem dX13_hears_44 : decode cX13_hears 44 = .ok (.invokestatic 134, 3) := by decide +kernel
theorem dX13_hears_47 : decode cX13_hears 47 = .ok (.aload_n 0, 1) := by decide +kernel
theorem dX13_hears_48 : decode cX13_hears 48 = .ok (.getfield 107, 3) := by decide +kernel
theorem dX13_hears_51 : decode cX13_hears 51 = .ok (.if_icmp .le 5, 3) := by decide +kernel
theorem dX13_hears_54 : decode cX13_hears 54 = .ok (.iconst 0, 1) := by decide +kernel
theorem dX13_hears_55 : decode cX13_hears 55 = .ok (.ireturn, 1) := by decide +kernel
theorem dX13_hears_56 : decode cX13_hears 56 = .ok (.aload_n 0, 1) := by decide +kernel
theorem dX13_hears_57 : decode cX13_hears 57 = .ok (.getfield 7, 3) := by decide +kernel
theorem dX13_hears_60 : decode cX13_hears 60 = .ok (.bipush 24, 2) := by decide +kernel
theorem dX13_hears_62 : decode cX13_hears 62 = .ok (.iload_n 1, 1) := by decide +kernel
theorem dX13_hears_63 : decode cX13_hears 63 = .ok (.iadd, 1) := by decide +kernel
theorem dX13_hears_64 : decode cX13_hears 64 = .ok (.iaload, 1) := by decide +kernel
theorem dX13_hears_65 : decode cX13_hears 65 = .ok (.istore 4, 2) := by decide +kernel
theorem dX13_hears_67 : decode cX13_hears 67 = .ok (.iload_n 3, 1) := by decide +kernel
theorem dX13_hears_68 : decode cX13_hears 68 = .ok (.ifCond .ne 15, 3) := by decide +kernel
theorem dX13_hears_71 : decode cX13_hears 71 = .ok (.iload 4, 2) := by decide +kernel
theorem dX13_hears_73 : decode cX13_hears 73 = .ok (.iconst 3, 1) := by decide +kernel
theorem dX13_hears_74 : decode cX13_hears 74 = .ok (.if_icmp .eq 7, 3) := by decide +kernel
theorem dX13_hears_77 : decode cX13_hears 77 = .ok (.iconst 1, 1) := by decide +kernel
theorem dX13_hears_78 : decode cX13_hears 78 = .ok (.goto 4, 3) := by decide +kernel
theorem dX13_hears_81 : decode cX13_hears 81 = .ok (.iconst 0, 1) := by decide +kernel
theorem dX13_hears_82 : decode cX13_hears 82 = .ok (.ireturn, 1) := by decide +kernel
theorem dX13_hears_83 : decode cX13_hears 83 = .ok (.iload 4, 2) := by decide +kernel
theorem dX13_hears_85 : decode cX13_hears 85 = .ok (.iload_n 3, 1) := by decide +kernel
theorem dX13_hears_86 : decode cX13_hears 86 = .ok (.ifCond .ge 7, 3) := by decide +kernel
theorem dX13_hears_89 : decode cX13_hears 89 = .ok (.iconst 0, 1) := by decide +kernel
theorem dX13_hears_90 : decode cX13_hears 90 = .ok (.goto 4, 3) := by decide +kernel
theorem dX13_hears_93 : decode cX13_hears 93 = .ok (.iconst 1, 1) := by decide +kernel
theorem dX13_hears_94 : decode cX13_hears 94 = .ok (.invokestatic 137, 3) := by decide +kernel
theorem dX13_hears_97 : decode cX13_hears 97 = .ok (.ifCond .ne 7, 3) := by decide +kernel
theorem dX13_hears_100 : decode cX13_hears 100 = .ok (.iconst 1, 1) := by decide +kernel
theorem dX13_hears_101 : decode cX13_hears 101 = .ok (.goto 4, 3) := by decide +kernel
theorem dX13_hears_104 : decode cX13_hears 104 = .ok (.iconst 0, 1) := by decide +kernel
theorem dX13_hears_105 : decode cX13_hears 105 = .ok (.ireturn, 1) := by decide +kernel
theorem dX13_heardBy_0 : decode cX13_heardBy 0 = .ok (.iconst 0, 1) := by decide +kernel
theorem dX13_heardBy_1 : decode cX13_heardBy 1 = .ok (.istore_n 2, 1) := by decide +kernel
theorem dX13_heardBy_2 : decode cX13_heardBy 2 = .ok (.iconst 0, 1) := by decide +kernel
theorem dX13_heardBy_3 : decode cX13_heardBy 3 = .ok (.istore_n 3, 1) := by decide +kernel
theorem dX13_heardBy_4 : decode cX13_heardBy 4 = .ok (.iload_n 3, 1) := by decide +kernel
theorem dX13_heardBy_5 : decode cX13_heardBy 5 = .ok (.bipush 8, 2) := by decide +kernel
theorem dX13_heardBy_7 : decode cX13_heardBy 7 = .ok (.if_icmp .ge 24, 3) := by decide +kernel
theorem dX13_heardBy_10 : decode cX13_heardBy 10 = .ok (.aload_n 0, 1) := by decide +kernel
theorem dX13_heardBy_11 : decode cX13_heardBy 11 = .ok (.iload_n 1, 1) := by decide +kernel
theorem dX13_heardBy_12 : decode cX13_heardBy 12 = .ok (.iload_n 3, 1) := by decide +kernel
theorem dX13_heardBy_13 : decode cX13_heardBy 13 = .ok (.invokevirtual 141, 3) := by decide +kernel
theorem dX13_heardBy_16 : decode cX13_heardBy 16 = .ok (.ifCond .eq 9, 3) := by decide +kernel
theorem dX13_heardBy_19 : decode cX13_heardBy 19 = .ok (.iload_n 2, 1) := by decide +kernel
theorem dX13_heardBy_20 : decode cX13_heardBy 20 = .ok (.iconst 1, 1) := by decide +kernel
theorem dX13_heardBy_21 : decode cX13_heardBy 21 = .ok (.iload_n 3, 1) := by decide +kernel
theorem dX13_heardBy_22 : decode cX13_heardBy 22 = .ok (.ishl, 1) := by decide +kernel
theorem dX13_heardBy_23 : decode cX13_heardBy 23 = .ok (.ior, 1) := by decide +kernel
theorem dX13_heardBy_24 : decode cX13_heardBy 24 = .ok (.istore_n 2, 1) := by decide +kernel
theorem dX13_heardBy_25 : decode cX13_heardBy 25 = .ok (.iinc 3 1, 3) := by decide +kernel
theorem dX13_heardBy_28 : decode cX13_heardBy 28 = .ok (.goto (-24), 3) := by decide +kernel
theorem dX13_heardBy_31 : decode cX13_heardBy 31 = .ok (.iload_n 2, 1) := by decide +kernel
theorem dX13_heardBy_32 : decode cX13_heardBy 32 = .ok (.ireturn, 1) := by decide +kernel
theorem dX13_types_0 : decode cX13_types 0 = .ok (.iconst 3, 1) := by decide +kernel
theorem dX13_types_1 : decode cX13_types 1 = .ok (.istore_n 2, 1) := by decide +kernel
theorem dX13_types_2 : decode cX13_types 2 = .ok (.iload_n 2, 1) := by decide +kernel
theorem dX13_types_3 : decode cX13_types 3 = .ok (.ifCond .lt 35, 3) := by decide +kernel
theorem dX13_types_6 : decode cX13_types 6 = .ok (.aload_n 0, 1) := by decide +kernel
theorem dX13_types_7 : decode cX13_types 7 = .ok (.getfield 34, 3) := by decide +kernel
theorem dX13_types_10 : decode cX13_types 10 = .ok (.aload_n 0, 1) := by decide +kernel
theorem dX13_types_11 : decode cX13_types 11 = .ok (.getfield 144, 3) := by decide +kernel
theorem dX13_types_14 : decode cX13_types 14 = .ok (.iload_n 1, 1) := by decide +kernel
theorem dX13_types_15 : decode cX13_types 15 = .ok (.bipush 8, 2) := by decide +kernel
theorem dX13_types_17 : decode cX13_types 17 = .ok (.iload_n 2, 1) := by decide +kernel
theorem dX13_types_18 : decode cX13_types 18 = .ok (.imul, 1) := by decide +kernel
theorem dX13_types_19 : decode cX13_types 19 = .ok (.ishr, 1) := by decide +kernel
theorem dX13_types_20 : decode cX13_types 20 = .ok (.i2b, 1) := by decide +kernel
theorem dX13_types_21 : decode cX13_types 21 = .ok (.bastore, 1) := by decide +kernel
theorem dX13_types_22 : decode cX13_types 22 = .ok (.aload_n 0, 1) := by decide +kernel
theorem dX13_types_23 : decode cX13_types 23 = .ok (.aload_n 0, 1) := by decide +kernel
theorem dX13_types_24 : decode cX13_types 24 = .ok (.getfield 144, 3) := by decide +kernel
theorem dX13_types_27 : decode cX13_types 27 = .ok (.iconst 1, 1) := by decide +kernel
theorem dX13_types_28 : decode cX13_types 28 = .ok (.iadd, 1) := by decide +kernel
theorem dX13_types_29 : decode cX13_types 29 = .ok (.putfield 144, 3) := by decide +kernel
theorem dX13_types_32 : decode cX13_types 32 = .ok (.iinc 2 (-1), 3) := by decide +kernel
theorem dX13_types_35 : decode cX13_types 35 = .ok (.goto (-33), 3) := by decide +kernel
theorem dX13_types_38 : decode cX13_types 38 = .ok (.return_, 1) := by decide +kernel
theorem dX13_feed_0 : decode cX13_feed 0 = .ok (.aload_n 0, 1) := by decide +kernel
theorem dX13_feed_1 : decode cX13_feed 1 = .ok (.getfield 144, 3) := by decide +kernel
theorem dX13_feed_4 : decode cX13_feed 4 = .ok (.bipush 20, 2) := by decide +kernel
theorem dX13_feed_6 : decode cX13_feed 6 = .ok (.iadd, 1) := by decide +kernel
theorem dX13_feed_7 : decode cX13_feed 7 = .ok (.sipush 260, 3) := by decide +kernel
theorem dX13_feed_10 : decode cX13_feed 10 = .ok (.if_icmp .le 5, 3) := by decide +kernel
theorem dX13_feed_13 : decode cX13_feed 13 = .ok (.iconst (-1), 1) := by decide +kernel
theorem dX13_feed_14 : decode cX13_feed 14 = .ok (.ireturn, 1) := by decide +kernel
theorem dX13_feed_15 : decode cX13_feed 15 = .ok (.aload_n 0, 1) := by decide +kernel
theorem dX13_feed_16 : decode cX13_feed 16 = .ok (.iload_n 1, 1) := by decide +kernel
theorem dX13_feed_17 : decode cX13_feed 17 = .ok (.invokevirtual 147, 3) := by decide +kernel
theorem dX13_feed_20 : decode cX13_feed 20 = .ok (.aload_n 0, 1) := by decide +kernel
theorem dX13_feed_21 : decode cX13_feed 21 = .ok (.iload_n 2, 1) := by decide +kernel
theorem dX13_feed_22 : decode cX13_feed 22 = .ok (.invokevirtual 147, 3) := by decide +kernel
theorem dX13_feed_25 : decode cX13_feed 25 = .ok (.aload_n 0, 1) := by decide +kernel
theorem dX13_feed_26 : decode cX13_feed 26 = .ok (.iload_n 3, 1) := by decide +kernel
theorem dX13_feed_27 : decode cX13_feed 27 = .ok (.invokevirtual 147, 3) := by decide +kernel
theorem dX13_feed_30 : decode cX13_feed 30 = .ok (.aload_n 0, 1) := by decide +kernel
theorem dX13_feed_31 : decode cX13_feed 31 = .ok (.iload 4, 2) := by decide +kernel
theorem dX13_feed_33 : decode cX13_feed 33 = .ok (.invokevirtual 147, 3) := by decide +kernel
theorem dX13_feed_36 : decode cX13_feed 36 = .ok (.aload_n 0, 1) := by decide +kernel
theorem dX13_feed_37 : decode cX13_feed 37 = .ok (.iload 5, 2) := by decide +kernel
theorem dX13_feed_39 : decode cX13_feed 39 = .ok (.invokevirtual 147, 3) := by decide +kernel
theorem dX13_feed_42 : decode cX13_feed 42 = .ok (.aload_n 0, 1) := by decide +kernel
theorem dX13_feed_43 : decode cX13_feed 43 = .ok (.getfield 144, 3) := by decide +kernel
theorem dX13_feed_46 : decode cX13_feed 46 = .ok (.ireturn, 1) := by decide +kernel
theorem dX13_octet_0 : decode cX13_octet 0 = .ok (.aload_n 0, 1) := by decide +kernel
theorem dX13_octet_1 : decode cX13_octet 1 = .ok (.getfield 34, 3) := by decide +kernel
theorem dX13_octet_4 : decode cX13_octet 4 = .ok (.iload_n 1, 1) := by decide +kernel
theorem dX13_octet_5 : decode cX13_octet 5 = .ok (.baload, 1) := by decide +kernel
theorem dX13_octet_6 : decode cX13_octet 6 = .ok (.sipush 255, 3) := by decide +kernel
theorem dX13_octet_9 : decode cX13_octet 9 = .ok (.iand, 1) := by decide +kernel
theorem dX13_octet_10 : decode cX13_octet 10 = .ok (.ireturn, 1) := by decide +kernel
theorem dX13_here_0 : decode cX13_here 0 = .ok (.aload_n 0, 1) := by decide +kernel
theorem dX13_here_1 : decode cX13_here 1 = .ok (.getfield 150, 3) := by decide +kernel
theorem dX13_here_4 : decode cX13_here 4 = .ok (.aload_n 0, 1) := by decide +kernel
theorem dX13_here_5 : decode cX13_here 5 = .ok (.getfield 153, 3) := by decide +kernel
theorem dX13_here_8 : decode cX13_here 8 = .ok (.if_icmp .ge 19, 3) := by decide +kernel
theorem dX13_here_11 : decode cX13_here 11 = .ok (.aload_n 0, 1) := by decide +kernel
theorem dX13_here_12 : decode cX13_here 12 = .ok (.getfield 34, 3) := by decide +kernel
theorem dX13_here_15 : decode cX13_here 15 = .ok (.aload_n 0, 1) := by decide +kernel
theorem dX13_here_16 : decode cX13_here 16 = .ok (.getfield 150, 3) := by decide +kernel
theorem dX13_here_19 : decode cX13_here 19 = .ok (.baload, 1) := by decide +kernel
theorem dX13_here_20 : decode cX13_here 20 = .ok (.sipush 255, 3) := by decide +kernel
theorem dX13_here_23 : decode cX13_here 23 = .ok (.iand, 1) := by decide +kernel
theorem dX13_here_24 : decode cX13_here 24 = .ok (.goto 4, 3) := by decide +kernel
theorem dX13_here_27 : decode cX13_here 27 = .ok (.iconst (-1), 1) := by decide +kernel
theorem dX13_here_28 : decode cX13_here 28 = .ok (.ireturn, 1) := by decide +kernel
theorem dX13_isDigit_0 : decode cX13_isDigit 0 = .ok (.aload_n 0, 1) := by decide +kernel
theorem dX13_isDigit_1 : decode cX13_isDigit 1 = .ok (.invokevirtual 156, 3) := by decide +kernel
theorem dX13_isDigit_4 : decode cX13_isDigit 4 = .ok (.bipush 48, 2) := by decide +kernel
theorem dX13_isDigit_6 : decode cX13_isDigit 6 = .ok (.if_icmp .lt 16, 3) := by decide +kernel
theorem dX13_isDigit_9 : decode cX13_isDigit 9 = .ok (.aload_n 0, 1) := by decide +kernel
theorem dX13_isDigit_10 : decode cX13_isDigit 10 = .ok (.invokevirtual 156, 3) := by decide +kernel
theorem dX13_isDigit_13 : decode cX13_isDigit 13 = .ok (.bipush 57, 2) := by decide +kernel
theorem dX13_isDigit_15 : decode cX13_isDigit 15 = .ok (.if_icmp .gt 7, 3) := by decide +kernel
theorem dX13_isDigit_18 : decode cX13_isDigit 18 = .ok (.iconst 1, 1) := by decide +kernel
theorem dX13_isDigit_19 : decode cX13_isDigit 19 = .ok (.goto 4, 3) := by decide +kernel
theorem dX13_isDigit_22 : decode cX13_isDigit 22 = .ok (.iconst 0, 1) := by decide +kernel
theorem dX13_isDigit_23 : decode cX13_isDigit 23 = .ok (.ireturn, 1) := by decide +kernel
theorem dX13_wrongAt_0 : decode cX13_wrongAt 0 = .ok (.aload_n 0, 1) := by decide +kernel
theorem dX13_wrongAt_1 : decode cX13_wrongAt 1 = .ok (.sipush (-1000), 3) := by decide +kernel
theorem dX13_wrongAt_4 : decode cX13_wrongAt 4 = .ok (.iload_n 1, 1) := by decide +kernel
theorem dX13_wrongAt_5 : decode cX13_wrongAt 5 = .ok (.imul, 1) := by decide +kernel
theorem dX13_wrongAt_6 : decode cX13_wrongAt 6 = .ok (.iload_n 2, 1) := by decide +kernel
theorem dX13_wrongAt_7 : decode cX13_wrongAt 7 = .ok (.isub, 1) := by decide +kernel
theorem dX13_wrongAt_8 : decode cX13_wrongAt 8 = .ok (.putfield 159, 3) := by decide +kernel
theorem dX13_wrongAt_11 : decode cX13_wrongAt 11 = .ok (.iconst 0, 1) := by decide +kernel
theorem dX13_wrongAt_12 : decode cX13_wrongAt 12 = .ok (.ireturn, 1) := by decide +kernel
theorem dX13_takes_0 : decode cX13_takes 0 = .ok (.aload_n 0, 1) := by decide +kernel
theorem dX13_takes_1 : decode cX13_takes 1 = .ok (.invokevirtual 156, 3) := by decide +kernel
theorem dX13_takes_4 : decode cX13_takes 4 = .ok (.iload_n 1, 1) := by decide +kernel
theorem dX13_takes_5 : decode cX13_takes 5 = .ok (.if_icmp .eq 13, 3) := by decide +kernel
theorem dX13_takes_8 : decode cX13_takes 8 = .ok (.aload_n 0, 1) := by decide +kernel
theorem dX13_takes_9 : decode cX13_takes 9 = .ok (.iconst 1, 1) := by decide +kernel
theorem dX13_takes_10 : decode cX13_takes 10 = .ok (.aload_n 0, 1) := by decide +kernel
theorem dX13_takes_11 : decode cX13_takes 11 = .ok (.getfield 150, 3) := by decide +kernel
theorem dX13_takes_14 : decode cX13_takes 14 = .ok (.invokevirtual 162, 3) := by decide +kernel
theorem dX13_takes_17 : decode cX13_takes 17 = .ok (.ireturn, 1) := by decide +kernel
theorem dX13_takes_18 : decode cX13_takes 18 = .ok (.aload_n 0, 1) := by decide +kernel
theorem dX13_takes_19 : decode cX13_takes 19 = .ok (.aload_n 0, 1) := by decide +kernel
theorem dX13_takes_20 : decode cX13_takes 20 = .ok (.getfield 150, 3) := by decide +kernel
theorem dX13_takes_23 : decode cX13_takes 23 = .ok (.iconst 1, 1) := by decide +kernel
theorem dX13_takes_24 : decode cX13_takes 24 = .ok (.iadd, 1) := by decide +kernel
theorem dX13_takes_25 : decode cX13_takes 25 = .ok (.putfield 150, 3) := by decide +kernel
theorem dX13_takes_28 : decode cX13_takes 28 = .ok (.iconst 1, 1) := by decide +kernel
theorem dX13_takes_29 : decode cX13_takes 29 = .ok (.ireturn, 1) := by decide +kernel
theorem dX13_readsNumber_0 : decode cX13_readsNumber 0 = .ok (.aload_n 0, 1) := by decide +kernel
theorem dX13_readsNumber_1 : decode cX13_readsNumber 1 = .ok (.getfield 150, 3) := by decide +kernel
theorem dX13_readsNumber_4 : decode cX13_readsNumber 4 = .ok (.istore_n 1, 1) := by decide +kernel
theorem dX13_readsNumber_5 : decode cX13_readsNumber 5 = .ok (.aload_n 0, 1) := by decide +kernel
theorem dX13_readsNumber_6 : decode cX13_readsNumber 6 = .ok (.iconst 0, 1) := by decide +kernel
theorem dX13_readsNumber_7 : decode cX13_readsNumber 7 = .ok (.putfield 165, 3) := by decide +kernel
theorem dX13_readsNumber_10 : decode cX13_readsNumber 10 = .ok (.aload_n 0, 1) := by decide +kernel
theorem dX13_readsNumber_11 : decode cX13_readsNumber 11 = .ok (.invokevirtual 168, 3) := by decide +kernel
theorem dX13_readsNumber_14 : decode cX13_readsNumber 14 = .ok (.ifCond .eq 55, 3) := by decide +kernel
theorem dX13_readsNumber_17 : decode cX13_readsNumber 17 = .ok (.aload_n 0, 1) := by decide +kernel
theorem dX13_readsNumber_18 : decode cX13_readsNumber 18 = .ok (.getfield 150, 3) := by decide +kernel
theorem dX13_readsNumber_21 : decode cX13_readsNumber 21 = .ok (.iload_n 1, 1) := by decide +kernel
theorem dX13_readsNumber_22 : decode cX13_readsNumber 22 = .ok (.iconst 5, 1) := by decide +kernel
theorem dX13_readsNumber_23 : decode cX13_readsNumber 23 = .ok (.iadd, 1) := by decide +kernel
theorem dX13_readsNumber_24 : decode cX13_readsNumber 24 = .ok (.if_icmp .ne 13, 3) := by decide +kernel
theorem dX13_readsNumber_27 : decode cX13_readsNumber 27 = .ok (.aload_n 0, 1) := by decide +kernel
theorem dX13_readsNumber_28 : decode cX13_readsNumber 28 = .ok (.iconst 2, 1) := by decide +kernel
theorem dX13_readsNumber_29 : decode cX13_readsNumber 29 = .ok (.aload_n 0, 1) := by decide +kernel
theorem dX13_readsNumber_30 : decode cX13_readsNumber 30 = .ok (.getfield 150, 3) := by decide +kernel
theorem dX13_readsNumber_33 : decode cX13_readsNumber 33 = .ok (.invokevirtual 162, 3) := by decide +kernel
theorem dX13_readsNumber_36 : decode cX13_readsNumber 36 = .ok (.ireturn, 1) := by decide +kernel
theorem dX13_readsNumber_37 : decode cX13_readsNumber 37 = .ok (.aload_n 0, 1) := by decide +kernel
theorem dX13_readsNumber_38 : decode cX13_readsNumber 38 = .ok (.bipush 10, 2) := by decide +kernel
theorem dX13_readsNumber_40 : decode cX13_readsNumber 40 = .ok (.aload_n 0, 1) := by decide +kernel
theorem dX13_readsNumber_41 : decode cX13_readsNumber 41 = .ok (.getfield 165, 3) := by decide +kernel
theorem dX13_readsNumber_44 : decode cX13_readsNumber 44 = .ok (.imul, 1) := by decide +kernel
theorem dX13_readsNumber_45 : decode cX13_readsNumber 45 = .ok (.aload_n 0, 1) := by decide +kernel
theorem dX13_readsNumber_46 : decode cX13_readsNumber 46 = .ok (.invokevirtual 156, 3) := by decide +kernel
theorem dX13_readsNumber_49 : decode cX13_readsNumber 49 = .ok (.iadd, 1) := by decide +kernel
theorem dX13_readsNumber_50 : decode cX13_readsNumber 50 = .ok (.bipush 48, 2) := by decide +kernel
theorem dX13_readsNumber_52 : decode cX13_readsNumber 52 = .ok (.isub, 1) := by decide +kernel
theorem dX13_readsNumber_53 : decode cX13_readsNumber 53 = .ok (.putfield 165, 3) := by decide +kernel
theorem dX13_readsNumber_56 : decode cX13_readsNumber 56 = .ok (.aload_n 0, 1) := by decide +kernel
theorem dX13_readsNumber_57 : decode cX13_readsNumber 57 = .ok (.aload_n 0, 1) := by decide +kernel
theorem dX13_readsNumber_58 : decode cX13_readsNumber 58 = .ok (.getfield 150, 3) := by decide +kernel
theorem dX13_readsNumber_61 : decode cX13_readsNumber 61 = .ok (.iconst 1, 1) := by decide +kernel
theorem dX13_readsNumber_62 : decode cX13_readsNumber 62 = .ok (.iadd, 1) := by decide +kernel
theorem dX13_readsNumber_63 : decode cX13_readsNumber 63 = .ok (.putfield 150, 3) := by decide +kernel
theorem dX13_readsNumber_66 : decode cX13_readsNumber 66 = .ok (.goto (-56), 3) := by decide +kernel
theorem dX13_readsNumber_69 : decode cX13_readsNumber 69 = .ok (.iconst 1, 1) := by decide +kernel
theorem dX13_readsNumber_70 : decode cX13_readsNumber 70 = .ok (.ireturn, 1) := by decide +kernel
theorem dX13_notes_0 : decode cX13_notes 0 = .ok (.aload_n 0, 1) := by decide +kernel
theorem dX13_notes_1 : decode cX13_notes 1 = .ok (.getfield 38, 3) := by decide +kernel
theorem dX13_notes_4 : decode cX13_notes 4 = .ok (.aload_n 0, 1) := by decide +kernel
theorem dX13_notes_5 : decode cX13_notes 5 = .ok (.getfield 172, 3) := by decide +kernel
theorem dX13_notes_8 : decode cX13_notes 8 = .ok (.ldc 175, 2) := by decide +kernel
theorem dX13_notes_10 : decode cX13_notes 10 = .ok (.iload_n 1, 1) := by decide +kernel
theorem dX13_notes_11 : decode cX13_notes 11 = .ok (.imul, 1) := by decide +kernel
theorem dX13_notes_12 : decode cX13_notes 12 = .ok (.iload_n 2, 1) := by decide +kernel
theorem dX13_notes_13 : decode cX13_notes 13 = .ok (.iadd, 1) := by decide +kernel
theorem dX13_notes_14 : decode cX13_notes 14 = .ok (.iastore, 1) := by decide +kernel
theorem dX13_notes_15 : decode cX13_notes 15 = .ok (.aload_n 0, 1) := by decide +kernel
theorem dX13_notes_16 : decode cX13_notes 16 = .ok (.aload_n 0, 1) := by decide +kernel
theorem dX13_notes_17 : decode cX13_notes 17 = .ok (.getfield 172, 3) := by decide +kernel
theorem dX13_notes_20 : decode cX13_notes 20 = .ok (.iconst 1, 1) := by decide +kernel
theorem dX13_notes_21 : decode cX13_notes 21 = .ok (.iadd, 1) := by decide +kernel
theorem dX13_notes_22 : decode cX13_notes 22 = .ok (.putfield 172, 3) := by decide +kernel
theorem dX13_notes_25 : decode cX13_notes 25 = .ok (.return_, 1) := by decide +kernel
theorem dX13_opens_0 : decode cX13_opens 0 = .ok (.aload_n 0, 1) := by decide +kernel
theorem dX13_opens_1 : decode cX13_opens 1 = .ok (.getfield 176, 3) := by decide +kernel
theorem dX13_opens_4 : decode cX13_opens 4 = .ok (.bipush 6, 2) := by decide +kernel
theorem dX13_opens_6 : decode cX13_opens 6 = .ok (.if_icmp .ne 13, 3) := by decide +kernel
theorem dX13_opens_9 : decode cX13_opens 9 = .ok (.aload_n 0, 1) := by decide +kernel
theorem dX13_opens_10 : decode cX13_opens 10 = .ok (.iconst 5, 1) := by decide +kernel
theorem dX13_opens_11 : decode cX13_opens 11 = .ok (.aload_n 0, 1) := by decide +kernel
theorem dX13_opens_12 : decode cX13_opens 12 = .ok (.getfield 150, 3) := by decide +kernel
theorem dX13_opens_15 : decode cX13_opens 15 = .ok (.invokevirtual 162, 3) := by decide +kernel
theorem dX13_opens_18 : decode cX13_opens 18 = .ok (.ireturn, 1) := by decide +kernel
theorem dX13_opens_19 : decode cX13_opens 19 = .ok (.aload_n 0, 1) := by decide +kernel
theorem dX13_opens_20 : decode cX13_opens 20 = .ok (.aload_n 0, 1) := by decide +kernel
theorem dX13_opens_21 : decode cX13_opens 21 = .ok (.getfield 176, 3) := by decide +kernel
theorem dX13_opens_24 : decode cX13_opens 24 = .ok (.iconst 1, 1) := by decide +kernel
theorem dX13_opens_25 : decode cX13_opens 25 = .ok (.iadd, 1) := by decide +kernel
theorem dX13_opens_26 : decode cX13_opens 26 = .ok (.putfield 176, 3) := by decide +kernel
theorem dX13_opens_29 : decode cX13_opens 29 = .ok (.aload_n 0, 1) := by decide +kernel
theorem dX13_opens_30 : decode cX13_opens 30 = .ok (.getfield 41, 3) := by decide +kernel
theorem dX13_opens_33 : decode cX13_opens 33 = .ok (.aload_n 0, 1) := by decide +kernel
theorem dX13_opens_34 : decode cX13_opens 34 = .ok (.getfield 179, 3) := by decide +kernel
theorem dX13_opens_37 : decode cX13_opens 37 = .ok (.ldc 175, 2) := by decide +kernel
theorem dX13_opens_39 : decode cX13_opens 39 = .ok (.iload_n 1, 1) := by decide +kernel
theorem dX13_opens_40 : decode cX13_opens 40 = .ok (.imul, 1) := by decide +kernel
theorem dX13_opens_41 : decode cX13_opens 41 = .ok (.iastore, 1) := by decide +kernel
theorem dX13_opens_42 : decode cX13_opens 42 = .ok (.aload_n 0, 1) := by decide +kernel
theorem dX13_opens_43 : decode cX13_opens 43 = .ok (.aload_n 0, 1) := by decide +kernel
theorem dX13_opens_44 : decode cX13_opens 44 = .ok (.getfield 179, 3) := by decide +kernel
theorem dX13_opens_47 : decode cX13_opens 47 = .ok (.iconst 1, 1) := by decide +kernel
theorem dX13_opens_48 : decode cX13_opens 48 = .ok (.iadd, 1) := by decide +kernel
theorem dX13_opens_49 : decode cX13_opens 49 = .ok (.putfield 179, 3) := by decide +kernel
theorem dX13_opens_52 : decode cX13_opens 52 = .ok (.aload_n 0, 1) := by decide +kernel
theorem dX13_opens_53 : decode cX13_opens 53 = .ok (.aload_n 0, 1) := by decide +kernel
theorem dX13_opens_54 : decode cX13_opens 54 = .ok (.getfield 150, 3) := by decide +kernel
theorem dX13_opens_57 : decode cX13_opens 57 = .ok (.iconst 1, 1) := by decide +kernel
theorem dX13_opens_58 : decode cX13_opens 58 = .ok (.iadd, 1) := by decide +kernel
theorem dX13_opens_59 : decode cX13_opens 59 = .ok (.putfield 150, 3) := by decide +kernel
theorem dX13_opens_62 : decode cX13_opens 62 = .ok (.iconst 1, 1) := by decide +kernel
theorem dX13_opens_63 : decode cX13_opens 63 = .ok (.ireturn, 1) := by decide +kernel
theorem dX13_waitTop_0 : decode cX13_waitTop 0 = .ok (.aload_n 0, 1) := by decide +kernel
theorem dX13_waitTop_1 : decode cX13_waitTop 1 = .ok (.getfield 179, 3) := by decide +kernel
theorem dX13_waitTop_4 : decode cX13_waitTop 4 = .ok (.ifCond .ne 7, 3) := by decide +kernel
theorem dX13_waitTop_7 : decode cX13_waitTop 7 = .ok (.iconst (-1), 1) := by decide +kernel
theorem dX13_waitTop_8 : decode cX13_waitTop 8 = .ok (.goto 17, 3) := by decide +kernel
theorem dX13_waitTop_11 : decode cX13_waitTop 11 = .ok (.aload_n 0, 1) := by decide +kernel
theorem dX13_waitTop_12 : decode cX13_waitTop 12 = .ok (.getfield 41, 3) := by decide +kernel
theorem dX13_waitTop_15 : decode cX13_waitTop 15 = .ok (.aload_n 0, 1) := by decide +kernel
theorem dX13_waitTop_16 : decode cX13_waitTop 16 = .ok (.getfield 179, 3) := by decide +kernel
theorem dX13_waitTop_19 : decode cX13_waitTop 19 = .ok (.iconst 1, 1) := by decide +kernel
theorem dX13_waitTop_20 : decode cX13_waitTop 20 = .ok (.isub, 1) := by decide +kernel
theorem dX13_waitTop_21 : decode cX13_waitTop 21 = .ok (.iaload, 1) := by decide +kernel
theorem dX13_waitTop_22 : decode cX13_waitTop 22 = .ok (.ldc 175, 2) := by decide +kernel
theorem dX13_waitTop_24 : decode cX13_waitTop 24 = .ok (.idiv, 1) := by decide +kernel
theorem dX13_waitTop_25 : decode cX13_waitTop 25 = .ok (.ireturn, 1) := by decide +kernel
theorem dX13_factOf_0 : decode cX13_factOf 0 = .ok (.iload_n 0, 1) := by decide +kernel
theorem dX13_factOf_1 : decode cX13_factOf 1 = .ok (.tableswitch 113 97 116 #[101, 113, 113, 97, 113, 113, 113, 113, 113, 113, 107, 105, 113, 103, 113, 99, 113, 113, 95, 110], 95) := by decide +kernel
theorem dX13_factOf_96 : decode cX13_factOf 96 = .ok (.iconst 0, 1) := by decide +kernel
theorem dX13_factOf_97 : decode cX13_factOf 97 = .ok (.ireturn, 1) := by decide +kernel
theorem dX13_factOf_98 : decode cX13_factOf 98 = .ok (.iconst 1, 1) := by decide +kernel
theorem dX13_factOf_99 : decode cX13_factOf 99 = .ok (.ireturn, 1) := by decide +kernel
theorem dX13_factOf_100 : decode cX13_factOf 100 = .ok (.iconst 2, 1) := by decide +kernel
theorem dX13_factOf_101 : decode cX13_factOf 101 = .ok (.ireturn, 1) := by decide +kernel
theorem dX13_factOf_102 : decode cX13_factOf 102 = .ok (.iconst 3, 1) := by decide +kernel
theorem dX13_factOf_103 : decode cX13_factOf 103 = .ok (.ireturn, 1) := by decide +kernel
theorem dX13_factOf_104 : decode cX13_factOf 104 = .ok (.iconst 4, 1) := by decide +kernel
theorem dX13_factOf_105 : decode cX13_factOf 105 = .ok (.ireturn, 1) := by decide +kernel
theorem dX13_factOf_106 : decode cX13_factOf 106 = .ok (.iconst 5, 1) := by decide +kernel
theorem dX13_factOf_107 : decode cX13_factOf 107 = .ok (.ireturn, 1) := by decide +kernel
theorem dX13_factOf_108 : decode cX13_factOf 108 = .ok (.bipush 6, 2) := by decide +kernel
theorem dX13_factOf_110 : decode cX13_factOf 110 = .ok (.ireturn, 1) := by decide +kernel
theorem dX13_factOf_111 : decode cX13_factOf 111 = .ok (.bipush 7, 2) := by decide +kernel
theorem dX13_factOf_113 : decode cX13_factOf 113 = .ok (.ireturn, 1) := by decide +kernel
theorem dX13_factOf_114 : decode cX13_factOf 114 = .ok (.iconst (-1), 1) := by decide +kernel
theorem dX13_factOf_115 : decode cX13_factOf 115 = .ok (.ireturn, 1) := by decide +kernel
theorem dX13_sumSign_0 : decode cX13_sumSign 0 = .ok (.iload_n 0, 1) := by decide +kernel
theorem dX13_sumSign_1 : decode cX13_sumSign 1 = .ok (.bipush 43, 2) := by decide +kernel
theorem dX13_sumSign_3 : decode cX13_sumSign 3 = .ok (.if_icmp .ne 7, 3) := by decide +kernel
theorem dX13_sumSign_6 : decode cX13_sumSign 6 = .ok (.iconst 2, 1) := by decide +kernel
theorem dX13_sumSign_7 : decode cX13_sumSign 7 = .ok (.goto 45, 3) := by decide +kernel
theorem dX13_sumSign_10 : decode cX13_sumSign 10 = .ok (.iload_n 0, 1) := by decide +kernel
theorem dX13_sumSign_11 : decode cX13_sumSign 11 = .ok (.bipush 45, 2) := by decide +kernel
theorem dX13_sumSign_13 : decode cX13_sumSign 13 = .ok (.if_icmp .ne 7, 3) := by decide +kernel
theorem dX13_sumSign_16 : decode cX13_sumSign 16 = .ok (.iconst 3, 1) := by decide +kernel
theorem dX13_sumSign_17 : decode cX13_sumSign 17 = .ok (.goto 35, 3) := by decide +kernel
theorem dX13_sumSign_20 : decode cX13_sumSign 20 = .ok (.iload_n 0, 1) := by decide +kernel
theorem dX13_sumSign_21 : decode cX13_sumSign 21 = .ok (.bipush 42, 2) := by decide +kernel
theorem dX13_sumSign_23 : decode cX13_sumSign 23 = .ok (.if_icmp .ne 7, 3) := by decide +kernel
theorem dX13_sumSign_26 : decode cX13_sumSign 26 = .ok (.iconst 4, 1) := by decide +kernel
theorem dX13_sumSign_27 : decode cX13_sumSign 27 = .ok (.goto 25, 3) := by decide +kernel
theorem dX13_sumSign_30 : decode cX13_sumSign 30 = .ok (.iload_n 0, 1) := by decide +kernel
theorem dX13_sumSign_31 : decode cX13_sumSign 31 = .ok (.bipush 47, 2) := by decide +kernel
theorem dX13_sumSign_33 : decode cX13_sumSign 33 = .ok (.if_icmp .ne 7, 3) := by decide +kernel
theorem dX13_sumSign_36 : decode cX13_sumSign 36 = .ok (.iconst 5, 1) := by decide +kernel
theorem dX13_sumSign_37 : decode cX13_sumSign 37 = .ok (.goto 15, 3) := by decide +kernel
theorem dX13_sumSign_40 : decode cX13_sumSign 40 = .ok (.iload_n 0, 1) := by decide +kernel
theorem dX13_sumSign_41 : decode cX13_sumSign 41 = .ok (.bipush 37, 2) := by decide +kernel
theorem dX13_sumSign_43 : decode cX13_sumSign 43 = .ok (.if_icmp .ne 8, 3) := by decide +kernel
theorem dX13_sumSign_46 : decode cX13_sumSign 46 = .ok (.bipush 6, 2) := by decide +kernel
theorem dX13_sumSign_48 : decode cX13_sumSign 48 = .ok (.goto 4, 3) := by decide +kernel
theorem dX13_sumSign_51 : decode cX13_sumSign 51 = .ok (.iconst (-1), 1) := by decide +kernel
theorem dX13_sumSign_52 : decode cX13_sumSign 52 = .ok (.ireturn, 1) := by decide +kernel
theorem dX13_closesSums_0 : decode cX13_closesSums 0 = .ok (.aload_n 0, 1) := by decide +kernel
theorem dX13_closesSums_1 : decode cX13_closesSums 1 = .ok (.invokevirtual 182, 3) := by decide +kernel
theorem dX13_closesSums_4 : decode cX13_closesSums 4 = .ok (.iconst 4, 1) := by decide +kernel
theorem dX13_closesSums_5 : decode cX13_closesSums 5 = .ok (.if_icmp .lt 12, 3) := by decide +kernel
theorem dX13_closesSums_8 : decode cX13_closesSums 8 = .ok (.aload_n 0, 1) := by decide +kernel
theorem dX13_closesSums_9 : decode cX13_closesSums 9 = .ok (.invokevirtual 182, 3) := by decide +kernel
theorem dX13_closesSums_12 : decode cX13_closesSums 12 = .ok (.bipush 6, 2) := by decide +kernel
theorem dX13_closesSums_14 : decode cX13_closesSums 14 = .ok (.if_icmp .le 23, 3) := by decide +kernel
theorem dX13_closesSums_17 : decode cX13_closesSums 17 = .ok (.iload_n 1, 1) := by decide +kernel
theorem dX13_closesSums_18 : decode cX13_closesSums 18 = .ok (.ifCond .eq 41, 3) := by decide +kernel
theorem dX13_closesSums_21 : decode cX13_closesSums 21 = .ok (.aload_n 0, 1) := by decide +kernel
theorem dX13_closesSums_22 : decode cX13_closesSums 22 = .ok (.invokevirtual 182, 3) := by decide +kernel
theorem dX13_closesSums_25 : decode cX13_closesSums 25 = .ok (.iconst 2, 1) := by decide +kernel
theorem dX13_closesSums_26 : decode cX13_closesSums 26 = .ok (.if_icmp .eq 11, 3) := by decide +kernel
theorem dX13_closesSums_29 : decode cX13_closesSums 29 = .ok (.aload_n 0, 1) := by decide +kernel
theorem dX13_closesSums_30 : decode cX13_closesSums 30 = .ok (.invokevirtual 182, 3) := by decide +kernel
theorem dX13_closesSums_33 : decode cX13_closesSums 33 = .ok (.iconst 3, 1) := by decide +kernel
theorem dX13_closesSums_34 : decode cX13_closesSums 34 = .ok (.if_icmp .ne 25, 3) := by decide +kernel
theorem dX13_closesSums_37 : decode cX13_closesSums 37 = .ok (.aload_n 0, 1) := by decide +kernel
theorem dX13_closesSums_38 : decode cX13_closesSums 38 = .ok (.aload_n 0, 1) := by decide +kernel
theorem dX13_closesSums_39 : decode cX13_closesSums 39 = .ok (.invokevirtual 182, 3) := by decide +kernel
theorem dX13_closesSums_42 : decode cX13_closesSums 42 = .ok (.iconst 0, 1) := by decide +kernel
theorem dX13_closesSums_43 : decode cX13_closesSums 43 = .ok (.invokevirtual 185, 3) := by decide +kernel
theorem dX13_closesSums_46 : decode cX13_closesSums 46 = .ok (.aload_n 0, 1) := by decide +kernel
theorem dX13_closesSums_47 : decode cX13_closesSums 47 = .ok (.aload_n 0, 1) := by decide +kernel
theorem dX13_closesSums_48 : decode cX13_closesSums 48 = .ok (.getfield 179, 3) := by decide +kernel
theorem dX13_closesSums_51 : decode cX13_closesSums 51 = .ok (.iconst 1, 1) := by decide +kernel
theorem dX13_closesSums_52 : decode cX13_closesSums 52 = .ok (.isub, 1) := by decide +kernel
theorem dX13_closesSums_53 : decode cX13_closesSums 53 = .ok (.putfield 179, 3) := by decide +kernel
theorem dX13_closesSums_56 : decode cX13_closesSums 56 = .ok (.goto (-56), 3) := by decide +kernel
theorem dX13_closesSums_59 : decode cX13_closesSums 59 = .ok (.return_, 1) := by decide +kernel
theorem dX13_readsFactor_0 : decode cX13_readsFactor 0 = .ok (.aload_n 0, 1) := by decide +kernel
theorem dX13_readsFactor_1 : decode cX13_readsFactor 1 = .ok (.invokevirtual 156, 3) := by decide +kernel
theorem dX13_readsFactor_4 : decode cX13_readsFactor 4 = .ok (.bipush 91, 2) := by decide +kernel
theorem dX13_readsFactor_6 : decode cX13_readsFactor 6 = .ok (.if_icmp .ne 14, 3) := by decide +kernel
theorem dX13_readsFactor_9 : decode cX13_readsFactor 9 = .ok (.aload_n 0, 1) := by decide +kernel
theorem dX13_readsFactor_10 : decode cX13_readsFactor 10 = .ok (.bipush 14, 2) := by decide +kernel
theorem dX13_readsFactor_12 : decode cX13_readsFactor 12 = .ok (.invokevirtual 189, 3) := by decide +kernel
theorem dX13_readsFactor_15 : decode cX13_readsFactor 15 = .ok (.ifCond .ne (-15), 3) := by decide +kernel
theorem dX13_readsFactor_18 : decode cX13_readsFactor 18 = .ok (.iconst 0, 1) := by decide +kernel
theorem dX13_readsFactor_19 : decode cX13_readsFactor 19 = .ok (.ireturn, 1) := by decide +kernel
theorem dX13_readsFactor_20 : decode cX13_readsFactor 20 = .ok (.aload_n 0, 1) := by decide +kernel
theorem dX13_readsFactor_21 : decode cX13_readsFactor 21 = .ok (.invokevirtual 168, 3) := by decide +kernel
theorem dX13_readsFactor_24 : decode cX13_readsFactor 24 = .ok (.ifCond .eq 23, 3) := by decide +kernel
theorem dX13_readsFactor_27 : decode cX13_readsFactor 27 = .ok (.aload_n 0, 1) := by decide +kernel
theorem dX13_readsFactor_28 : decode cX13_readsFactor 28 = .ok (.invokevirtual 192, 3) := by decide +kernel
theorem dX13_readsFactor_31 : decode cX13_readsFactor 31 = .ok (.ifCond .ne 5, 3) := by decide +kernel
theorem dX13_readsFactor_34 : decode cX13_readsFactor 34 = .ok (.iconst 0, 1) := by decide +kernel
theorem dX13_readsFactor_35 : decode cX13_readsFactor 35 = .ok (.ireturn, 1) := by decide +kernel
theorem dX13_readsFactor_36 : decode cX13_readsFactor 36 = .ok (.aload_n 0, 1) := by decide +kernel
theorem dX13_readsFactor_37 : decode cX13_readsFactor 37 = .ok (.iconst 0, 1) := by decide +kernel
theorem dX13_readsFactor_38 : decode cX13_readsFactor 38 = .ok (.aload_n 0, 1) := by decide +kernel
theorem dX13_readsFactor_39 : decode cX13_readsFactor 39 = .ok (.getfield 165, 3) := by decide +kernel
theorem dX13_readsFactor_42 : decode cX13_readsFactor 42 = .ok (.invokevirtual 185, 3) := by decide +kernel
theorem dX13_readsFactor_45 : decode cX13_readsFactor 45 = .ok (.iconst 1, 1) := by decide +kernel
theorem dX13_readsFactor_46 : decode cX13_readsFactor 46 = .ok (.ireturn, 1) := by decide +kernel
theorem dX13_readsFactor_47 : decode cX13_readsFactor 47 = .ok (.aload_n 0, 1) := by decide +kernel
theorem dX13_readsFactor_48 : decode cX13_readsFactor 48 = .ok (.invokevirtual 156, 3) := by decide +kernel
theorem dX13_readsFactor_51 : decode cX13_readsFactor 51 = .ok (.invokestatic 195, 3) := by decide +kernel
theorem dX13_readsFactor_54 : decode cX13_readsFactor 54 = .ok (.istore_n 1, 1) := by decide +kernel
theorem dX13_readsFactor_55 : decode cX13_readsFactor 55 = .ok (.iload_n 1, 1) := by decide +kernel
theorem dX13_readsFactor_56 : decode cX13_readsFactor 56 = .ok (.iconst (-1), 1) := by decide +kernel
theorem dX13_readsFactor_57 : decode cX13_readsFactor 57 = .ok (.if_icmp .ne 13, 3) := by decide +kernel
theorem dX13_readsFactor_60 : decode cX13_readsFactor 60 = .ok (.aload_n 0, 1) := by decide +kernel
theorem dX13_readsFactor_61 : decode cX13_readsFactor 61 = .ok (.iconst 1, 1) := by decide +kernel
theorem dX13_readsFactor_62 : decode cX13_readsFactor 62 = .ok (.aload_n 0, 1) := by decide +kernel
theorem dX13_readsFactor_63 : decode cX13_readsFactor 63 = .ok (.getfield 150, 3) := by decide +kernel
theorem dX13_readsFactor_66 : decode cX13_readsFactor 66 = .ok (.invokevirtual 162, 3) := by decide +kernel
theorem dX13_readsFactor_69 : decode cX13_readsFactor 69 = .ok (.ireturn, 1) := by decide +kernel
theorem dX13_readsFactor_70 : decode cX13_readsFactor 70 = .ok (.aload_n 0, 1) := by decide +kernel
theorem dX13_readsFactor_71 : decode cX13_readsFactor 71 = .ok (.iconst 1, 1) := by decide +kernel
theorem dX13_readsFactor_72 : decode cX13_readsFactor 72 = .ok (.iload_n 1, 1) := by decide +kernel
theorem dX13_readsFactor_73 : decode cX13_readsFactor 73 = .ok (.invokevirtual 185, 3) := by decide +kernel
theorem dX13_readsFactor_76 : decode cX13_readsFactor 76 = .ok (.aload_n 0, 1) := by decide +kernel
theorem dX13_readsFactor_77 : decode cX13_readsFactor 77 = .ok (.aload_n 0, 1) := by decide +kernel
theorem dX13_readsFactor_78 : decode cX13_readsFactor 78 = .ok (.getfield 150, 3) := by decide +kernel
theorem dX13_readsFactor_81 : decode cX13_readsFactor 81 = .ok (.iconst 1, 1) := by decide +kernel
theorem dX13_readsFactor_82 : decode cX13_readsFactor 82 = .ok (.iadd, 1) := by decide +kernel
theorem dX13_readsFactor_83 : decode cX13_readsFactor 83 = .ok (.putfield 150, 3) := by decide +kernel
theorem dX13_readsFactor_86 : decode cX13_readsFactor 86 = .ok (.iconst 1, 1) := by decide +kernel
theorem dX13_readsFactor_87 : decode cX13_readsFactor 87 = .ok (.ireturn, 1) := by decide +kernel
theorem dX13_hasOpenSum_0 : decode cX13_hasOpenSum 0 = .ok (.iload_n 1, 1) := by decide +kernel
theorem dX13_hasOpenSum_1 : decode cX13_hasOpenSum 1 = .ok (.istore_n 2, 1) := by decide +kernel
theorem dX13_hasOpenSum_2 : decode cX13_hasOpenSum 2 = .ok (.iload_n 2, 1) := by decide +kernel
theorem dX13_hasOpenSum_3 : decode cX13_hasOpenSum 3 = .ok (.aload_n 0, 1) := by decide +kernel
theorem dX13_hasOpenSum_4 : decode cX13_hasOpenSum 4 = .ok (.getfield 179, 3) := by decide +kernel
theorem dX13_hasOpenSum_7 : decode cX13_hasOpenSum 7 = .ok (.if_icmp .ge 25, 3) := by decide +kernel
theorem dX13_hasOpenSum_10 : decode cX13_hasOpenSum 10 = .ok (.aload_n 0, 1) := by decide +kernel
theorem dX13_hasOpenSum_11 : decode cX13_hasOpenSum 11 = .ok (.getfield 41, 3) := by decide +kernel
theorem dX13_hasOpenSum_14 : decode cX13_hasOpenSum 14 = .ok (.iload_n 2, 1) := by decide +kernel
theorem dX13_hasOpenSum_15 : decode cX13_hasOpenSum 15 = .ok (.iaload, 1) := by decide +kernel
theorem dX13_hasOpenSum_16 : decode cX13_hasOpenSum 16 = .ok (.ldc 175, 2) := by decide +kernel
theorem dX13_hasOpenSum_18 : decode cX13_hasOpenSum 18 = .ok (.idiv, 1) := by decide +kernel
theorem dX13_hasOpenSum_19 : decode cX13_hasOpenSum 19 = .ok (.bipush 14, 2) := by decide +kernel
theorem dX13_hasOpenSum_21 : decode cX13_hasOpenSum 21 = .ok (.if_icmp .ne 5, 3) := by decide +kernel
theorem dX13_hasOpenSum_24 : decode cX13_hasOpenSum 24 = .ok (.iconst 1, 1) := by decide +kernel
theorem dX13_hasOpenSum_25 : decode cX13_hasOpenSum 25 = .ok (.ireturn, 1) := by decide +kernel
theorem dX13_hasOpenSum_26 : decode cX13_hasOpenSum 26 = .ok (.iinc 2 1, 3) := by decide +kernel
theorem dX13_hasOpenSum_29 : decode cX13_hasOpenSum 29 = .ok (.goto (-27), 3) := by decide +kernel
theorem dX13_hasOpenSum_32 : decode cX13_hasOpenSum 32 = .ok (.iconst 0, 1) := by decide +kernel
theorem dX13_hasOpenSum_33 : decode cX13_hasOpenSum 33 = .ok (.ireturn, 1) := by decide +kernel
theorem dX13_readsSum_0 : decode cX13_readsSum 0 = .ok (.aload_n 0, 1) := by decide +kernel
theorem dX13_readsSum_1 : decode cX13_readsSum 1 = .ok (.getfield 179, 3) := by decide +kernel
theorem dX13_readsSum_4 : decode cX13_readsSum 4 = .ok (.istore_n 1, 1) := by decide +kernel
theorem dX13_readsSum_5 : decode cX13_readsSum 5 = .ok (.aload_n 0, 1) := by decide +kernel
theorem dX13_readsSum_6 : decode cX13_readsSum 6 = .ok (.invokevirtual 198, 3) := by decide +kernel
theorem dX13_readsSum_9 : decode cX13_readsSum 9 = .ok (.ifCond .ne 5, 3) := by decide +kernel
theorem dX13_readsSum_12 : decode cX13_readsSum 12 = .ok (.iconst 0, 1) := by decide +kernel
theorem dX13_readsSum_13 : decode cX13_readsSum 13 = .ok (.ireturn, 1) := by decide +kernel
theorem dX13_readsSum_14 : decode cX13_readsSum 14 = .ok (.aload_n 0, 1) := by decide +kernel
theorem dX13_readsSum_15 : decode cX13_readsSum 15 = .ok (.invokevirtual 156, 3) := by decide +kernel
theorem dX13_readsSum_18 : decode cX13_readsSum 18 = .ok (.invokestatic 201, 3) := by decide +kernel
theorem dX13_readsSum_21 : decode cX13_readsSum 21 = .ok (.istore_n 2, 1) := by decide +kernel
theorem dX13_readsSum_22 : decode cX13_readsSum 22 = .ok (.iload_n 2, 1) := by decide +kernel
theorem dX13_readsSum_23 : decode cX13_readsSum 23 = .ok (.iconst (-1), 1) := by decide +kernel
theorem dX13_readsSum_24 : decode cX13_readsSum 24 = .ok (.if_icmp .eq 59, 3) := by decide +kernel
theorem dX13_readsSum_27 : decode cX13_readsSum 27 = .ok (.aload_n 0, 1) := by decide +kernel
theorem dX13_readsSum_28 : decode cX13_readsSum 28 = .ok (.iload_n 2, 1) := by decide +kernel
theorem dX13_readsSum_29 : decode cX13_readsSum 29 = .ok (.iconst 4, 1) := by decide +kernel
theorem dX13_readsSum_30 : decode cX13_readsSum 30 = .ok (.if_icmp .ge 7, 3) := by decide +kernel
theorem dX13_readsSum_33 : decode cX13_readsSum 33 = .ok (.iconst 1, 1) := by decide +kernel
theorem dX13_readsSum_34 : decode cX13_readsSum 34 = .ok (.goto 4, 3) := by decide +kernel
theorem dX13_readsSum_37 : decode cX13_readsSum 37 = .ok (.iconst 0, 1) := by decide +kernel
theorem dX13_readsSum_38 : decode cX13_readsSum 38 = .ok (.invokevirtual 204, 3) := by decide +kernel
theorem dX13_readsSum_41 : decode cX13_readsSum 41 = .ok (.aload_n 0, 1) := by decide +kernel
theorem dX13_readsSum_42 : decode cX13_readsSum 42 = .ok (.getfield 41, 3) := by decide +kernel
theorem dX13_readsSum_45 : decode cX13_readsSum 45 = .ok (.aload_n 0, 1) := by decide +kernel
theorem dX13_readsSum_46 : decode cX13_readsSum 46 = .ok (.getfield 179, 3) := by decide +kernel
theorem dX13_readsSum_49 : decode cX13_readsSum 49 = .ok (.ldc 175, 2) := by decide +kernel
theorem dX13_readsSum_51 : decode cX13_readsSum 51 = .ok (.iload_n 2, 1) := by decide +kernel
theorem dX13_readsSum_52 : decode cX13_readsSum 52 = .ok (.imul, 1) := by decide +kernel
theorem dX13_readsSum_53 : decode cX13_readsSum 53 = .ok (.iastore, 1) := by decide +kernel
theorem dX13_readsSum_54 : decode cX13_readsSum 54 = .ok (.aload_n 0, 1) := by decide +kernel
theorem dX13_readsSum_55 : decode cX13_readsSum 55 = .ok (.aload_n 0, 1) := by decide +kernel
theorem dX13_readsSum_56 : decode cX13_readsSum 56 = .ok (.getfield 179, 3) := by decide +kernel
theorem dX13_readsSum_59 : decode cX13_readsSum 59 = .ok (.iconst 1, 1) := by decide +kernel
theorem dX13_readsSum_60 : decode cX13_readsSum 60 = .ok (.iadd, 1) := by decide +kernel
theorem dX13_readsSum_61 : decode cX13_readsSum 61 = .ok (.putfield 179, 3) := by decide +kernel
theorem dX13_readsSum_64 : decode cX13_readsSum 64 = .ok (.aload_n 0, 1) := by decide +kernel
theorem dX13_readsSum_65 : decode cX13_readsSum 65 = .ok (.aload_n 0, 1) := by decide +kernel
theorem dX13_readsSum_66 : decode cX13_readsSum 66 = .ok (.getfield 150, 3) := by decide +kernel
theorem dX13_readsSum_69 : decode cX13_readsSum 69 = .ok (.iconst 1, 1) := by decide +kernel
theorem dX13_readsSum_70 : decode cX13_readsSum 70 = .ok (.iadd, 1) := by decide +kernel
theorem dX13_readsSum_71 : decode cX13_readsSum 71 = .ok (.putfield 150, 3) := by decide +kernel
theorem dX13_readsSum_74 : decode cX13_readsSum 74 = .ok (.aload_n 0, 1) := by decide +kernel
theorem dX13_readsSum_75 : decode cX13_readsSum 75 = .ok (.invokevirtual 198, 3) := by decide +kernel
theorem dX13_readsSum_78 : decode cX13_readsSum 78 = .ok (.ifCond .ne 85, 3) := by decide +kernel
theorem dX13_readsSum_81 : decode cX13_readsSum 81 = .ok (.iconst 0, 1) := by decide +kernel
theorem dX13_readsSum_82 : decode cX13_readsSum 82 = .ok (.ireturn, 1) := by decide +kernel
theorem dX13_readsSum_83 : decode cX13_readsSum 83 = .ok (.aload_n 0, 1) := by decide +kernel
theorem dX13_readsSum_84 : decode cX13_readsSum 84 = .ok (.invokevirtual 156, 3) := by decide +kernel
theorem dX13_readsSum_87 : decode cX13_readsSum 87 = .ok (.bipush 93, 2) := by decide +kernel
theorem dX13_readsSum_89 : decode cX13_readsSum 89 = .ok (.if_icmp .ne 49, 3) := by decide +kernel
theorem dX13_readsSum_92 : decode cX13_readsSum 92 = .ok (.aload_n 0, 1) := by decide +kernel
theorem dX13_readsSum_93 : decode cX13_readsSum 93 = .ok (.iload_n 1, 1) := by decide +kernel
theorem dX13_readsSum_94 : decode cX13_readsSum 94 = .ok (.invokevirtual 208, 3) := by decide +kernel
theorem dX13_readsSum_97 : decode cX13_readsSum 97 = .ok (.ifCond .eq 41, 3) := by decide +kernel
theorem dX13_readsSum_100 : decode cX13_readsSum 100 = .ok (.aload_n 0, 1) := by decide +kernel
theorem dX13_readsSum_101 : decode cX13_readsSum 101 = .ok (.iconst 1, 1) := by decide +kernel
theorem dX13_readsSum_102 : decode cX13_readsSum 102 = .ok (.invokevirtual 204, 3) := by decide +kernel
theorem dX13_readsSum_105 : decode cX13_readsSum 105 = .ok (.aload_n 0, 1) := by decide +kernel
theorem dX13_readsSum_106 : decode cX13_readsSum 106 = .ok (.aload_n 0, 1) := by decide +kernel
theorem dX13_readsSum_107 : decode cX13_readsSum 107 = .ok (.getfield 179, 3) := by decide +kernel
theorem dX13_readsSum_110 : decode cX13_readsSum 110 = .ok (.iconst 1, 1) := by decide +kernel
theorem dX13_readsSum_111 : decode cX13_readsSum 111 = .ok (.isub, 1) := by decide +kernel
theorem dX13_readsSum_112 : decode cX13_readsSum 112 = .ok (.putfield 179, 3) := by decide +kernel
theorem dX13_readsSum_115 : decode cX13_readsSum 115 = .ok (.aload_n 0, 1) := by decide +kernel
theorem dX13_readsSum_116 : decode cX13_readsSum 116 = .ok (.aload_n 0, 1) := by decide +kernel
theorem dX13_readsSum_117 : decode cX13_readsSum 117 = .ok (.getfield 176, 3) := by decide +kernel
theorem dX13_readsSum_120 : decode cX13_readsSum 120 = .ok (.iconst 1, 1) := by decide +kernel
theorem dX13_readsSum_121 : decode cX13_readsSum 121 = .ok (.isub, 1) := by decide +kernel
theorem dX13_readsSum_122 : decode cX13_readsSum 122 = .ok (.putfield 176, 3) := by decide +kernel
theorem dX13_readsSum_125 : decode cX13_readsSum 125 = .ok (.aload_n 0, 1) := by decide +kernel
theorem dX13_readsSum_126 : decode cX13_readsSum 126 = .ok (.aload_n 0, 1) := by decide +kernel
theorem dX13_readsSum_127 : decode cX13_readsSum 127 = .ok (.getfield 150, 3) := by decide +kernel
theorem dX13_readsSum_130 : decode cX13_readsSum 130 = .ok (.iconst 1, 1) := by decide +kernel
theorem dX13_readsSum_131 : decode cX13_readsSum 131 = .ok (.iadd, 1) := by decide +kernel
theorem dX13_readsSum_132 : decode cX13_readsSum 132 = .ok (.putfield 150, 3) := by decide +kernel
theorem dX13_readsSum_135 : decode cX13_readsSum 135 = .ok (.goto 28, 3) := by decide +kernel
theorem dX13_readsSum_138 : decode cX13_readsSum 138 = .ok (.aload_n 0, 1) := by decide +kernel
theorem dX13_readsSum_139 : decode cX13_readsSum 139 = .ok (.iload_n 1, 1) := by decide +kernel
theorem dX13_readsSum_140 : decode cX13_readsSum 140 = .ok (.invokevirtual 208, 3) := by decide +kernel
theorem dX13_readsSum_143 : decode cX13_readsSum 143 = .ok (.ifCond .eq 13, 3) := by decide +kernel
theorem dX13_readsSum_146 : decode cX13_readsSum 146 = .ok (.aload_n 0, 1) := by decide +kernel
theorem dX13_readsSum_147 : decode cX13_readsSum 147 = .ok (.iconst 1, 1) := by decide +kernel
theorem dX13_readsSum_148 : decode cX13_readsSum 148 = .ok (.aload_n 0, 1) := by decide +kernel
theorem dX13_readsSum_149 : decode cX13_readsSum 149 = .ok (.getfield 150, 3) := by decide +kernel
theorem dX13_readsSum_152 : decode cX13_readsSum 152 = .ok (.invokevirtual 162, 3) := by decide +kernel
theorem dX13_readsSum_155 : decode cX13_readsSum 155 = .ok (.ireturn, 1) := by decide +kernel
theorem dX13_readsSum_156 : decode cX13_readsSum 156 = .ok (.aload_n 0, 1) := by decide +kernel
theorem dX13_readsSum_157 : decode cX13_readsSum 157 = .ok (.iconst 1, 1) := by decide +kernel
theorem dX13_readsSum_158 : decode cX13_readsSum 158 = .ok (.invokevirtual 204, 3) := by decide +kernel
theorem dX13_readsSum_161 : decode cX13_readsSum 161 = .ok (.iconst 1, 1) := by decide +kernel
theorem dX13_readsSum_162 : decode cX13_readsSum 162 = .ok (.ireturn, 1) := by decide +kernel
theorem dX13_readsSum_163 : decode cX13_readsSum 163 = .ok (.goto (-149), 3) := by decide +kernel
theorem dX13_endsPiece_0 : decode cX13_endsPiece 0 = .ok (.aload_n 0, 1) := by decide +kernel
theorem dX13_endsPiece_1 : decode cX13_endsPiece 1 = .ok (.invokevirtual 182, 3) := by decide +kernel
theorem dX13_endsPiece_4 : decode cX13_endsPiece 4 = .ok (.bipush 10, 2) := by decide +kernel
theorem dX13_endsPiece_6 : decode cX13_endsPiece 6 = .ok (.if_icmp .ne 33, 3) := by decide +kernel
theorem dX13_endsPiece_9 : decode cX13_endsPiece 9 = .ok (.aload_n 0, 1) := by decide +kernel
theorem dX13_endsPiece_10 : decode cX13_endsPiece 10 = .ok (.bipush 10, 2) := by decide +kernel
theorem dX13_endsPiece_12 : decode cX13_endsPiece 12 = .ok (.iconst 0, 1) := by decide +kernel
theorem dX13_endsPiece_13 : decode cX13_endsPiece 13 = .ok (.invokevirtual 185, 3) := by decide +kernel
theorem dX13_endsPiece_16 : decode cX13_endsPiece 16 = .ok (.aload_n 0, 1) := by decide +kernel
theorem dX13_endsPiece_17 : decode cX13_endsPiece 17 = .ok (.aload_n 0, 1) := by decide +kernel
theorem dX13_endsPiece_18 : decode cX13_endsPiece 18 = .ok (.getfield 179, 3) := by decide +kernel
theorem dX13_endsPiece_21 : decode cX13_endsPiece 21 = .ok (.iconst 1, 1) := by decide +kernel
theorem dX13_endsPiece_22 : decode cX13_endsPiece 22 = .ok (.isub, 1) := by decide +kernel
theorem dX13_endsPiece_23 : decode cX13_endsPiece 23 = .ok (.putfield 179, 3) := by decide +kernel
theorem dX13_endsPiece_26 : decode cX13_endsPiece 26 = .ok (.aload_n 0, 1) := by decide +kernel
theorem dX13_endsPiece_27 : decode cX13_endsPiece 27 = .ok (.aload_n 0, 1) := by decide +kernel
theorem dX13_endsPiece_28 : decode cX13_endsPiece 28 = .ok (.getfield 176, 3) := by decide +kernel
theorem dX13_endsPiece_31 : decode cX13_endsPiece 31 = .ok (.iconst 1, 1) := by decide +kernel
theorem dX13_endsPiece_32 : decode cX13_endsPiece 32 = .ok (.isub, 1) := by decide +kernel
theorem dX13_endsPiece_33 : decode cX13_endsPiece 33 = .ok (.putfield 176, 3) := by decide +kernel
theorem dX13_endsPiece_36 : decode cX13_endsPiece 36 = .ok (.goto (-36), 3) := by decide +kernel
theorem dX13_endsPiece_39 : decode cX13_endsPiece 39 = .ok (.return_, 1) := by decide +kernel
theorem dX13_lands_0 : decode cX13_lands 0 = .ok (.aload_n 0, 1) := by decide +kernel
theorem dX13_lands_1 : decode cX13_lands 1 = .ok (.invokevirtual 182, 3) := by decide +kernel
theorem dX13_lands_4 : decode cX13_lands 4 = .ok (.bipush 11, 2) := by decide +kernel
theorem dX13_lands_6 : decode cX13_lands 6 = .ok (.if_icmp .eq 16, 3) := by decide +kernel
theorem dX13_lands_9 : decode cX13_lands 9 = .ok (.iload_n 1, 1) := by decide +kernel
theorem dX13_lands_10 : decode cX13_lands 10 = .ok (.ifCond .eq 63, 3) := by decide +kernel
theorem dX13_lands_13 : decode cX13_lands 13 = .ok (.aload_n 0, 1) := by decide +kernel
theorem dX13_lands_14 : decode cX13_lands 14 = .ok (.invokevirtual 182, 3) := by decide +kernel
theorem dX13_lands_17 : decode cX13_lands 17 = .ok (.bipush 12, 2) := by decide +kernel
theorem dX13_lands_19 : decode cX13_lands 19 = .ok (.if_icmp .ne 54, 3) := by decide +kernel
theorem dX13_lands_22 : decode cX13_lands 22 = .ok (.aload_n 0, 1) := by decide +kernel
theorem dX13_lands_23 : decode cX13_lands 23 = .ok (.getfield 41, 3) := by decide +kernel
theorem dX13_lands_26 : decode cX13_lands 26 = .ok (.aload_n 0, 1) := by decide +kernel
theorem dX13_lands_27 : decode cX13_lands 27 = .ok (.getfield 179, 3) := by decide +kernel
theorem dX13_lands_30 : decode cX13_lands 30 = .ok (.iconst 1, 1) := by decide +kernel
theorem dX13_lands_31 : decode cX13_lands 31 = .ok (.isub, 1) := by decide +kernel
theorem dX13_lands_32 : decode cX13_lands 32 = .ok (.iaload, 1) := by decide +kernel
theorem dX13_lands_33 : decode cX13_lands 33 = .ok (.ldc 175, 2) := by decide +kernel
theorem dX13_lands_35 : decode cX13_lands 35 = .ok (.irem, 1) := by decide +kernel
theorem dX13_lands_36 : decode cX13_lands 36 = .ok (.istore_n 2, 1) := by decide +kernel
theorem dX13_lands_37 : decode cX13_lands 37 = .ok (.aload_n 0, 1) := by decide +kernel
theorem dX13_lands_38 : decode cX13_lands 38 = .ok (.getfield 38, 3) := by decide +kernel
theorem dX13_lands_41 : decode cX13_lands 41 = .ok (.iload_n 2, 1) := by decide +kernel
theorem dX13_lands_42 : decode cX13_lands 42 = .ok (.ldc 175, 2) := by decide +kernel
theorem dX13_lands_44 : decode cX13_lands 44 = .ok (.aload_n 0, 1) := by decide +kernel
theorem dX13_lands_45 : decode cX13_lands 45 = .ok (.getfield 38, 3) := by decide +kernel
theorem dX13_lands_48 : decode cX13_lands 48 = .ok (.iload_n 2, 1) := by decide +kernel
theorem dX13_lands_49 : decode cX13_lands 49 = .ok (.iaload, 1) := by decide +kernel
theorem dX13_lands_50 : decode cX13_lands 50 = .ok (.ldc 175, 2) := by decide +kernel
theorem dX13_lands_52 : decode cX13_lands 52 = .ok (.idiv, 1) := by decide +kernel
theorem dX13_lands_53 : decode cX13_lands 53 = .ok (.imul, 1) := by decide +kernel
theorem dX13_lands_54 : decode cX13_lands 54 = .ok (.aload_n 0, 1) := by decide +kernel
theorem dX13_lands_55 : decode cX13_lands 55 = .ok (.getfield 172, 3) := by decide +kernel
theorem dX13_lands_58 : decode cX13_lands 58 = .ok (.iadd, 1) := by decide +kernel
theorem dX13_lands_59 : decode cX13_lands 59 = .ok (.iastore, 1) := by decide +kernel
theorem dX13_lands_60 : decode cX13_lands 60 = .ok (.aload_n 0, 1) := by decide +kernel
theorem dX13_lands_61 : decode cX13_lands 61 = .ok (.aload_n 0, 1) := by decide +kernel
theorem dX13_lands_62 : decode cX13_lands 62 = .ok (.getfield 179, 3) := by decide +kernel
theorem dX13_lands_65 : decode cX13_lands 65 = .ok (.iconst 1, 1) := by decide +kernel
theorem dX13_lands_66 : decode cX13_lands 66 = .ok (.isub, 1) := by decide +kernel
theorem dX13_lands_67 : decode cX13_lands 67 = .ok (.putfield 179, 3) := by decide +kernel
theorem dX13_lands_70 : decode cX13_lands 70 = .ok (.goto (-70), 3) := by decide +kernel
theorem dX13_lands_73 : decode cX13_lands 73 = .ok (.return_, 1) := by decide +kernel
theorem dX13_jumps_0 : decode cX13_jumps 0 = .ok (.aload_n 0, 1) := by decide +kernel
theorem dX13_jumps_1 : decode cX13_jumps 1 = .ok (.getfield 41, 3) := by decide +kernel
theorem dX13_jumps_4 : decode cX13_jumps 4 = .ok (.aload_n 0, 1) := by decide +kernel
theorem dX13_jumps_5 : decode cX13_jumps 5 = .ok (.getfield 179, 3) := by decide +kernel
theorem dX13_jumps_8 : decode cX13_jumps 8 = .ok (.ldc 175, 2) := by decide +kernel
theorem dX13_jumps_10 : decode cX13_jumps 10 = .ok (.iload_n 1, 1) := by decide +kernel
theorem dX13_jumps_11 : decode cX13_jumps 11 = .ok (.imul, 1) := by decide +kernel
theorem dX13_jumps_12 : decode cX13_jumps 12 = .ok (.aload_n 0, 1) := by decide +kernel
theorem dX13_jumps_13 : decode cX13_jumps 13 = .ok (.getfield 172, 3) := by decide +kernel
theorem dX13_jumps_16 : decode cX13_jumps 16 = .ok (.iadd, 1) := by decide +kernel
theorem dX13_jumps_17 : decode cX13_jumps 17 = .ok (.iastore, 1) := by decide +kernel
theorem dX13_jumps_18 : decode cX13_jumps 18 = .ok (.aload_n 0, 1) := by decide +kernel
theorem dX13_jumps_19 : decode cX13_jumps 19 = .ok (.aload_n 0, 1) := by decide +kernel
theorem dX13_jumps_20 : decode cX13_jumps 20 = .ok (.getfield 179, 3) := by decide +kernel
theorem dX13_jumps_23 : decode cX13_jumps 23 = .ok (.iconst 1, 1) := by decide +kernel
theorem dX13_jumps_24 : decode cX13_jumps 24 = .ok (.iadd, 1) := by decide +kernel
theorem dX13_jumps_25 : decode cX13_jumps 25 = .ok (.putfield 179, 3) := by decide +kernel
theorem dX13_jumps_28 : decode cX13_jumps 28 = .ok (.aload_n 0, 1) := by decide +kernel
theorem dX13_jumps_29 : decode cX13_jumps 29 = .ok (.iload_n 1, 1) := by decide +kernel
theorem dX13_jumps_30 : decode cX13_jumps 30 = .ok (.iconst 0, 1) := by decide +kernel
theorem dX13_jumps_31 : decode cX13_jumps 31 = .ok (.invokevirtual 185, 3) := by decide +kernel
theorem dX13_jumps_34 : decode cX13_jumps 34 = .ok (.aload_n 0, 1) := by decide +kernel
theorem dX13_jumps_35 : decode cX13_jumps 35 = .ok (.aload_n 0, 1) := by decide +kernel
theorem dX13_jumps_36 : decode cX13_jumps 36 = .ok (.getfield 150, 3) := by decide +kernel
theorem dX13_jumps_39 : decode cX13_jumps 39 = .ok (.iconst 1, 1) := by decide +kernel
theorem dX13_jumps_40 : decode cX13_jumps 40 = .ok (.iadd, 1) := by decide +kernel
theorem dX13_jumps_41 : decode cX13_jumps 41 = .ok (.putfield 150, 3) := by decide +kernel
theorem dX13_jumps_44 : decode cX13_jumps 44 = .ok (.return_, 1) := by decide +kernel
theorem dX13_readsCompared_0 : decode cX13_readsCompared 0 = .ok (.aload_n 0, 1) := by decide +kernel
theorem dX13_readsCompared_1 : decode cX13_readsCompared 1 = .ok (.invokevirtual 211, 3) := by decide +kernel
theorem dX13_readsCompared_4 : decode cX13_readsCompared 4 = .ok (.ifCond .ne 5, 3) := by decide +kernel
theorem dX13_readsCompared_7 : decode cX13_readsCompared 7 = .ok (.iconst 0, 1) := by decide +kernel
theorem dX13_readsCompared_8 : decode cX13_readsCompared 8 = .ok (.ireturn, 1) := by decide +kernel
theorem dX13_readsCompared_9 : decode cX13_readsCompared 9 = .ok (.aload_n 0, 1) := by decide +kernel
theorem dX13_readsCompared_10 : decode cX13_readsCompared 10 = .ok (.invokevirtual 156, 3) := by decide +kernel
theorem dX13_readsCompared_13 : decode cX13_readsCompared 13 = .ok (.bipush 60, 2) := by decide +kernel
theorem dX13_readsCompared_15 : decode cX13_readsCompared 15 = .ok (.if_icmp .ne 8, 3) := by decide +kernel
theorem dX13_readsCompared_18 : decode cX13_readsCompared 18 = .ok (.bipush 7, 2) := by decide +kernel
theorem dX13_readsCompared_20 : decode cX13_readsCompared 20 = .ok (.goto 32, 3) := by decide +kernel
theorem dX13_readsCompared_23 : decode cX13_readsCompared 23 = .ok (.aload_n 0, 1) := by decide +kernel
theorem dX13_readsCompared_24 : decode cX13_readsCompared 24 = .ok (.invokevirtual 156, 3) := by decide +kernel
theorem dX13_readsCompared_27 : decode cX13_readsCompared 27 = .ok (.bipush 62, 2) := by decide +kernel
theorem dX13_readsCompared_29 : decode cX13_readsCompared 29 = .ok (.if_icmp .ne 8, 3) := by decide +kernel
theorem dX13_readsCompared_32 : decode cX13_readsCompared 32 = .ok (.bipush 8, 2) := by decide +kernel
theorem dX13_readsCompared_34 : decode cX13_readsCompared 34 = .ok (.goto 18, 3) := by decide +kernel
theorem dX13_readsCompared_37 : decode cX13_readsCompared 37 = .ok (.aload_n 0, 1) := by decide +kernel
theorem dX13_readsCompared_38 : decode cX13_readsCompared 38 = .ok (.invokevirtual 156, 3) := by decide +kernel
theorem dX13_readsCompared_41 : decode cX13_readsCompared 41 = .ok (.bipush 61, 2) := by decide +kernel
theorem dX13_readsCompared_43 : decode cX13_readsCompared 43 = .ok (.if_icmp .ne 8, 3) := by decide +kernel
theorem dX13_readsCompared_46 : decode cX13_readsCompared 46 = .ok (.bipush 9, 2) := by decide +kernel
theorem dX13_readsCompared_48 : decode cX13_readsCompared 48 = .ok (.goto 4, 3) := by decide +kernel
theorem dX13_readsCompared_51 : decode cX13_readsCompared 51 = .ok (.iconst (-1), 1) := by decide +kernel
theorem dX13_readsCompared_52 : decode cX13_readsCompared 52 = .ok (.istore_n 1, 1) := by decide +kernel
theorem dX13_readsCompared_53 : decode cX13_readsCompared 53 = .ok (.iload_n 1, 1) := by decide +kernel
theorem dX13_readsCompared_54 : decode cX13_readsCompared 54 = .ok (.iconst (-1), 1) := by decide +kernel
theorem dX13_readsCompared_55 : decode cX13_readsCompared 55 = .ok (.if_icmp .ne 13, 3) := by decide +kernel
theorem dX13_readsCompared_58 : decode cX13_readsCompared 58 = .ok (.aload_n 0, 1) := by decide +kernel
theorem dX13_readsCompared_59 : decode cX13_readsCompared 59 = .ok (.iconst 1, 1) := by decide +kernel
theorem dX13_readsCompared_60 : decode cX13_readsCompared 60 = .ok (.aload_n 0, 1) := by decide +kernel
theorem dX13_readsCompared_61 : decode cX13_readsCompared 61 = .ok (.getfield 150, 3) := by decide +kernel
theorem dX13_readsCompared_64 : decode cX13_readsCompared 64 = .ok (.invokevirtual 162, 3) := by decide +kernel
theorem dX13_readsCompared_67 : decode cX13_readsCompared 67 = .ok (.ireturn, 1) := by decide +kernel
theorem dX13_readsCompared_68 : decode cX13_readsCompared 68 = .ok (.aload_n 0, 1) := by decide +kernel
theorem dX13_readsCompared_69 : decode cX13_readsCompared 69 = .ok (.aload_n 0, 1) := by decide +kernel
theorem dX13_readsCompared_70 : decode cX13_readsCompared 70 = .ok (.getfield 150, 3) := by decide +kernel
theorem dX13_readsCompared_73 : decode cX13_readsCompared 73 = .ok (.iconst 1, 1) := by decide +kernel
theorem dX13_readsCompared_74 : decode cX13_readsCompared 74 = .ok (.iadd, 1) := by decide +kernel
theorem dX13_readsCompared_75 : decode cX13_readsCompared 75 = .ok (.putfield 150, 3) := by decide +kernel
theorem dX13_readsCompared_78 : decode cX13_readsCompared 78 = .ok (.aload_n 0, 1) := by decide +kernel
theorem dX13_readsCompared_79 : decode cX13_readsCompared 79 = .ok (.invokevirtual 211, 3) := by decide +kernel
theorem dX13_readsCompared_82 : decode cX13_readsCompared 82 = .ok (.ifCond .ne 5, 3) := by decide +kernel
theorem dX13_readsCompared_85 : decode cX13_readsCompared 85 = .ok (.iconst 0, 1) := by decide +kernel
theorem dX13_readsCompared_86 : decode cX13_readsCompared 86 = .ok (.ireturn, 1) := by decide +kernel
theorem dX13_readsCompared_87 : decode cX13_readsCompared 87 = .ok (.aload_n 0, 1) := by decide +kernel
theorem dX13_readsCompared_88 : decode cX13_readsCompared 88 = .ok (.iload_n 1, 1) := by decide +kernel
theorem dX13_readsCompared_89 : decode cX13_readsCompared 89 = .ok (.iconst 0, 1) := by decide +kernel
theorem dX13_readsCompared_90 : decode cX13_readsCompared 90 = .ok (.invokevirtual 185, 3) := by decide +kernel
theorem dX13_readsCompared_93 : decode cX13_readsCompared 93 = .ok (.aload_n 0, 1) := by decide +kernel
theorem dX13_readsCompared_94 : decode cX13_readsCompared 94 = .ok (.invokevirtual 214, 3) := by decide +kernel
theorem dX13_readsCompared_97 : decode cX13_readsCompared 97 = .ok (.iconst 1, 1) := by decide +kernel
theorem dX13_readsCompared_98 : decode cX13_readsCompared 98 = .ok (.ireturn, 1) := by decide +kernel
theorem dX13_readsCondition_0 : decode cX13_readsCondition 0 = .ok (.aload_n 0, 1) := by decide +kernel
theorem dX13_readsCondition_1 : decode cX13_readsCondition 1 = .ok (.invokevirtual 156, 3) := by decide +kernel
theorem dX13_readsCondition_4 : decode cX13_readsCondition 4 = .ok (.bipush 40, 2) := by decide +kernel
theorem dX13_readsCondition_6 : decode cX13_readsCondition 6 = .ok (.if_icmp .eq 13, 3) := by decide +kernel
theorem dX13_readsCondition_9 : decode cX13_readsCondition 9 = .ok (.aload_n 0, 1) := by decide +kernel
theorem dX13_readsCondition_10 : decode cX13_readsCondition 10 = .ok (.iconst 1, 1) := by decide +kernel
theorem dX13_readsCondition_11 : decode cX13_readsCondition 11 = .ok (.aload_n 0, 1) := by decide +kernel
theorem dX13_readsCondition_12 : decode cX13_readsCondition 12 = .ok (.getfield 150, 3) := by decide +kernel
theorem dX13_readsCondition_15 : decode cX13_readsCondition 15 = .ok (.invokevirtual 162, 3) := by decide +kernel
theorem dX13_readsCondition_18 : decode cX13_readsCondition 18 = .ok (.ireturn, 1) := by decide +kernel
theorem dX13_readsCondition_19 : decode cX13_readsCondition 19 = .ok (.aload_n 0, 1) := by decide +kernel
theorem dX13_readsCondition_20 : decode cX13_readsCondition 20 = .ok (.iconst 0, 1) := by decide +kernel
theorem dX13_readsCondition_21 : decode cX13_readsCondition 21 = .ok (.putfield 176, 3) := by decide +kernel
theorem dX13_readsCondition_24 : decode cX13_readsCondition 24 = .ok (.aload_n 0, 1) := by decide +kernel
theorem dX13_readsCondition_25 : decode cX13_readsCondition 25 = .ok (.iconst 0, 1) := by decide +kernel
theorem dX13_readsCondition_26 : decode cX13_readsCondition 26 = .ok (.putfield 179, 3) := by decide +kernel
theorem dX13_readsCondition_29 : decode cX13_readsCondition 29 = .ok (.aload_n 0, 1) := by decide +kernel
theorem dX13_readsCondition_30 : decode cX13_readsCondition 30 = .ok (.bipush 13, 2) := by decide +kernel
theorem dX13_readsCondition_32 : decode cX13_readsCondition 32 = .ok (.invokevirtual 189, 3) := by decide +kernel
theorem dX13_readsCondition_35 : decode cX13_readsCondition 35 = .ok (.ifCond .ne 5, 3) := by decide +kernel
theorem dX13_readsCondition_38 : decode cX13_readsCondition 38 = .ok (.iconst 0, 1) := by decide +kernel
theorem dX13_readsCondition_39 : decode cX13_readsCondition 39 = .ok (.ireturn, 1) := by decide +kernel
theorem dX13_readsCondition_40 : decode cX13_readsCondition 40 = .ok (.aload_n 0, 1) := by decide +kernel
theorem dX13_readsCondition_41 : decode cX13_readsCondition 41 = .ok (.invokevirtual 156, 3) := by decide +kernel
theorem dX13_readsCondition_44 : decode cX13_readsCondition 44 = .ok (.bipush 33, 2) := by decide +kernel
theorem dX13_readsCondition_46 : decode cX13_readsCondition 46 = .ok (.if_icmp .eq 12, 3) := by decide +kernel
theorem dX13_readsCondition_49 : decode cX13_readsCondition 49 = .ok (.aload_n 0, 1) := by decide +kernel
theorem dX13_readsCondition_50 : decode cX13_readsCondition 50 = .ok (.invokevirtual 156, 3) := by decide +kernel
theorem dX13_readsCondition_53 : decode cX13_readsCondition 53 = .ok (.bipush 40, 2) := by decide +kernel
theorem dX13_readsCondition_55 : decode cX13_readsCondition 55 = .ok (.if_icmp .ne 28, 3) := by decide +kernel
theorem dX13_readsCondition_58 : decode cX13_readsCondition 58 = .ok (.aload_n 0, 1) := by decide +kernel
theorem dX13_readsCondition_59 : decode cX13_readsCondition 59 = .ok (.aload_n 0, 1) := by decide +kernel
theorem dX13_readsCondition_60 : decode cX13_readsCondition 60 = .ok (.invokevirtual 156, 3) := by decide +kernel
theorem dX13_readsCondition_63 : decode cX13_readsCondition 63 = .ok (.bipush 33, 2) := by decide +kernel
theorem dX13_readsCondition_65 : decode cX13_readsCondition 65 = .ok (.if_icmp .ne 8, 3) := by decide +kernel
theorem dX13_readsCondition_68 : decode cX13_readsCondition 68 = .ok (.bipush 10, 2) := by decide +kernel
theorem dX13_readsCondition_70 : decode cX13_readsCondition 70 = .ok (.goto 5, 3) := by decide +kernel
theorem dX13_readsCondition_73 : decode cX13_readsCondition 73 = .ok (.bipush 13, 2) := by decide +kernel
theorem dX13_readsCondition_75 : decode cX13_readsCondition 75 = .ok (.invokevirtual 189, 3) := by decide +kernel
theorem dX13_readsCondition_78 : decode cX13_readsCondition 78 = .ok (.ifCond .ne (-38), 3) := by decide +kernel
theorem dX13_readsCondition_81 : decode cX13_readsCondition 81 = .ok (.iconst 0, 1) := by decide +kernel
theorem dX13_readsCondition_82 : decode cX13_readsCondition 82 = .ok (.ireturn, 1) := by decide +kernel
theorem dX13_readsCondition_83 : decode cX13_readsCondition 83 = .ok (.aload_n 0, 1) := by decide +kernel
theorem dX13_readsCondition_84 : decode cX13_readsCondition 84 = .ok (.invokevirtual 217, 3) := by decide +kernel
theorem dX13_readsCondition_87 : decode cX13_readsCondition 87 = .ok (.ifCond .ne 5, 3) := by decide +kernel
theorem dX13_readsCondition_90 : decode cX13_readsCondition 90 = .ok (.iconst 0, 1) := by decide +kernel
theorem dX13_readsCondition_91 : decode cX13_readsCondition 91 = .ok (.ireturn, 1) := by decide +kernel
theorem dX13_readsCondition_92 : decode cX13_readsCondition 92 = .ok (.aload_n 0, 1) := by decide +kernel
theorem dX13_readsCondition_93 : decode cX13_readsCondition 93 = .ok (.invokevirtual 156, 3) := by decide +kernel
theorem dX13_readsCondition_96 : decode cX13_readsCondition 96 = .ok (.bipush 41, 2) := by decide +kernel
theorem dX13_readsCondition_98 : decode cX13_readsCondition 98 = .ok (.if_icmp .ne 54, 3) := by decide +kernel
theorem dX13_readsCondition_101 : decode cX13_readsCondition 101 = .ok (.aload_n 0, 1) := by decide +kernel
theorem dX13_readsCondition_102 : decode cX13_readsCondition 102 = .ok (.iconst 1, 1) := by decide +kernel
theorem dX13_readsCondition_103 : decode cX13_readsCondition 103 = .ok (.invokevirtual 220, 3) := by decide +kernel
theorem dX13_readsCondition_106 : decode cX13_readsCondition 106 = .ok (.aload_n 0, 1) := by decide +kernel
theorem dX13_readsCondition_107 : decode cX13_readsCondition 107 = .ok (.aload_n 0, 1) := by decide +kernel
theorem dX13_readsCondition_108 : decode cX13_readsCondition 108 = .ok (.getfield 179, 3) := by decide +kernel
theorem dX13_readsCondition_111 : decode cX13_readsCondition 111 = .ok (.iconst 1, 1) := by decide +kernel
theorem dX13_readsCondition_112 : decode cX13_readsCondition 112 = .ok (.isub, 1) := by decide +kernel
theorem dX13_readsCondition_113 : decode cX13_readsCondition 113 = .ok (.putfield 179, 3) := by decide +kernel
theorem dX13_readsCondition_116 : decode cX13_readsCondition 116 = .ok (.aload_n 0, 1) := by decide +kernel
theorem dX13_readsCondition_117 : decode cX13_readsCondition 117 = .ok (.aload_n 0, 1) := by decide +kernel
theorem dX13_readsCondition_118 : decode cX13_readsCondition 118 = .ok (.getfield 176, 3) := by decide +kernel
theorem dX13_readsCondition_121 : decode cX13_readsCondition 121 = .ok (.iconst 1, 1) := by decide +kernel
theorem dX13_readsCondition_122 : decode cX13_readsCondition 122 = .ok (.isub, 1) := by decide +kernel
theorem dX13_readsCondition_123 : decode cX13_readsCondition 123 = .ok (.putfield 176, 3) := by decide +kernel
theorem dX13_readsCondition_126 : decode cX13_readsCondition 126 = .ok (.aload_n 0, 1) := by decide +kernel
theorem dX13_readsCondition_127 : decode cX13_readsCondition 127 = .ok (.aload_n 0, 1) := by decide +kernel
theorem dX13_readsCondition_128 : decode cX13_readsCondition 128 = .ok (.getfield 150, 3) := by decide +kernel
theorem dX13_readsCondition_131 : decode cX13_readsCondition 131 = .ok (.iconst 1, 1) := by decide +kernel
theorem dX13_readsCondition_132 : decode cX13_readsCondition 132 = .ok (.iadd, 1) := by decide +kernel
theorem dX13_readsCondition_133 : decode cX13_readsCondition 133 = .ok (.putfield 150, 3) := by decide +kernel
theorem dX13_readsCondition_136 : decode cX13_readsCondition 136 = .ok (.aload_n 0, 1) := by decide +kernel
theorem dX13_readsCondition_137 : decode cX13_readsCondition 137 = .ok (.getfield 179, 3) := by decide +kernel
theorem dX13_readsCondition_140 : decode cX13_readsCondition 140 = .ok (.ifCond .ne 5, 3) := by decide +kernel
theorem dX13_readsCondition_143 : decode cX13_readsCondition 143 = .ok (.iconst 1, 1) := by decide +kernel
theorem dX13_readsCondition_144 : decode cX13_readsCondition 144 = .ok (.ireturn, 1) := by decide +kernel
theorem dX13_readsCondition_145 : decode cX13_readsCondition 145 = .ok (.aload_n 0, 1) := by decide +kernel
theorem dX13_readsCondition_146 : decode cX13_readsCondition 146 = .ok (.invokevirtual 214, 3) := by decide +kernel
theorem dX13_readsCondition_149 : decode cX13_readsCondition 149 = .ok (.goto (-57), 3) := by decide +kernel
theorem dX13_readsCondition_152 : decode cX13_readsCondition 152 = .ok (.aload_n 0, 1) := by decide +kernel
theorem dX13_readsCondition_153 : decode cX13_readsCondition 153 = .ok (.invokevirtual 156, 3) := by decide +kernel
theorem dX13_readsCondition_156 : decode cX13_readsCondition 156 = .ok (.bipush 38, 2) := by decide +kernel
theorem dX13_readsCondition_158 : decode cX13_readsCondition 158 = .ok (.if_icmp .eq 22, 3) := by decide +kernel
theorem dX13_readsCondition_161 : decode cX13_readsCondition 161 = .ok (.aload_n 0, 1) := by decide +kernel
theorem dX13_readsCondition_162 : decode cX13_readsCondition 162 = .ok (.invokevirtual 156, 3) := by decide +kernel
theorem dX13_readsCondition_165 : decode cX13_readsCondition 165 = .ok (.bipush 124, 2) := by decide +kernel
theorem dX13_readsCondition_167 : decode cX13_readsCondition 167 = .ok (.if_icmp .eq 13, 3) := by decide +kernel
theorem dX13_readsCondition_170 : decode cX13_readsCondition 170 = .ok (.aload_n 0, 1) := by decide +kernel
theorem dX13_readsCondition_171 : decode cX13_readsCondition 171 = .ok (.iconst 1, 1) := by decide +kernel
theorem dX13_readsCondition_172 : decode cX13_readsCondition 172 = .ok (.aload_n 0, 1) := by decide +kernel
theorem dX13_readsCondition_173 : decode cX13_readsCondition 173 = .ok (.getfield 150, 3) := by decide +kernel
theorem dX13_readsCondition_176 : decode cX13_readsCondition 176 = .ok (.invokevirtual 162, 3) := by decide +kernel
theorem dX13_readsCondition_179 : decode cX13_readsCondition 179 = .ok (.ireturn, 1) := by decide +kernel
theorem dX13_readsCondition_180 : decode cX13_readsCondition 180 = .ok (.aload_n 0, 1) := by decide +kernel
theorem dX13_readsCondition_181 : decode cX13_readsCondition 181 = .ok (.aload_n 0, 1) := by decide +kernel
theorem dX13_readsCondition_182 : decode cX13_readsCondition 182 = .ok (.invokevirtual 156, 3) := by decide +kernel
theorem dX13_readsCondition_185 : decode cX13_readsCondition 185 = .ok (.bipush 124, 2) := by decide +kernel
theorem dX13_readsCondition_187 : decode cX13_readsCondition 187 = .ok (.if_icmp .ne 7, 3) := by decide +kernel
theorem dX13_readsCondition_190 : decode cX13_readsCondition 190 = .ok (.iconst 1, 1) := by decide +kernel
theorem dX13_readsCondition_191 : decode cX13_readsCondition 191 = .ok (.goto 4, 3) := by decide +kernel
theorem dX13_readsCondition_194 : decode cX13_readsCondition 194 = .ok (.iconst 0, 1) := by decide +kernel
theorem dX13_readsCondition_195 : decode cX13_readsCondition 195 = .ok (.invokevirtual 220, 3) := by decide +kernel
theorem dX13_readsCondition_198 : decode cX13_readsCondition 198 = .ok (.aload_n 0, 1) := by decide +kernel
theorem dX13_readsCondition_199 : decode cX13_readsCondition 199 = .ok (.aload_n 0, 1) := by decide +kernel
theorem dX13_readsCondition_200 : decode cX13_readsCondition 200 = .ok (.invokevirtual 156, 3) := by decide +kernel
theorem dX13_readsCondition_203 : decode cX13_readsCondition 203 = .ok (.bipush 38, 2) := by decide +kernel
theorem dX13_readsCondition_205 : decode cX13_readsCondition 205 = .ok (.if_icmp .ne 8, 3) := by decide +kernel
theorem dX13_readsCondition_208 : decode cX13_readsCondition 208 = .ok (.bipush 11, 2) := by decide +kernel
theorem dX13_readsCondition_210 : decode cX13_readsCondition 210 = .ok (.goto 5, 3) := by decide +kernel
theorem dX13_readsCondition_213 : decode cX13_readsCondition 213 = .ok (.bipush 12, 2) := by decide +kernel
theorem dX13_readsCondition_215 : decode cX13_readsCondition 215 = .ok (.invokevirtual 223, 3) := by decide +kernel
theorem dX13_readsCondition_218 : decode cX13_readsCondition 218 = .ok (.goto (-178), 3) := by decide +kernel
theorem dX13_readsRule_0 : decode cX13_readsRule 0 = .ok (.aload_n 0, 1) := by decide +kernel
theorem dX13_readsRule_1 : decode cX13_readsRule 1 = .ok (.invokevirtual 156, 3) := by decide +kernel
theorem dX13_readsRule_4 : decode cX13_readsRule 4 = .ok (.istore_n 1, 1) := by decide +kernel
theorem dX13_readsRule_5 : decode cX13_readsRule 5 = .ok (.iload_n 1, 1) := by decide +kernel
theorem dX13_readsRule_6 : decode cX13_readsRule 6 = .ok (.bipush 117, 2) := by decide +kernel
theorem dX13_readsRule_8 : decode cX13_readsRule 8 = .ok (.if_icmp .eq 37, 3) := by decide +kernel
theorem dX13_readsRule_11 : decode cX13_readsRule 11 = .ok (.iload_n 1, 1) := by decide +kernel
theorem dX13_readsRule_12 : decode cX13_readsRule 12 = .ok (.bipush 118, 2) := by decide +kernel
theorem dX13_readsRule_14 : decode cX13_readsRule 14 = .ok (.if_icmp .eq 31, 3) := by decide +kernel
theorem dX13_readsRule_17 : decode cX13_readsRule 17 = .ok (.iload_n 1, 1) := by decide +kernel
theorem dX13_readsRule_18 : decode cX13_readsRule 18 = .ok (.bipush 98, 2) := by decide +kernel
theorem dX13_readsRule_20 : decode cX13_readsRule 20 = .ok (.if_icmp .eq 25, 3) := by decide +kernel
theorem dX13_readsRule_23 : decode cX13_readsRule 23 = .ok (.iload_n 1, 1) := by decide +kernel
theorem dX13_readsRule_24 : decode cX13_readsRule 24 = .ok (.bipush 99, 2) := by decide +kernel
theorem dX13_readsRule_26 : decode cX13_readsRule 26 = .ok (.if_icmp .eq 19, 3) := by decide +kernel
theorem dX13_readsRule_29 : decode cX13_readsRule 29 = .ok (.iload_n 1, 1) := by decide +kernel
theorem dX13_readsRule_30 : decode cX13_readsRule 30 = .ok (.bipush 120, 2) := by decide +kernel
theorem dX13_readsRule_32 : decode cX13_readsRule 32 = .ok (.if_icmp .eq 13, 3) := by decide +kernel
theorem dX13_readsRule_35 : decode cX13_readsRule 35 = .ok (.aload_n 0, 1) := by decide +kernel
theorem dX13_readsRule_36 : decode cX13_readsRule 36 = .ok (.iconst 1, 1) := by decide +kernel
theorem dX13_readsRule_37 : decode cX13_readsRule 37 = .ok (.aload_n 0, 1) := by decide +kernel
theorem dX13_readsRule_38 : decode cX13_readsRule 38 = .ok (.getfield 150, 3) := by decide +kernel
theorem dX13_readsRule_41 : decode cX13_readsRule 41 = .ok (.invokevirtual 162, 3) := by decide +kernel
theorem dX13_readsRule_44 : decode cX13_readsRule 44 = .ok (.ireturn, 1) := by decide +kernel
theorem dX13_readsRule_45 : decode cX13_readsRule 45 = .ok (.aload_n 0, 1) := by decide +kernel
theorem dX13_readsRule_46 : decode cX13_readsRule 46 = .ok (.getfield 226, 3) := by decide +kernel
theorem dX13_readsRule_49 : decode cX13_readsRule 49 = .ok (.bipush 16, 2) := by decide +kernel
theorem dX13_readsRule_51 : decode cX13_readsRule 51 = .ok (.if_icmp .ne 13, 3) := by decide +kernel
theorem dX13_readsRule_54 : decode cX13_readsRule 54 = .ok (.aload_n 0, 1) := by decide +kernel
theorem dX13_readsRule_55 : decode cX13_readsRule 55 = .ok (.iconst 4, 1) := by decide +kernel
theorem dX13_readsRule_56 : decode cX13_readsRule 56 = .ok (.aload_n 0, 1) := by decide +kernel
theorem dX13_readsRule_57 : decode cX13_readsRule 57 = .ok (.getfield 150, 3) := by decide +kernel
theorem dX13_readsRule_60 : decode cX13_readsRule 60 = .ok (.invokevirtual 162, 3) := by decide +kernel
theorem dX13_readsRule_63 : decode cX13_readsRule 63 = .ok (.ireturn, 1) := by decide +kernel
theorem dX13_readsRule_64 : decode cX13_readsRule 64 = .ok (.aload_n 0, 1) := by decide +kernel
theorem dX13_readsRule_65 : decode cX13_readsRule 65 = .ok (.getfield 44, 3) := by decide +kernel
theorem dX13_readsRule_68 : decode cX13_readsRule 68 = .ok (.aload_n 0, 1) := by decide +kernel
theorem dX13_readsRule_69 : decode cX13_readsRule 69 = .ok (.getfield 226, 3) := by decide +kernel
theorem dX13_readsRule_72 : decode cX13_readsRule 72 = .ok (.iload_n 1, 1) := by decide +kernel
theorem dX13_readsRule_73 : decode cX13_readsRule 73 = .ok (.iastore, 1) := by decide +kernel
theorem dX13_readsRule_74 : decode cX13_readsRule 74 = .ok (.aload_n 0, 1) := by decide +kernel
theorem dX13_readsRule_75 : decode cX13_readsRule 75 = .ok (.aload_n 0, 1) := by decide +kernel
theorem dX13_readsRule_76 : decode cX13_readsRule 76 = .ok (.getfield 150, 3) := by decide +kernel
theorem dX13_readsRule_79 : decode cX13_readsRule 79 = .ok (.iconst 1, 1) := by decide +kernel
theorem dX13_readsRule_80 : decode cX13_readsRule 80 = .ok (.iadd, 1) := by decide +kernel
theorem dX13_readsRule_81 : decode cX13_readsRule 81 = .ok (.putfield 150, 3) := by decide +kernel
theorem dX13_readsRule_84 : decode cX13_readsRule 84 = .ok (.aload_n 0, 1) := by decide +kernel
theorem dX13_readsRule_85 : decode cX13_readsRule 85 = .ok (.getfield 47, 3) := by decide +kernel
theorem dX13_readsRule_88 : decode cX13_readsRule 88 = .ok (.aload_n 0, 1) := by decide +kernel
theorem dX13_readsRule_89 : decode cX13_readsRule 89 = .ok (.getfield 226, 3) := by decide +kernel
theorem dX13_readsRule_92 : decode cX13_readsRule 92 = .ok (.aload_n 0, 1) := by decide +kernel
theorem dX13_readsRule_93 : decode cX13_readsRule 93 = .ok (.getfield 172, 3) := by decide +kernel
theorem dX13_readsRule_96 : decode cX13_readsRule 96 = .ok (.iastore, 1) := by decide +kernel
theorem dX13_readsRule_97 : decode cX13_readsRule 97 = .ok (.aload_n 0, 1) := by decide +kernel
theorem dX13_readsRule_98 : decode cX13_readsRule 98 = .ok (.iconst 0, 1) := by decide +kernel
theorem dX13_readsRule_99 : decode cX13_readsRule 99 = .ok (.putfield 176, 3) := by decide +kernel
theorem dX13_readsRule_102 : decode cX13_readsRule 102 = .ok (.aload_n 0, 1) := by decide +kernel
theorem dX13_readsRule_103 : decode cX13_readsRule 103 = .ok (.iconst 0, 1) := by decide +kernel
theorem dX13_readsRule_104 : decode cX13_readsRule 104 = .ok (.putfield 179, 3) := by decide +kernel
theorem dX13_readsRule_107 : decode cX13_readsRule 107 = .ok (.iload_n 1, 1) := by decide +kernel
theorem dX13_readsRule_108 : decode cX13_readsRule 108 = .ok (.bipush 120, 2) := by decide +kernel
theorem dX13_readsRule_110 : decode cX13_readsRule 110 = .ok (.if_icmp .eq 12, 3) := by decide +kernel
theorem dX13_readsRule_113 : decode cX13_readsRule 113 = .ok (.aload_n 0, 1) := by decide +kernel
theorem dX13_readsRule_114 : decode cX13_readsRule 114 = .ok (.invokevirtual 211, 3) := by decide +kernel
theorem dX13_readsRule_117 : decode cX13_readsRule 117 = .ok (.ifCond .ne 5, 3) := by decide +kernel
theorem dX13_readsRule_120 : decode cX13_readsRule 120 = .ok (.iconst 0, 1) := by decide +kernel
theorem dX13_readsRule_121 : decode cX13_readsRule 121 = .ok (.ireturn, 1) := by decide +kernel
theorem dX13_readsRule_122 : decode cX13_readsRule 122 = .ok (.aload_n 0, 1) := by decide +kernel
theorem dX13_readsRule_123 : decode cX13_readsRule 123 = .ok (.getfield 50, 3) := by decide +kernel
theorem dX13_readsRule_126 : decode cX13_readsRule 126 = .ok (.aload_n 0, 1) := by decide +kernel
theorem dX13_readsRule_127 : decode cX13_readsRule 127 = .ok (.getfield 226, 3) := by decide +kernel
theorem dX13_readsRule_130 : decode cX13_readsRule 130 = .ok (.aload_n 0, 1) := by decide +kernel
theorem dX13_readsRule_131 : decode cX13_readsRule 131 = .ok (.getfield 172, 3) := by decide +kernel
theorem dX13_readsRule_134 : decode cX13_readsRule 134 = .ok (.iastore, 1) := by decide +kernel
theorem dX13_readsRule_135 : decode cX13_readsRule 135 = .ok (.aload_n 0, 1) := by decide +kernel
theorem dX13_readsRule_136 : decode cX13_readsRule 136 = .ok (.invokevirtual 229, 3) := by decide +kernel
theorem dX13_readsRule_139 : decode cX13_readsRule 139 = .ok (.ifCond .ne 5, 3) := by decide +kernel
theorem dX13_readsRule_142 : decode cX13_readsRule 142 = .ok (.iconst 0, 1) := by decide +kernel
theorem dX13_readsRule_143 : decode cX13_readsRule 143 = .ok (.ireturn, 1) := by decide +kernel
theorem dX13_readsRule_144 : decode cX13_readsRule 144 = .ok (.aload_n 0, 1) := by decide +kernel
theorem dX13_readsRule_145 : decode cX13_readsRule 145 = .ok (.getfield 53, 3) := by decide +kernel
theorem dX13_readsRule_148 : decode cX13_readsRule 148 = .ok (.aload_n 0, 1) := by decide +kernel
theorem dX13_readsRule_149 : decode cX13_readsRule 149 = .ok (.getfield 226, 3) := by decide +kernel
theorem dX13_readsRule_152 : decode cX13_readsRule 152 = .ok (.aload_n 0, 1) := by decide +kernel
theorem dX13_readsRule_153 : decode cX13_readsRule 153 = .ok (.getfield 172, 3) := by decide +kernel
theorem dX13_readsRule_156 : decode cX13_readsRule 156 = .ok (.iastore, 1) := by decide +kernel
theorem dX13_readsRule_157 : decode cX13_readsRule 157 = .ok (.aload_n 0, 1) := by decide +kernel
theorem dX13_readsRule_158 : decode cX13_readsRule 158 = .ok (.aload_n 0, 1) := by decide +kernel
theorem dX13_readsRule_159 : decode cX13_readsRule 159 = .ok (.getfield 226, 3) := by decide +kernel
theorem dX13_readsRule_162 : decode cX13_readsRule 162 = .ok (.iconst 1, 1) := by decide +kernel
theorem dX13_readsRule_163 : decode cX13_readsRule 163 = .ok (.iadd, 1) := by decide +kernel
theorem dX13_readsRule_164 : decode cX13_readsRule 164 = .ok (.putfield 226, 3) := by decide +kernel
theorem dX13_readsRule_167 : decode cX13_readsRule 167 = .ok (.iconst 1, 1) := by decide +kernel
theorem dX13_readsRule_168 : decode cX13_readsRule 168 = .ok (.ireturn, 1) := by decide +kernel
theorem dX13_beginsText_0 : decode cX13_beginsText 0 = .ok (.aload_n 0, 1) := by decide +kernel
theorem dX13_beginsText_1 : decode cX13_beginsText 1 = .ok (.iconst 0, 1) := by decide +kernel
theorem dX13_beginsText_2 : decode cX13_beginsText 2 = .ok (.putfield 150, 3) := by decide +kernel
theorem dX13_beginsText_5 : decode cX13_beginsText 5 = .ok (.aload_n 0, 1) := by decide +kernel
theorem dX13_beginsText_6 : decode cX13_beginsText 6 = .ok (.iload_n 1, 1) := by decide +kernel
theorem dX13_beginsText_7 : decode cX13_beginsText 7 = .ok (.putfield 153, 3) := by decide +kernel
theorem dX13_beginsText_10 : decode cX13_beginsText 10 = .ok (.aload_n 0, 1) := by decide +kernel
theorem dX13_beginsText_11 : decode cX13_beginsText 11 = .ok (.iconst 0, 1) := by decide +kernel
theorem dX13_beginsText_12 : decode cX13_beginsText 12 = .ok (.putfield 172, 3) := by decide +kernel
theorem dX13_beginsText_15 : decode cX13_beginsText 15 = .ok (.aload_n 0, 1) := by decide +kernel
theorem dX13_beginsText_16 : decode cX13_beginsText 16 = .ok (.iconst 0, 1) := by decide +kernel
theorem dX13_beginsText_17 : decode cX13_beginsText 17 = .ok (.putfield 226, 3) := by decide +kernel
theorem dX13_beginsText_20 : decode cX13_beginsText 20 = .ok (.return_, 1) := by decide +kernel
theorem dX13_law_0 : decode cX13_law 0 = .ok (.iload_n 1, 1) := by decide +kernel
theorem dX13_law_1 : decode cX13_law 1 = .ok (.iconst 1, 1) := by decide +kernel
theorem dX13_law_2 : decode cX13_law 2 = .ok (.sipush 240, 3) := by decide +kernel
theorem dX13_law_5 : decode cX13_law 5 = .ok (.invokestatic 114, 3) := by decide +kernel
theorem dX13_law_8 : decode cX13_law 8 = .ok (.ifCond .eq 11, 3) := by decide +kernel
theorem dX13_law_11 : decode cX13_law 11 = .ok (.iload_n 1, 1) := by decide +kernel
theorem dX13_law_12 : decode cX13_law 12 = .ok (.aload_n 0, 1) := by decide +kernel
theorem dX13_law_13 : decode cX13_law 13 = .ok (.getfield 144, 3) := by decide +kernel
theorem dX13_law_16 : decode cX13_law 16 = .ok (.if_icmp .le 5, 3) := by decide +kernel
theorem dX13_law_19 : decode cX13_law 19 = .ok (.iconst (-1), 1) := by decide +kernel
theorem dX13_law_20 : decode cX13_law 20 = .ok (.ireturn, 1) := by decide +kernel
theorem dX13_law_21 : decode cX13_law 21 = .ok (.aload_n 0, 1) := by decide +kernel
theorem dX13_law_22 : decode cX13_law 22 = .ok (.iload_n 1, 1) := by decide +kernel
theorem dX13_law_23 : decode cX13_law 23 = .ok (.invokevirtual 232, 3) := by decide +kernel
theorem dX13_law_26 : decode cX13_law 26 = .ok (.aload_n 0, 1) := by decide +kernel
theorem dX13_law_27 : decode cX13_law 27 = .ok (.invokevirtual 235, 3) := by decide +kernel
theorem dX13_law_30 : decode cX13_law 30 = .ok (.istore_n 2, 1) := by decide +kernel
theorem dX13_law_31 : decode cX13_law 31 = .ok (.iload_n 2, 1) := by decide +kernel
theorem dX13_law_32 : decode cX13_law 32 = .ok (.ifCond .eq 39, 3) := by decide +kernel
theorem dX13_law_35 : decode cX13_law 35 = .ok (.aload_n 0, 1) := by decide +kernel
theorem dX13_law_36 : decode cX13_law 36 = .ok (.getfield 150, 3) := by decide +kernel
theorem dX13_law_39 : decode cX13_law 39 = .ok (.aload_n 0, 1) := by decide +kernel
theorem dX13_law_40 : decode cX13_law 40 = .ok (.getfield 153, 3) := by decide +kernel
theorem dX13_law_43 : decode cX13_law 43 = .ok (.if_icmp .ge 28, 3) := by decide +kernel
theorem dX13_law_46 : decode cX13_law 46 = .ok (.aload_n 0, 1) := by decide +kernel
theorem dX13_law_47 : decode cX13_law 47 = .ok (.bipush 59, 2) := by decide +kernel
theorem dX13_law_49 : decode cX13_law 49 = .ok (.invokevirtual 238, 3) := by decide +kernel
theorem dX13_law_52 : decode cX13_law 52 = .ok (.ifCond .eq 14, 3) := by decide +kernel
theorem dX13_law_55 : decode cX13_law 55 = .ok (.aload_n 0, 1) := by decide +kernel
theorem dX13_law_56 : decode cX13_law 56 = .ok (.invokevirtual 235, 3) := by decide +kernel
theorem dX13_law_59 : decode cX13_law 59 = .ok (.ifCond .eq 7, 3) := by decide +kernel
theorem dX13_law_62 : decode cX13_law 62 = .ok (.iconst 1, 1) := by decide +kernel
theorem dX13_law_63 : decode cX13_law 63 = .ok (.goto 4, 3) := by decide +kernel
theorem dX13_law_66 : decode cX13_law 66 = .ok (.iconst 0, 1) := by decide +kernel
theorem dX13_law_67 : decode cX13_law 67 = .ok (.istore_n 2, 1) := by decide +kernel
theorem dX13_law_68 : decode cX13_law 68 = .ok (.goto (-37), 3) := by decide +kernel
theorem dX13_law_71 : decode cX13_law 71 = .ok (.aload_n 0, 1) := by decide +kernel
theorem dX13_law_72 : decode cX13_law 72 = .ok (.iconst 0, 1) := by decide +kernel
theorem dX13_law_73 : decode cX13_law 73 = .ok (.putfield 144, 3) := by decide +kernel
theorem dX13_law_76 : decode cX13_law 76 = .ok (.iload_n 2, 1) := by decide +kernel
theorem dX13_law_77 : decode cX13_law 77 = .ok (.ifCond .ne 8, 3) := by decide +kernel
theorem dX13_law_80 : decode cX13_law 80 = .ok (.aload_n 0, 1) := by decide +kernel
theorem dX13_law_81 : decode cX13_law 81 = .ok (.getfield 159, 3) := by decide +kernel
theorem dX13_law_84 : decode cX13_law 84 = .ok (.ireturn, 1) := by decide +kernel
theorem dX13_law_85 : decode cX13_law 85 = .ok (.aload_n 0, 1) := by decide +kernel
theorem dX13_law_86 : decode cX13_law 86 = .ok (.aload_n 0, 1) := by decide +kernel
theorem dX13_law_87 : decode cX13_law 87 = .ok (.getfield 226, 3) := by decide +kernel
theorem dX13_law_90 : decode cX13_law 90 = .ok (.putfield 241, 3) := by decide +kernel
theorem dX13_law_93 : decode cX13_law 93 = .ok (.iconst 0, 1) := by decide +kernel
theorem dX13_law_94 : decode cX13_law 94 = .ok (.istore_n 3, 1) := by decide +kernel
theorem dX13_law_95 : decode cX13_law 95 = .ok (.iload_n 3, 1) := by decide +kernel
theorem dX13_law_96 : decode cX13_law 96 = .ok (.aload_n 0, 1) := by decide +kernel
theorem dX13_law_97 : decode cX13_law 97 = .ok (.getfield 172, 3) := by decide +kernel
theorem dX13_law_100 : decode cX13_law 100 = .ok (.if_icmp .ge 21, 3) := by decide +kernel
theorem dX13_law_103 : decode cX13_law 103 = .ok (.aload_n 0, 1) := by decide +kernel
theorem dX13_law_104 : decode cX13_law 104 = .ok (.getfield 56, 3) := by decide +kernel
theorem dX13_law_107 : decode cX13_law 107 = .ok (.iload_n 3, 1) := by decide +kernel
theorem dX13_law_108 : decode cX13_law 108 = .ok (.aload_n 0, 1) := by decide +kernel
theorem dX13_law_109 : decode cX13_law 109 = .ok (.getfield 38, 3) := by decide +kernel
theorem dX13_law_112 : decode cX13_law 112 = .ok (.iload_n 3, 1) := by decide +kernel
theorem dX13_law_113 : decode cX13_law 113 = .ok (.iaload, 1) := by decide +kernel
theorem dX13_law_114 : decode cX13_law 114 = .ok (.iastore, 1) := by decide +kernel
theorem dX13_law_115 : decode cX13_law 115 = .ok (.iinc 3 1, 3) := by decide +kernel
theorem dX13_law_118 : decode cX13_law 118 = .ok (.goto (-23), 3) := by decide +kernel
theorem dX13_law_121 : decode cX13_law 121 = .ok (.iconst 0, 1) := by decide +kernel
theorem dX13_law_122 : decode cX13_law 122 = .ok (.istore_n 3, 1) := by decide +kernel
theorem dX13_law_123 : decode cX13_law 123 = .ok (.iload_n 3, 1) := by decide +kernel
theorem dX13_law_124 : decode cX13_law 124 = .ok (.aload_n 0, 1) := by decide +kernel
theorem dX13_law_125 : decode cX13_law 125 = .ok (.getfield 226, 3) := by decide +kernel
theorem dX13_law_128 : decode cX13_law 128 = .ok (.if_icmp .ge 57, 3) := by decide +kernel
theorem dX13_law_131 : decode cX13_law 131 = .ok (.aload_n 0, 1) := by decide +kernel
theorem dX13_law_132 : decode cX13_law 132 = .ok (.getfield 59, 3) := by decide +kernel
theorem dX13_law_135 : decode cX13_law 135 = .ok (.iload_n 3, 1) := by decide +kernel
theorem dX13_law_136 : decode cX13_law 136 = .ok (.aload_n 0, 1) := by decide +kernel
theorem dX13_law_137 : decode cX13_law 137 = .ok (.getfield 44, 3) := by decide +kernel
theorem dX13_law_140 : decode cX13_law 140 = .ok (.iload_n 3, 1) := by decide +kernel
theorem dX13_law_141 : decode cX13_law 141 = .ok (.iaload, 1) := by decide +kernel
theorem dX13_law_142 : decode cX13_law 142 = .ok (.iastore, 1) := by decide +kernel
theorem dX13_law_143 : decode cX13_law 143 = .ok (.aload_n 0, 1) := by decide +kernel
theorem dX13_law_144 : decode cX13_law 144 = .ok (.getfield 62, 3) := by decide +kernel
theorem dX13_law_147 : decode cX13_law 147 = .ok (.iload_n 3, 1) := by decide +kernel
theorem dX13_law_148 : decode cX13_law 148 = .ok (.aload_n 0, 1) := by decide +kernel
theorem dX13_law_149 : decode cX13_law 149 = .ok (.getfield 47, 3) := by decide +kernel
theorem dX13_law_152 : decode cX13_law 152 = .ok (.iload_n 3, 1) := by decide +kernel
theorem dX13_law_153 : decode cX13_law 153 = .ok (.iaload, 1) := by decide +kernel
theorem dX13_law_154 : decode cX13_law 154 = .ok (.iastore, 1) := by decide +kernel
theorem dX13_law_155 : decode cX13_law 155 = .ok (.aload_n 0, 1) := by decide +kernel
theorem dX13_law_156 : decode cX13_law 156 = .ok (.getfield 65, 3) := by decide +kernel
theorem dX13_law_159 : decode cX13_law 159 = .ok (.iload_n 3, 1) := by decide +kernel
theorem dX13_law_160 : decode cX13_law 160 = .ok (.aload_n 0, 1) := by decide +kernel
theorem dX13_law_161 : decode cX13_law 161 = .ok (.getfield 50, 3) := by decide +kernel
theorem dX13_law_164 : decode cX13_law 164 = .ok (.iload_n 3, 1) := by decide +kernel
theorem dX13_law_165 : decode cX13_law 165 = .ok (.iaload, 1) := by decide +kernel
theorem dX13_law_166 : decode cX13_law 166 = .ok (.iastore, 1) := by decide +kernel
theorem dX13_law_167 : decode cX13_law 167 = .ok (.aload_n 0, 1) := by decide +kernel
theorem dX13_law_168 : decode cX13_law 168 = .ok (.getfield 68, 3) := by decide +kernel
theorem dX13_law_171 : decode cX13_law 171 = .ok (.iload_n 3, 1) := by decide +kernel
theorem dX13_law_172 : decode cX13_law 172 = .ok (.aload_n 0, 1) := by decide +kernel
theorem dX13_law_173 : decode cX13_law 173 = .ok (.getfield 53, 3) := by decide +kernel
theorem dX13_law_176 : decode cX13_law 176 = .ok (.iload_n 3, 1) := by decide +kernel
theorem dX13_law_177 : decode cX13_law 177 = .ok (.iaload, 1) := by decide +kernel
theorem dX13_law_178 : decode cX13_law 178 = .ok (.iastore, 1) := by decide +kernel
theorem dX13_law_179 : decode cX13_law 179 = .ok (.iinc 3 1, 3) := by decide +kernel
theorem dX13_law_182 : decode cX13_law 182 = .ok (.goto (-59), 3) := by decide +kernel
theorem dX13_law_185 : decode cX13_law 185 = .ok (.aload_n 0, 1) := by decide +kernel
theorem dX13_law_186 : decode cX13_law 186 = .ok (.getfield 226, 3) := by decide +kernel
theorem dX13_law_189 : decode cX13_law 189 = .ok (.ireturn, 1) := by decide +kernel
theorem dX13_reckon_0 : decode cX13_reckon 0 = .ok (.iload_n 0, 1) := by decide +kernel
theorem dX13_reckon_1 : decode cX13_reckon 1 = .ok (.tableswitch 85 2 8 #[43, 47, 51, 55, 59, 63, 74], 43) := by decide +kernel
theorem dX13_reckon_44 : decode cX13_reckon 44 = .ok (.iload_n 1, 1) := by decide +kernel
theorem dX13_reckon_45 : decode cX13_reckon 45 = .ok (.iload_n 2, 1) := by decide +kernel
theorem dX13_reckon_46 : decode cX13_reckon 46 = .ok (.iadd, 1) := by decide +kernel
theorem dX13_reckon_47 : decode cX13_reckon 47 = .ok (.ireturn, 1) := by decide +kernel
theorem dX13_reckon_48 : decode cX13_reckon 48 = .ok (.iload_n 1, 1) := by decide +kernel
theorem dX13_reckon_49 : decode cX13_reckon 49 = .ok (.iload_n 2, 1) := by decide +kernel
theorem dX13_reckon_50 : decode cX13_reckon 50 = .ok (.isub, 1) := by decide +kernel
theorem dX13_reckon_51 : decode cX13_reckon 51 = .ok (.ireturn, 1) := by decide +kernel
theorem dX13_reckon_52 : decode cX13_reckon 52 = .ok (.iload_n 1, 1) := by decide +kernel
theorem dX13_reckon_53 : decode cX13_reckon 53 = .ok (.iload_n 2, 1) := by decide +kernel
theorem dX13_reckon_54 : decode cX13_reckon 54 = .ok (.imul, 1) := by decide +kernel
theorem dX13_reckon_55 : decode cX13_reckon 55 = .ok (.ireturn, 1) := by decide +kernel
theorem dX13_reckon_56 : decode cX13_reckon 56 = .ok (.iload_n 1, 1) := by decide +kernel
theorem dX13_reckon_57 : decode cX13_reckon 57 = .ok (.iload_n 2, 1) := by decide +kernel
theorem dX13_reckon_58 : decode cX13_reckon 58 = .ok (.idiv, 1) := by decide +kernel
theorem dX13_reckon_59 : decode cX13_reckon 59 = .ok (.ireturn, 1) := by decide +kernel
theorem dX13_reckon_60 : decode cX13_reckon 60 = .ok (.iload_n 1, 1) := by decide +kernel
theorem dX13_reckon_61 : decode cX13_reckon 61 = .ok (.iload_n 2, 1) := by decide +kernel
theorem dX13_reckon_62 : decode cX13_reckon 62 = .ok (.irem, 1) := by decide +kernel
theorem dX13_reckon_63 : decode cX13_reckon 63 = .ok (.ireturn, 1) := by decide +kernel
theorem dX13_reckon_64 : decode cX13_reckon 64 = .ok (.iload_n 1, 1) := by decide +kernel
theorem dX13_reckon_65 : decode cX13_reckon 65 = .ok (.iload_n 2, 1) := by decide +kernel
theorem dX13_reckon_66 : decode cX13_reckon 66 = .ok (.if_icmp .ge 7, 3) := by decide +kernel
theorem dX13_reckon_69 : decode cX13_reckon 69 = .ok (.iconst 1, 1) := by decide +kernel
theorem dX13_reckon_70 : decode cX13_reckon 70 = .ok (.goto 4, 3) := by decide +kernel
theorem dX13_reckon_73 : decode cX13_reckon 73 = .ok (.iconst 0, 1) := by decide +kernel
theorem dX13_reckon_74 : decode cX13_reckon 74 = .ok (.ireturn, 1) := by decide +kernel
theorem dX13_reckon_75 : decode cX13_reckon 75 = .ok (.iload_n 1, 1) := by decide +kernel
theorem dX13_reckon_76 : decode cX13_reckon 76 = .ok (.iload_n 2, 1) := by decide +kernel
theorem dX13_reckon_77 : decode cX13_reckon 77 = .ok (.if_icmp .le 7, 3) := by decide +kernel
theorem dX13_reckon_80 : decode cX13_reckon 80 = .ok (.iconst 1, 1) := by decide +kernel
theorem dX13_reckon_81 : decode cX13_reckon 81 = .ok (.goto 4, 3) := by decide +kernel
theorem dX13_reckon_84 : decode cX13_reckon 84 = .ok (.iconst 0, 1) := by decide +kernel
theorem dX13_reckon_85 : decode cX13_reckon 85 = .ok (.ireturn, 1) := by decide +kernel
theorem dX13_reckon_86 : decode cX13_reckon 86 = .ok (.iload_n 1, 1) := by decide +kernel
theorem dX13_reckon_87 : decode cX13_reckon 87 = .ok (.iload_n 2, 1) := by decide +kernel
theorem dX13_reckon_88 : decode cX13_reckon 88 = .ok (.if_icmp .ne 7, 3) := by decide +kernel
theorem dX13_reckon_91 : decode cX13_reckon 91 = .ok (.iconst 1, 1) := by decide +kernel
theorem dX13_reckon_92 : decode cX13_reckon 92 = .ok (.goto 4, 3) := by decide +kernel
theorem dX13_reckon_95 : decode cX13_reckon 95 = .ok (.iconst 0, 1) := by decide +kernel
theorem dX13_reckon_96 : decode cX13_reckon 96 = .ok (.ireturn, 1) := by decide +kernel
theorem dX13_comesTo_0 : decode cX13_comesTo 0 = .ok (.iconst 0, 1) := by decide +kernel
theorem dX13_comesTo_1 : decode cX13_comesTo 1 = .ok (.istore_n 3, 1) := by decide +kernel
theorem dX13_comesTo_2 : decode cX13_comesTo 2 = .ok (.sipush 260, 3) := by decide +kernel
theorem dX13_comesTo_5 : decode cX13_comesTo 5 = .ok (.iload_n 1, 1) := by decide +kernel
theorem dX13_comesTo_6 : decode cX13_comesTo 6 = .ok (.sipush 260, 3) := by decide +kernel
theorem dX13_comesTo_9 : decode cX13_comesTo 9 = .ok (.idiv, 1) := by decide +kernel
theorem dX13_comesTo_10 : decode cX13_comesTo 10 = .ok (.imul, 1) := by decide +kernel
theorem dX13_comesTo_11 : decode cX13_comesTo 11 = .ok (.istore 4, 2) := by decide +kernel
theorem dX13_comesTo_13 : decode cX13_comesTo 13 = .ok (.iload_n 1, 1) := by decide +kernel
theorem dX13_comesTo_14 : decode cX13_comesTo 14 = .ok (.istore 5, 2) := by decide +kernel
theorem dX13_comesTo_16 : decode cX13_comesTo 16 = .ok (.iload 5, 2) := by decide +kernel
theorem dX13_comesTo_18 : decode cX13_comesTo 18 = .ok (.iload_n 2, 1) := by decide +kernel
theorem dX13_comesTo_19 : decode cX13_comesTo 19 = .ok (.if_icmp .ge 214, 3) := by decide +kernel
theorem dX13_comesTo_22 : decode cX13_comesTo 22 = .ok (.aload_n 0, 1) := by decide +kernel
theorem dX13_comesTo_23 : decode cX13_comesTo 23 = .ok (.getfield 56, 3) := by decide +kernel
theorem dX13_comesTo_26 : decode cX13_comesTo 26 = .ok (.iload 5, 2) := by decide +kernel
theorem dX13_comesTo_28 : decode cX13_comesTo 28 = .ok (.iaload, 1) := by decide +kernel
theorem dX13_comesTo_29 : decode cX13_comesTo 29 = .ok (.ldc 175, 2) := by decide +kernel
theorem dX13_comesTo_31 : decode cX13_comesTo 31 = .ok (.idiv, 1) := by decide +kernel
theorem dX13_comesTo_32 : decode cX13_comesTo 32 = .ok (.istore 6, 2) := by decide +kernel
theorem dX13_comesTo_34 : decode cX13_comesTo 34 = .ok (.aload_n 0, 1) := by decide +kernel
theorem dX13_comesTo_35 : decode cX13_comesTo 35 = .ok (.getfield 56, 3) := by decide +kernel
theorem dX13_comesTo_38 : decode cX13_comesTo 38 = .ok (.iload 5, 2) := by decide +kernel
theorem dX13_comesTo_40 : decode cX13_comesTo 40 = .ok (.iaload, 1) := by decide +kernel
theorem dX13_comesTo_41 : decode cX13_comesTo 41 = .ok (.ldc 175, 2) := by decide +kernel
theorem dX13_comesTo_43 : decode cX13_comesTo 43 = .ok (.irem, 1) := by decide +kernel
theorem dX13_comesTo_44 : decode cX13_comesTo 44 = .ok (.istore 7, 2) := by decide +kernel
theorem dX13_comesTo_46 : decode cX13_comesTo 46 = .ok (.iload 5, 2) := by decide +kernel
theorem dX13_comesTo_48 : decode cX13_comesTo 48 = .ok (.iconst 1, 1) := by decide +kernel
theorem dX13_comesTo_49 : decode cX13_comesTo 49 = .ok (.iadd, 1) := by decide +kernel
theorem dX13_comesTo_50 : decode cX13_comesTo 50 = .ok (.istore 5, 2) := by decide +kernel
theorem dX13_comesTo_52 : decode cX13_comesTo 52 = .ok (.iload 6, 2) := by decide +kernel
theorem dX13_comesTo_54 : decode cX13_comesTo 54 = .ok (.ifCond .eq 9, 3) := by decide +kernel
theorem dX13_comesTo_57 : decode cX13_comesTo 57 = .ok (.iload 6, 2) := by decide +kernel
theorem dX13_comesTo_59 : decode cX13_comesTo 59 = .ok (.iconst 1, 1) := by decide +kernel
theorem dX13_comesTo_60 : decode cX13_comesTo 60 = .ok (.if_icmp .ne 33, 3) := by decide +kernel
theorem dX13_comesTo_63 : decode cX13_comesTo 63 = .ok (.aload_n 0, 1) := by decide +kernel
theorem dX13_comesTo_64 : decode cX13_comesTo 64 = .ok (.getfield 71, 3) := by decide +kernel
theorem dX13_comesTo_67 : decode cX13_comesTo 67 = .ok (.iload_n 3, 1) := by decide +kernel
theorem dX13_comesTo_68 : decode cX13_comesTo 68 = .ok (.iload 6, 2) := by decide +kernel
theorem dX13_comesTo_70 : decode cX13_comesTo 70 = .ok (.ifCond .ne 8, 3) := by decide +kernel
theorem dX13_comesTo_73 : decode cX13_comesTo 73 = .ok (.iload 7, 2) := by decide +kernel
theorem dX13_comesTo_75 : decode cX13_comesTo 75 = .ok (.goto 10, 3) := by decide +kernel
theorem dX13_comesTo_78 : decode cX13_comesTo 78 = .ok (.aload_n 0, 1) := by decide +kernel
theorem dX13_comesTo_79 : decode cX13_comesTo 79 = .ok (.getfield 74, 3) := by decide +kernel
theorem dX13_comesTo_82 : decode cX13_comesTo 82 = .ok (.iload 7, 2) := by decide +kernel
theorem dX13_comesTo_84 : decode cX13_comesTo 84 = .ok (.iaload, 1) := by decide +kernel
theorem dX13_comesTo_85 : decode cX13_comesTo 85 = .ok (.iastore, 1) := by decide +kernel
theorem dX13_comesTo_86 : decode cX13_comesTo 86 = .ok (.iload_n 3, 1) := by decide +kernel
theorem dX13_comesTo_87 : decode cX13_comesTo 87 = .ok (.iconst 1, 1) := by decide +kernel
theorem dX13_comesTo_88 : decode cX13_comesTo 88 = .ok (.iadd, 1) := by decide +kernel
theorem dX13_comesTo_89 : decode cX13_comesTo 89 = .ok (.istore_n 3, 1) := by decide +kernel
theorem dX13_comesTo_90 : decode cX13_comesTo 90 = .ok (.goto 140, 3) := by decide +kernel
theorem dX13_comesTo_93 : decode cX13_comesTo 93 = .ok (.iload 6, 2) := by decide +kernel
theorem dX13_comesTo_95 : decode cX13_comesTo 95 = .ok (.bipush 10, 2) := by decide +kernel
theorem dX13_comesTo_97 : decode cX13_comesTo 97 = .ok (.if_icmp .ne 24, 3) := by decide +kernel
theorem dX13_comesTo_100 : decode cX13_comesTo 100 = .ok (.aload_n 0, 1) := by decide +kernel
theorem dX13_comesTo_101 : decode cX13_comesTo 101 = .ok (.getfield 71, 3) := by decide +kernel
theorem dX13_comesTo_104 : decode cX13_comesTo 104 = .ok (.iload_n 3, 1) := by decide +kernel
theorem dX13_comesTo_105 : decode cX13_comesTo 105 = .ok (.iconst 1, 1) := by decide +kernel
theorem dX13_comesTo_106 : decode cX13_comesTo 106 = .ok (.isub, 1) := by decide +kernel
theorem dX13_comesTo_107 : decode cX13_comesTo 107 = .ok (.iconst 1, 1) := by decide +kernel
theorem dX13_comesTo_108 : decode cX13_comesTo 108 = .ok (.aload_n 0, 1) := by decide +kernel
theorem dX13_comesTo_109 : decode cX13_comesTo 109 = .ok (.getfield 71, 3) := by decide +kernel
theorem dX13_comesTo_112 : decode cX13_comesTo 112 = .ok (.iload_n 3, 1) := by decide +kernel
theorem dX13_comesTo_113 : decode cX13_comesTo 113 = .ok (.iconst 1, 1) := by decide +kernel
theorem dX13_comesTo_114 : decode cX13_comesTo 114 = .ok (.isub, 1) := by decide +kernel
theorem dX13_comesTo_115 : decode cX13_comesTo 115 = .ok (.iaload, 1) := by decide +kernel
theorem dX13_comesTo_116 : decode cX13_comesTo 116 = .ok (.isub, 1) := by decide +kernel
theorem dX13_comesTo_117 : decode cX13_comesTo 117 = .ok (.iastore, 1) := by decide +kernel
theorem dX13_comesTo_118 : decode cX13_comesTo 118 = .ok (.goto 112, 3) := by decide +kernel
theorem dX13_comesTo_121 : decode cX13_comesTo 121 = .ok (.iload 6, 2) := by decide +kernel
theorem dX13_comesTo_123 : decode cX13_comesTo 123 = .ok (.bipush 11, 2) := by decide +kernel
theorem dX13_comesTo_125 : decode cX13_comesTo 125 = .ok (.if_icmp .eq 10, 3) := by decide +kernel
theorem dX13_comesTo_128 : decode cX13_comesTo 128 = .ok (.iload 6, 2) := by decide +kernel
theorem dX13_comesTo_130 : decode cX13_comesTo 130 = .ok (.bipush 12, 2) := by decide +kernel
theorem dX13_comesTo_132 : decode cX13_comesTo 132 = .ok (.if_icmp .ne 43, 3) := by decide +kernel
theorem dX13_comesTo_135 : decode cX13_comesTo 135 = .ok (.aload_n 0, 1) := by decide +kernel
theorem dX13_comesTo_136 : decode cX13_comesTo 136 = .ok (.getfield 71, 3) := by decide +kernel
theorem dX13_comesTo_139 : decode cX13_comesTo 139 = .ok (.iload_n 3, 1) := by decide +kernel
theorem dX13_comesTo_140 : decode cX13_comesTo 140 = .ok (.iconst 1, 1) := by decide +kernel
theorem dX13_comesTo_141 : decode cX13_comesTo 141 = .ok (.isub, 1) := by decide +kernel
theorem dX13_comesTo_142 : decode cX13_comesTo 142 = .ok (.iaload, 1) := by decide +kernel
theorem dX13_comesTo_143 : decode cX13_comesTo 143 = .ok (.iload 6, 2) := by decide +kernel
theorem dX13_comesTo_145 : decode cX13_comesTo 145 = .ok (.bipush 12, 2) := by decide +kernel
theorem dX13_comesTo_147 : decode cX13_comesTo 147 = .ok (.if_icmp .ne 7, 3) := by decide +kernel
theorem dX13_comesTo_150 : decode cX13_comesTo 150 = .ok (.iconst 1, 1) := by decide +kernel
theorem dX13_comesTo_151 : decode cX13_comesTo 151 = .ok (.goto 4, 3) := by decide +kernel
theorem dX13_comesTo_154 : decode cX13_comesTo 154 = .ok (.iconst 0, 1) := by decide +kernel
theorem dX13_comesTo_155 : decode cX13_comesTo 155 = .ok (.if_icmp .ne 13, 3) := by decide +kernel
theorem dX13_comesTo_158 : decode cX13_comesTo 158 = .ok (.iload 4, 2) := by decide +kernel
theorem dX13_comesTo_160 : decode cX13_comesTo 160 = .ok (.iload 7, 2) := by decide +kernel
theorem dX13_comesTo_162 : decode cX13_comesTo 162 = .ok (.iadd, 1) := by decide +kernel
theorem dX13_comesTo_163 : decode cX13_comesTo 163 = .ok (.istore 5, 2) := by decide +kernel
theorem dX13_comesTo_165 : decode cX13_comesTo 165 = .ok (.goto 65, 3) := by decide +kernel
theorem dX13_comesTo_168 : decode cX13_comesTo 168 = .ok (.iload_n 3, 1) := by decide +kernel
theorem dX13_comesTo_169 : decode cX13_comesTo 169 = .ok (.iconst 1, 1) := by decide +kernel
theorem dX13_comesTo_170 : decode cX13_comesTo 170 = .ok (.isub, 1) := by decide +kernel
theorem dX13_comesTo_171 : decode cX13_comesTo 171 = .ok (.istore_n 3, 1) := by decide +kernel
theorem dX13_comesTo_172 : decode cX13_comesTo 172 = .ok (.goto 58, 3) := by decide +kernel
theorem dX13_comesTo_175 : decode cX13_comesTo 175 = .ok (.iload_n 3, 1) := by decide +kernel
theorem dX13_comesTo_176 : decode cX13_comesTo 176 = .ok (.iconst 1, 1) := by decide +kernel
theorem dX13_comesTo_177 : decode cX13_comesTo 177 = .ok (.isub, 1) := by decide +kernel
theorem dX13_comesTo_178 : decode cX13_comesTo 178 = .ok (.istore_n 3, 1) := by decide +kernel
theorem dX13_comesTo_179 : decode cX13_comesTo 179 = .ok (.iload 6, 2) := by decide +kernel
theorem dX13_comesTo_181 : decode cX13_comesTo 181 = .ok (.iconst 5, 1) := by decide +kernel
theorem dX13_comesTo_182 : decode cX13_comesTo 182 = .ok (.if_icmp .eq 10, 3) := by decide +kernel
theorem dX13_comesTo_185 : decode cX13_comesTo 185 = .ok (.iload 6, 2) := by decide +kernel
theorem dX13_comesTo_187 : decode cX13_comesTo 187 = .ok (.bipush 6, 2) := by decide +kernel
theorem dX13_comesTo_189 : decode cX13_comesTo 189 = .ok (.if_icmp .ne 14, 3) := by decide +kernel
theorem dX13_comesTo_192 : decode cX13_comesTo 192 = .ok (.aload_n 0, 1) := by decide +kernel
theorem dX13_comesTo_193 : decode cX13_comesTo 193 = .ok (.getfield 71, 3) := by decide +kernel
theorem dX13_comesTo_196 : decode cX13_comesTo 196 = .ok (.iload_n 3, 1) := by decide +kernel
theorem dX13_comesTo_197 : decode cX13_comesTo 197 = .ok (.iaload, 1) := by decide +kernel
theorem dX13_comesTo_198 : decode cX13_comesTo 198 = .ok (.ifCond .ne 5, 3) := by decide +kernel
theorem dX13_comesTo_201 : decode cX13_comesTo 201 = .ok (.iconst 0, 1) := by decide +kernel
theorem dX13_comesTo_202 : decode cX13_comesTo 202 = .ok (.ireturn, 1) := by decide +kernel
theorem dX13_comesTo_203 : decode cX13_comesTo 203 = .ok (.aload_n 0, 1) := by decide +kernel
theorem dX13_comesTo_204 : decode cX13_comesTo 204 = .ok (.getfield 71, 3) := by decide +kernel
theorem dX13_comesTo_207 : decode cX13_comesTo 207 = .ok (.iload_n 3, 1) := by decide +kernel
theorem dX13_comesTo_208 : decode cX13_comesTo 208 = .ok (.iconst 1, 1) := by decide +kernel
theorem dX13_comesTo_209 : decode cX13_comesTo 209 = .ok (.isub, 1) := by decide +kernel
theorem dX13_comesTo_210 : decode cX13_comesTo 210 = .ok (.iload 6, 2) := by decide +kernel
theorem dX13_comesTo_212 : decode cX13_comesTo 212 = .ok (.aload_n 0, 1) := by decide +kernel
theorem dX13_comesTo_213 : decode cX13_comesTo 213 = .ok (.getfield 71, 3) := by decide +kernel
theorem dX13_comesTo_216 : decode cX13_comesTo 216 = .ok (.iload_n 3, 1) := by decide +kernel
theorem dX13_comesTo_217 : decode cX13_comesTo 217 = .ok (.iconst 1, 1) := by decide +kernel
theorem dX13_comesTo_218 : decode cX13_comesTo 218 = .ok (.isub, 1) := by decide +kernel
theorem dX13_comesTo_219 : decode cX13_comesTo 219 = .ok (.iaload, 1) := by decide +kernel
theorem dX13_comesTo_220 : decode cX13_comesTo 220 = .ok (.aload_n 0, 1) := by decide +kernel
theorem dX13_comesTo_221 : decode cX13_comesTo 221 = .ok (.getfield 71, 3) := by decide +kernel
theorem dX13_comesTo_224 : decode cX13_comesTo 224 = .ok (.iload_n 3, 1) := by decide +kernel
theorem dX13_comesTo_225 : decode cX13_comesTo 225 = .ok (.iaload, 1) := by decide +kernel
theorem dX13_comesTo_226 : decode cX13_comesTo 226 = .ok (.invokestatic 244, 3) := by decide +kernel
theorem dX13_comesTo_229 : decode cX13_comesTo 229 = .ok (.iastore, 1) := by decide +kernel
theorem dX13_comesTo_230 : decode cX13_comesTo 230 = .ok (.goto (-214), 3) := by decide +kernel
theorem dX13_comesTo_233 : decode cX13_comesTo 233 = .ok (.aload_n 0, 1) := by decide +kernel
theorem dX13_comesTo_234 : decode cX13_comesTo 234 = .ok (.getfield 71, 3) := by decide +kernel
theorem dX13_comesTo_237 : decode cX13_comesTo 237 = .ok (.iconst 0, 1) := by decide +kernel
theorem dX13_comesTo_238 : decode cX13_comesTo 238 = .ok (.iaload, 1) := by decide +kernel
theorem dX13_comesTo_239 : decode cX13_comesTo 239 = .ok (.ireturn, 1) := by decide +kernel
theorem dX13_byLaw_0 : decode cX13_byLaw 0 = .ok (.iconst 0, 1) := by decide +kernel
theorem dX13_byLaw_1 : decode cX13_byLaw 1 = .ok (.istore_n 3, 1) := by decide +kernel
theorem dX13_byLaw_2 : decode cX13_byLaw 2 = .ok (.iload_n 3, 1) := by decide +kernel
theorem dX13_byLaw_3 : decode cX13_byLaw 3 = .ok (.aload_n 0, 1) := by decide +kernel
theorem dX13_byLaw_4 : decode cX13_byLaw 4 = .ok (.getfield 241, 3) := by decide +kernel
theorem dX13_byLaw_7 : decode cX13_byLaw 7 = .ok (.if_icmp .ge 82, 3) := by decide +kernel
theorem dX13_byLaw_10 : decode cX13_byLaw 10 = .ok (.aload_n 0, 1) := by decide +kernel
theorem dX13_byLaw_11 : decode cX13_byLaw 11 = .ok (.getfield 59, 3) := by decide +kernel
theorem dX13_byLaw_14 : decode cX13_byLaw 14 = .ok (.iload_n 3, 1) := by decide +kernel
theorem dX13_byLaw_15 : decode cX13_byLaw 15 = .ok (.iaload, 1) := by decide +kernel
theorem dX13_byLaw_16 : decode cX13_byLaw 16 = .ok (.iload_n 1, 1) := by decide +kernel
theorem dX13_byLaw_17 : decode cX13_byLaw 17 = .ok (.if_icmp .ne 66, 3) := by decide +kernel
theorem dX13_byLaw_20 : decode cX13_byLaw 20 = .ok (.aload_n 0, 1) := by decide +kernel
theorem dX13_byLaw_21 : decode cX13_byLaw 21 = .ok (.aload_n 0, 1) := by decide +kernel
theorem dX13_byLaw_22 : decode cX13_byLaw 22 = .ok (.getfield 65, 3) := by decide +kernel
theorem dX13_byLaw_25 : decode cX13_byLaw 25 = .ok (.iload_n 3, 1) := by decide +kernel
theorem dX13_byLaw_26 : decode cX13_byLaw 26 = .ok (.iaload, 1) := by decide +kernel
theorem dX13_byLaw_27 : decode cX13_byLaw 27 = .ok (.aload_n 0, 1) := by decide +kernel
theorem dX13_byLaw_28 : decode cX13_byLaw 28 = .ok (.getfield 68, 3) := by decide +kernel
theorem dX13_byLaw_31 : decode cX13_byLaw 31 = .ok (.iload_n 3, 1) := by decide +kernel
theorem dX13_byLaw_32 : decode cX13_byLaw 32 = .ok (.iaload, 1) := by decide +kernel
theorem dX13_byLaw_33 : decode cX13_byLaw 33 = .ok (.invokevirtual 248, 3) := by decide +kernel
theorem dX13_byLaw_36 : decode cX13_byLaw 36 = .ok (.iconst 1, 1) := by decide +kernel
theorem dX13_byLaw_37 : decode cX13_byLaw 37 = .ok (.if_icmp .eq 6, 3) := by decide +kernel
theorem dX13_byLaw_40 : decode cX13_byLaw 40 = .ok (.goto 43, 3) := by decide +kernel
theorem dX13_byLaw_43 : decode cX13_byLaw 43 = .ok (.aload_n 0, 1) := by decide +kernel
theorem dX13_byLaw_44 : decode cX13_byLaw 44 = .ok (.aload_n 0, 1) := by decide +kernel
theorem dX13_byLaw_45 : decode cX13_byLaw 45 = .ok (.getfield 62, 3) := by decide +kernel
theorem dX13_byLaw_48 : decode cX13_byLaw 48 = .ok (.iload_n 3, 1) := by decide +kernel
theorem dX13_byLaw_49 : decode cX13_byLaw 49 = .ok (.iaload, 1) := by decide +kernel
theorem dX13_byLaw_50 : decode cX13_byLaw 50 = .ok (.aload_n 0, 1) := by decide +kernel
theorem dX13_byLaw_51 : decode cX13_byLaw 51 = .ok (.getfield 65, 3) := by decide +kernel
theorem dX13_byLaw_54 : decode cX13_byLaw 54 = .ok (.iload_n 3, 1) := by decide +kernel
theorem dX13_byLaw_55 : decode cX13_byLaw 55 = .ok (.iaload, 1) := by decide +kernel
theorem dX13_byLaw_56 : decode cX13_byLaw 56 = .ok (.invokevirtual 248, 3) := by decide +kernel
theorem dX13_byLaw_59 : decode cX13_byLaw 59 = .ok (.istore 4, 2) := by decide +kernel
theorem dX13_byLaw_61 : decode cX13_byLaw 61 = .ok (.iload 4, 2) := by decide +kernel
theorem dX13_byLaw_63 : decode cX13_byLaw 63 = .ok (.ifCond .ge 7, 3) := by decide +kernel
theorem dX13_byLaw_66 : decode cX13_byLaw 66 = .ok (.iconst 0, 1) := by decide +kernel
theorem dX13_byLaw_67 : decode cX13_byLaw 67 = .ok (.goto 15, 3) := by decide +kernel
theorem dX13_byLaw_70 : decode cX13_byLaw 70 = .ok (.iload 4, 2) := by decide +kernel
theorem dX13_byLaw_72 : decode cX13_byLaw 72 = .ok (.iload_n 2, 1) := by decide +kernel
theorem dX13_byLaw_73 : decode cX13_byLaw 73 = .ok (.if_icmp .le 7, 3) := by decide +kernel
theorem dX13_byLaw_76 : decode cX13_byLaw 76 = .ok (.iload_n 2, 1) := by decide +kernel
theorem dX13_byLaw_77 : decode cX13_byLaw 77 = .ok (.goto 5, 3) := by decide +kernel
theorem dX13_byLaw_80 : decode cX13_byLaw 80 = .ok (.iload 4, 2) := by decide +kernel
theorem dX13_byLaw_82 : decode cX13_byLaw 82 = .ok (.ireturn, 1) := by decide +kernel
theorem dX13_byLaw_83 : decode cX13_byLaw 83 = .ok (.iinc 3 1, 3) := by decide +kernel
theorem dX13_byLaw_86 : decode cX13_byLaw 86 = .ok (.goto (-84), 3) := by decide +kernel
theorem dX13_byLaw_89 : decode cX13_byLaw 89 = .ok (.iconst 0, 1) := by decide +kernel
theorem dX13_byLaw_90 : decode cX13_byLaw 90 = .ok (.ireturn, 1) := by decide +kernel
theorem dX13_holdsAny_0 : decode cX13_holdsAny 0 = .ok (.iconst 0, 1) := by decide +kernel
theorem dX13_holdsAny_1 : decode cX13_holdsAny 1 = .ok (.istore_n 2, 1) := by decide +kernel
theorem dX13_holdsAny_2 : decode cX13_holdsAny 2 = .ok (.iload_n 2, 1) := by decide +kernel
theorem dX13_holdsAny_3 : decode cX13_holdsAny 3 = .ok (.aload_n 0, 1) := by decide +kernel
theorem dX13_holdsAny_4 : decode cX13_holdsAny 4 = .ok (.getfield 241, 3) := by decide +kernel
theorem dX13_holdsAny_7 : decode cX13_holdsAny 7 = .ok (.if_icmp .ge 41, 3) := by decide +kernel
theorem dX13_holdsAny_10 : decode cX13_holdsAny 10 = .ok (.aload_n 0, 1) := by decide +kernel
theorem dX13_holdsAny_11 : decode cX13_holdsAny 11 = .ok (.getfield 59, 3) := by decide +kernel
theorem dX13_holdsAny_14 : decode cX13_holdsAny 14 = .ok (.iload_n 2, 1) := by decide +kernel
theorem dX13_holdsAny_15 : decode cX13_holdsAny 15 = .ok (.iaload, 1) := by decide +kernel
theorem dX13_holdsAny_16 : decode cX13_holdsAny 16 = .ok (.iload_n 1, 1) := by decide +kernel
theorem dX13_holdsAny_17 : decode cX13_holdsAny 17 = .ok (.if_icmp .ne 25, 3) := by decide +kernel
theorem dX13_holdsAny_20 : decode cX13_holdsAny 20 = .ok (.aload_n 0, 1) := by decide +kernel
theorem dX13_holdsAny_21 : decode cX13_holdsAny 21 = .ok (.aload_n 0, 1) := by decide +kernel
theorem dX13_holdsAny_22 : decode cX13_holdsAny 22 = .ok (.getfield 65, 3) := by decide +kernel
theorem dX13_holdsAny_25 : decode cX13_holdsAny 25 = .ok (.iload_n 2, 1) := by decide +kernel
theorem dX13_holdsAny_26 : decode cX13_holdsAny 26 = .ok (.iaload, 1) := by decide +kernel
theorem dX13_holdsAny_27 : decode cX13_holdsAny 27 = .ok (.aload_n 0, 1) := by decide +kernel
theorem dX13_holdsAny_28 : decode cX13_holdsAny 28 = .ok (.getfield 68, 3) := by decide +kernel
theorem dX13_holdsAny_31 : decode cX13_holdsAny 31 = .ok (.iload_n 2, 1) := by decide +kernel
theorem dX13_holdsAny_32 : decode cX13_holdsAny 32 = .ok (.iaload, 1) := by decide +kernel
theorem dX13_holdsAny_33 : decode cX13_holdsAny 33 = .ok (.invokevirtual 248, 3) := by decide +kernel
theorem dX13_holdsAny_36 : decode cX13_holdsAny 36 = .ok (.iconst 1, 1) := by decide +kernel
theorem dX13_holdsAny_37 : decode cX13_holdsAny 37 = .ok (.if_icmp .ne 5, 3) := by decide +kernel
theorem dX13_holdsAny_40 : decode cX13_holdsAny 40 = .ok (.iconst 1, 1) := by decide +kernel
theorem dX13_holdsAny_41 : decode cX13_holdsAny 41 = .ok (.ireturn, 1) := by decide +kernel
theorem dX13_holdsAny_42 : decode cX13_holdsAny 42 = .ok (.iinc 2 1, 3) := by decide +kernel
theorem dX13_holdsAny_45 : decode cX13_holdsAny 45 = .ok (.goto (-43), 3) := by decide +kernel
theorem dX13_holdsAny_48 : decode cX13_holdsAny 48 = .ok (.iconst 0, 1) := by decide +kernel
theorem dX13_holdsAny_49 : decode cX13_holdsAny 49 = .ok (.ireturn, 1) := by decide +kernel
theorem dX13_readsNote_0 : decode cX13_readsNote 0 = .ok (.aload_n 0, 1) := by decide +kernel
theorem dX13_readsNote_1 : decode cX13_readsNote 1 = .ok (.getfield 150, 3) := by decide +kernel
theorem dX13_readsNote_4 : decode cX13_readsNote 4 = .ok (.istore_n 1, 1) := by decide +kernel
theorem dX13_readsNote_5 : decode cX13_readsNote 5 = .ok (.aload_n 0, 1) := by decide +kernel
theorem dX13_readsNote_6 : decode cX13_readsNote 6 = .ok (.invokevirtual 156, 3) := by decide +kernel
theorem dX13_readsNote_9 : decode cX13_readsNote 9 = .ok (.istore_n 2, 1) := by decide +kernel
theorem dX13_readsNote_10 : decode cX13_readsNote 10 = .ok (.iload_n 2, 1) := by decide +kernel
theorem dX13_readsNote_11 : decode cX13_readsNote 11 = .ok (.bipush 46, 2) := by decide +kernel
theorem dX13_readsNote_13 : decode cX13_readsNote 13 = .ok (.if_icmp .eq 24, 3) := by decide +kernel
theorem dX13_readsNote_16 : decode cX13_readsNote 16 = .ok (.iload_n 2, 1) := by decide +kernel
theorem dX13_readsNote_17 : decode cX13_readsNote 17 = .ok (.bipush 97, 2) := by decide +kernel
theorem dX13_readsNote_19 : decode cX13_readsNote 19 = .ok (.bipush 103, 2) := by decide +kernel
theorem dX13_readsNote_21 : decode cX13_readsNote 21 = .ok (.invokestatic 114, 3) := by decide +kernel
theorem dX13_readsNote_24 : decode cX13_readsNote 24 = .ok (.ifCond .ne 13, 3) := by decide +kernel
theorem dX13_readsNote_27 : decode cX13_readsNote 27 = .ok (.aload_n 0, 1) := by decide +kernel
theorem dX13_readsNote_28 : decode cX13_readsNote 28 = .ok (.iconst 1, 1) := by decide +kernel
theorem dX13_readsNote_29 : decode cX13_readsNote 29 = .ok (.aload_n 0, 1) := by decide +kernel
theorem dX13_readsNote_30 : decode cX13_readsNote 30 = .ok (.getfield 150, 3) := by decide +kernel
theorem dX13_readsNote_33 : decode cX13_readsNote 33 = .ok (.invokevirtual 162, 3) := by decide +kernel
theorem dX13_readsNote_36 : decode cX13_readsNote 36 = .ok (.ireturn, 1) := by decide +kernel
theorem dX13_readsNote_37 : decode cX13_readsNote 37 = .ok (.aload_n 0, 1) := by decide +kernel
theorem dX13_readsNote_38 : decode cX13_readsNote 38 = .ok (.aload_n 0, 1) := by decide +kernel
theorem dX13_readsNote_39 : decode cX13_readsNote 39 = .ok (.getfield 150, 3) := by decide +kernel
theorem dX13_readsNote_42 : decode cX13_readsNote 42 = .ok (.iconst 1, 1) := by decide +kernel
theorem dX13_readsNote_43 : decode cX13_readsNote 43 = .ok (.iadd, 1) := by decide +kernel
theorem dX13_readsNote_44 : decode cX13_readsNote 44 = .ok (.putfield 150, 3) := by decide +kernel
theorem dX13_readsNote_47 : decode cX13_readsNote 47 = .ok (.iconst 1, 1) := by decide +kernel
theorem dX13_readsNote_48 : decode cX13_readsNote 48 = .ok (.istore_n 3, 1) := by decide +kernel
theorem dX13_readsNote_49 : decode cX13_readsNote 49 = .ok (.aload_n 0, 1) := by decide +kernel
theorem dX13_readsNote_50 : decode cX13_readsNote 50 = .ok (.invokevirtual 156, 3) := by decide +kernel
theorem dX13_readsNote_53 : decode cX13_readsNote 53 = .ok (.bipush 50, 2) := by decide +kernel
theorem dX13_readsNote_55 : decode cX13_readsNote 55 = .ok (.bipush 57, 2) := by decide +kernel
theorem dX13_readsNote_57 : decode cX13_readsNote 57 = .ok (.invokestatic 114, 3) := by decide +kernel
theorem dX13_readsNote_60 : decode cX13_readsNote 60 = .ok (.ifCond .eq 21, 3) := by decide +kernel
theorem dX13_readsNote_63 : decode cX13_readsNote 63 = .ok (.aload_n 0, 1) := by decide +kernel
theorem dX13_readsNote_64 : decode cX13_readsNote 64 = .ok (.invokevirtual 156, 3) := by decide +kernel
theorem dX13_readsNote_67 : decode cX13_readsNote 67 = .ok (.bipush 48, 2) := by decide +kernel
theorem dX13_readsNote_69 : decode cX13_readsNote 69 = .ok (.isub, 1) := by decide +kernel
theorem dX13_readsNote_70 : decode cX13_readsNote 70 = .ok (.istore_n 3, 1) := by decide +kernel
theorem dX13_readsNote_71 : decode cX13_readsNote 71 = .ok (.aload_n 0, 1) := by decide +kernel
theorem dX13_readsNote_72 : decode cX13_readsNote 72 = .ok (.aload_n 0, 1) := by decide +kernel
theorem dX13_readsNote_73 : decode cX13_readsNote 73 = .ok (.getfield 150, 3) := by decide +kernel
theorem dX13_readsNote_76 : decode cX13_readsNote 76 = .ok (.iconst 1, 1) := by decide +kernel
theorem dX13_readsNote_77 : decode cX13_readsNote 77 = .ok (.iadd, 1) := by decide +kernel
theorem dX13_readsNote_78 : decode cX13_readsNote 78 = .ok (.putfield 150, 3) := by decide +kernel
theorem dX13_readsNote_81 : decode cX13_readsNote 81 = .ok (.aload_n 0, 1) := by decide +kernel
theorem dX13_readsNote_82 : decode cX13_readsNote 82 = .ok (.getfield 252, 3) := by decide +kernel
theorem dX13_readsNote_85 : decode cX13_readsNote 85 = .ok (.iload_n 3, 1) := by decide +kernel
theorem dX13_readsNote_86 : decode cX13_readsNote 86 = .ok (.iadd, 1) := by decide +kernel
theorem dX13_readsNote_87 : decode cX13_readsNote 87 = .ok (.bipush 60, 2) := by decide +kernel
theorem dX13_readsNote_89 : decode cX13_readsNote 89 = .ok (.if_icmp .le 11, 3) := by decide +kernel
theorem dX13_readsNote_92 : decode cX13_readsNote 92 = .ok (.aload_n 0, 1) := by decide +kernel
theorem dX13_readsNote_93 : decode cX13_readsNote 93 = .ok (.bipush 6, 2) := by decide +kernel
theorem dX13_readsNote_95 : decode cX13_readsNote 95 = .ok (.iload_n 1, 1) := by decide +kernel
theorem dX13_readsNote_96 : decode cX13_readsNote 96 = .ok (.invokevirtual 162, 3) := by decide +kernel
theorem dX13_readsNote_99 : decode cX13_readsNote 99 = .ok (.ireturn, 1) := by decide +kernel
theorem dX13_readsNote_100 : decode cX13_readsNote 100 = .ok (.iconst 0, 1) := by decide +kernel
theorem dX13_readsNote_101 : decode cX13_readsNote 101 = .ok (.istore 4, 2) := by decide +kernel
theorem dX13_readsNote_103 : decode cX13_readsNote 103 = .ok (.iload 4, 2) := by decide +kernel
theorem dX13_readsNote_105 : decode cX13_readsNote 105 = .ok (.iload_n 3, 1) := by decide +kernel
theorem dX13_readsNote_106 : decode cX13_readsNote 106 = .ok (.if_icmp .ge 85, 3) := by decide +kernel
theorem dX13_readsNote_109 : decode cX13_readsNote 109 = .ok (.aload_n 0, 1) := by decide +kernel
theorem dX13_readsNote_110 : decode cX13_readsNote 110 = .ok (.getfield 77, 3) := by decide +kernel
theorem dX13_readsNote_113 : decode cX13_readsNote 113 = .ok (.aload_n 0, 1) := by decide +kernel
theorem dX13_readsNote_114 : decode cX13_readsNote 114 = .ok (.getfield 252, 3) := by decide +kernel
theorem dX13_readsNote_117 : decode cX13_readsNote 117 = .ok (.iload 4, 2) := by decide +kernel
theorem dX13_readsNote_119 : decode cX13_readsNote 119 = .ok (.iadd, 1) := by decide +kernel
theorem dX13_readsNote_120 : decode cX13_readsNote 120 = .ok (.iload_n 2, 1) := by decide +kernel
theorem dX13_readsNote_121 : decode cX13_readsNote 121 = .ok (.bipush 46, 2) := by decide +kernel
theorem dX13_readsNote_123 : decode cX13_readsNote 123 = .ok (.if_icmp .ne 7, 3) := by decide +kernel
theorem dX13_readsNote_126 : decode cX13_readsNote 126 = .ok (.iconst 0, 1) := by decide +kernel
theorem dX13_readsNote_127 : decode cX13_readsNote 127 = .ok (.goto 9, 3) := by decide +kernel
theorem dX13_readsNote_130 : decode cX13_readsNote 130 = .ok (.iload_n 2, 1) := by decide +kernel
theorem dX13_readsNote_131 : decode cX13_readsNote 131 = .ok (.bipush 97, 2) := by decide +kernel
theorem dX13_readsNote_133 : decode cX13_readsNote 133 = .ok (.isub, 1) := by decide +kernel
theorem dX13_readsNote_134 : decode cX13_readsNote 134 = .ok (.iconst 1, 1) := by decide +kernel
theorem dX13_readsNote_135 : decode cX13_readsNote 135 = .ok (.iadd, 1) := by decide +kernel
theorem dX13_readsNote_136 : decode cX13_readsNote 136 = .ok (.iastore, 1) := by decide +kernel
theorem dX13_readsNote_137 : decode cX13_readsNote 137 = .ok (.aload_n 0, 1) := by decide +kernel
theorem dX13_readsNote_138 : decode cX13_readsNote 138 = .ok (.getfield 86, 3) := by decide +kernel
theorem dX13_readsNote_141 : decode cX13_readsNote 141 = .ok (.aload_n 0, 1) := by decide +kernel
theorem dX13_readsNote_142 : decode cX13_readsNote 142 = .ok (.getfield 252, 3) := by decide +kernel
theorem dX13_readsNote_145 : decode cX13_readsNote 145 = .ok (.iload 4, 2) := by decide +kernel
theorem dX13_readsNote_147 : decode cX13_readsNote 147 = .ok (.iadd, 1) := by decide +kernel
theorem dX13_readsNote_148 : decode cX13_readsNote 148 = .ok (.iload 4, 2) := by decide +kernel
theorem dX13_readsNote_150 : decode cX13_readsNote 150 = .ok (.ifCond .ne 7, 3) := by decide +kernel
theorem dX13_readsNote_153 : decode cX13_readsNote 153 = .ok (.iconst 1, 1) := by decide +kernel
theorem dX13_readsNote_154 : decode cX13_readsNote 154 = .ok (.goto 4, 3) := by decide +kernel
theorem dX13_readsNote_157 : decode cX13_readsNote 157 = .ok (.iconst 0, 1) := by decide +kernel
theorem dX13_readsNote_158 : decode cX13_readsNote 158 = .ok (.iastore, 1) := by decide +kernel
theorem dX13_readsNote_159 : decode cX13_readsNote 159 = .ok (.aload_n 0, 1) := by decide +kernel
theorem dX13_readsNote_160 : decode cX13_readsNote 160 = .ok (.getfield 80, 3) := by decide +kernel
theorem dX13_readsNote_163 : decode cX13_readsNote 163 = .ok (.aload_n 0, 1) := by decide +kernel
theorem dX13_readsNote_164 : decode cX13_readsNote 164 = .ok (.getfield 252, 3) := by decide +kernel
theorem dX13_readsNote_167 : decode cX13_readsNote 167 = .ok (.iload 4, 2) := by decide +kernel
theorem dX13_readsNote_169 : decode cX13_readsNote 169 = .ok (.iadd, 1) := by decide +kernel
theorem dX13_readsNote_170 : decode cX13_readsNote 170 = .ok (.iconst 0, 1) := by decide +kernel
theorem dX13_readsNote_171 : decode cX13_readsNote 171 = .ok (.iastore, 1) := by decide +kernel
theorem dX13_readsNote_172 : decode cX13_readsNote 172 = .ok (.aload_n 0, 1) := by decide +kernel
theorem dX13_readsNote_173 : decode cX13_readsNote 173 = .ok (.getfield 83, 3) := by decide +kernel
theorem dX13_readsNote_176 : decode cX13_readsNote 176 = .ok (.aload_n 0, 1) := by decide +kernel
theorem dX13_readsNote_177 : decode cX13_readsNote 177 = .ok (.getfield 252, 3) := by decide +kernel
theorem dX13_readsNote_180 : decode cX13_readsNote 180 = .ok (.iload 4, 2) := by decide +kernel
theorem dX13_readsNote_182 : decode cX13_readsNote 182 = .ok (.iadd, 1) := by decide +kernel
theorem dX13_readsNote_183 : decode cX13_readsNote 183 = .ok (.iconst 0, 1) := by decide +kernel
theorem dX13_readsNote_184 : decode cX13_readsNote 184 = .ok (.iastore, 1) := by decide +kernel
theorem dX13_readsNote_185 : decode cX13_readsNote 185 = .ok (.iinc 4 1, 3) := by decide +kernel
theorem dX13_readsNote_188 : decode cX13_readsNote 188 = .ok (.goto (-85), 3) := by decide +kernel
theorem dX13_readsNote_191 : decode cX13_readsNote 191 = .ok (.aload_n 0, 1) := by decide +kernel
theorem dX13_readsNote_192 : decode cX13_readsNote 192 = .ok (.aload_n 0, 1) := by decide +kernel
theorem dX13_readsNote_193 : decode cX13_readsNote 193 = .ok (.getfield 252, 3) := by decide +kernel
theorem dX13_readsNote_196 : decode cX13_readsNote 196 = .ok (.iload_n 3, 1) := by decide +kernel
theorem dX13_readsNote_197 : decode cX13_readsNote 197 = .ok (.iadd, 1) := by decide +kernel
theorem dX13_readsNote_198 : decode cX13_readsNote 198 = .ok (.putfield 252, 3) := by decide +kernel
theorem dX13_readsNote_201 : decode cX13_readsNote 201 = .ok (.aload_n 0, 1) := by decide +kernel
theorem dX13_readsNote_202 : decode cX13_readsNote 202 = .ok (.invokevirtual 156, 3) := by decide +kernel
theorem dX13_readsNote_205 : decode cX13_readsNote 205 = .ok (.bipush 94, 2) := by decide +kernel
theorem dX13_readsNote_207 : decode cX13_readsNote 207 = .ok (.if_icmp .ne 25, 3) := by decide +kernel
theorem dX13_readsNote_210 : decode cX13_readsNote 210 = .ok (.aload_n 0, 1) := by decide +kernel
theorem dX13_readsNote_211 : decode cX13_readsNote 211 = .ok (.getfield 80, 3) := by decide +kernel
theorem dX13_readsNote_214 : decode cX13_readsNote 214 = .ok (.aload_n 0, 1) := by decide +kernel
theorem dX13_readsNote_215 : decode cX13_readsNote 215 = .ok (.getfield 252, 3) := by decide +kernel
theorem dX13_readsNote_218 : decode cX13_readsNote 218 = .ok (.iconst 1, 1) := by decide +kernel
theorem dX13_readsNote_219 : decode cX13_readsNote 219 = .ok (.isub, 1) := by decide +kernel
theorem dX13_readsNote_220 : decode cX13_readsNote 220 = .ok (.iconst 1, 1) := by decide +kernel
theorem dX13_readsNote_221 : decode cX13_readsNote 221 = .ok (.iastore, 1) := by decide +kernel
theorem dX13_readsNote_222 : decode cX13_readsNote 222 = .ok (.aload_n 0, 1) := by decide +kernel
theorem dX13_readsNote_223 : decode cX13_readsNote 223 = .ok (.aload_n 0, 1) := by decide +kernel
theorem dX13_readsNote_224 : decode cX13_readsNote 224 = .ok (.getfield 150, 3) := by decide +kernel
theorem dX13_readsNote_227 : decode cX13_readsNote 227 = .ok (.iconst 1, 1) := by decide +kernel
theorem dX13_readsNote_228 : decode cX13_readsNote 228 = .ok (.iadd, 1) := by decide +kernel
theorem dX13_readsNote_229 : decode cX13_readsNote 229 = .ok (.putfield 150, 3) := by decide +kernel
theorem dX13_readsNote_232 : decode cX13_readsNote 232 = .ok (.aload_n 0, 1) := by decide +kernel
theorem dX13_readsNote_233 : decode cX13_readsNote 233 = .ok (.invokevirtual 156, 3) := by decide +kernel
theorem dX13_readsNote_236 : decode cX13_readsNote 236 = .ok (.bipush 44, 2) := by decide +kernel
theorem dX13_readsNote_238 : decode cX13_readsNote 238 = .ok (.if_icmp .ne 25, 3) := by decide +kernel
theorem dX13_readsNote_241 : decode cX13_readsNote 241 = .ok (.aload_n 0, 1) := by decide +kernel
theorem dX13_readsNote_242 : decode cX13_readsNote 242 = .ok (.getfield 83, 3) := by decide +kernel
theorem dX13_readsNote_245 : decode cX13_readsNote 245 = .ok (.aload_n 0, 1) := by decide +kernel
theorem dX13_readsNote_246 : decode cX13_readsNote 246 = .ok (.getfield 252, 3) := by decide +kernel
theorem dX13_readsNote_249 : decode cX13_readsNote 249 = .ok (.iconst 1, 1) := by decide +kernel
theorem dX13_readsNote_250 : decode cX13_readsNote 250 = .ok (.isub, 1) := by decide +kernel
theorem dX13_readsNote_251 : decode cX13_readsNote 251 = .ok (.iconst 1, 1) := by decide +kernel
theorem dX13_readsNote_252 : decode cX13_readsNote 252 = .ok (.iastore, 1) := by decide +kernel
theorem dX13_readsNote_253 : decode cX13_readsNote 253 = .ok (.aload_n 0, 1) := by decide +kernel
theorem dX13_readsNote_254 : decode cX13_readsNote 254 = .ok (.aload_n 0, 1) := by decide +kernel
theorem dX13_readsNote_255 : decode cX13_readsNote 255 = .ok (.getfield 150, 3) := by decide +kernel
theorem dX13_readsNote_258 : decode cX13_readsNote 258 = .ok (.iconst 1, 1) := by decide +kernel
theorem dX13_readsNote_259 : decode cX13_readsNote 259 = .ok (.iadd, 1) := by decide +kernel
theorem dX13_readsNote_260 : decode cX13_readsNote 260 = .ok (.putfield 150, 3) := by decide +kernel
theorem dX13_readsNote_263 : decode cX13_readsNote 263 = .ok (.iconst 1, 1) := by decide +kernel
theorem dX13_readsNote_264 : decode cX13_readsNote 264 = .ok (.ireturn, 1) := by decide +kernel
theorem dX13_endsRound_0 : decode cX13_endsRound 0 = .ok (.aload_n 0, 1) := by decide +kernel
theorem dX13_endsRound_1 : decode cX13_endsRound 1 = .ok (.aload_n 0, 1) := by decide +kernel
theorem dX13_endsRound_2 : decode cX13_endsRound 2 = .ok (.getfield 150, 3) := by decide +kernel
theorem dX13_endsRound_5 : decode cX13_endsRound 5 = .ok (.iconst 1, 1) := by decide +kernel
theorem dX13_endsRound_6 : decode cX13_endsRound 6 = .ok (.iadd, 1) := by decide +kernel
theorem dX13_endsRound_7 : decode cX13_endsRound 7 = .ok (.putfield 150, 3) := by decide +kernel
theorem dX13_endsRound_10 : decode cX13_endsRound 10 = .ok (.iconst 1, 1) := by decide +kernel
theorem dX13_endsRound_11 : decode cX13_endsRound 11 = .ok (.istore_n 1, 1) := by decide +kernel
theorem dX13_endsRound_12 : decode cX13_endsRound 12 = .ok (.aload_n 0, 1) := by decide +kernel
theorem dX13_endsRound_13 : decode cX13_endsRound 13 = .ok (.invokevirtual 156, 3) := by decide +kernel
theorem dX13_endsRound_16 : decode cX13_endsRound 16 = .ok (.bipush 120, 2) := by decide +kernel
theorem dX13_endsRound_18 : decode cX13_endsRound 18 = .ok (.if_icmp .ne 55, 3) := by decide +kernel
theorem dX13_endsRound_21 : decode cX13_endsRound 21 = .ok (.aload_n 0, 1) := by decide +kernel
theorem dX13_endsRound_22 : decode cX13_endsRound 22 = .ok (.aload_n 0, 1) := by decide +kernel
theorem dX13_endsRound_23 : decode cX13_endsRound 23 = .ok (.getfield 150, 3) := by decide +kernel
theorem dX13_endsRound_26 : decode cX13_endsRound 26 = .ok (.iconst 1, 1) := by decide +kernel
theorem dX13_endsRound_27 : decode cX13_endsRound 27 = .ok (.iadd, 1) := by decide +kernel
theorem dX13_endsRound_28 : decode cX13_endsRound 28 = .ok (.putfield 150, 3) := by decide +kernel
theorem dX13_endsRound_31 : decode cX13_endsRound 31 = .ok (.aload_n 0, 1) := by decide +kernel
theorem dX13_endsRound_32 : decode cX13_endsRound 32 = .ok (.invokevirtual 156, 3) := by decide +kernel
theorem dX13_endsRound_35 : decode cX13_endsRound 35 = .ok (.bipush 50, 2) := by decide +kernel
theorem dX13_endsRound_37 : decode cX13_endsRound 37 = .ok (.bipush 57, 2) := by decide +kernel
theorem dX13_endsRound_39 : decode cX13_endsRound 39 = .ok (.invokestatic 114, 3) := by decide +kernel
theorem dX13_endsRound_42 : decode cX13_endsRound 42 = .ok (.ifCond .ne 13, 3) := by decide +kernel
theorem dX13_endsRound_45 : decode cX13_endsRound 45 = .ok (.aload_n 0, 1) := by decide +kernel
theorem dX13_endsRound_46 : decode cX13_endsRound 46 = .ok (.iconst 1, 1) := by decide +kernel
theorem dX13_endsRound_47 : decode cX13_endsRound 47 = .ok (.aload_n 0, 1) := by decide +kernel
theorem dX13_endsRound_48 : decode cX13_endsRound 48 = .ok (.getfield 150, 3) := by decide +kernel
theorem dX13_endsRound_51 : decode cX13_endsRound 51 = .ok (.invokevirtual 162, 3) := by decide +kernel
theorem dX13_endsRound_54 : decode cX13_endsRound 54 = .ok (.ireturn, 1) := by decide +kernel
theorem dX13_endsRound_55 : decode cX13_endsRound 55 = .ok (.aload_n 0, 1) := by decide +kernel
theorem dX13_endsRound_56 : decode cX13_endsRound 56 = .ok (.invokevirtual 156, 3) := by decide +kernel
theorem dX13_endsRound_59 : decode cX13_endsRound 59 = .ok (.bipush 48, 2) := by decide +kernel
theorem dX13_endsRound_61 : decode cX13_endsRound 61 = .ok (.isub, 1) := by decide +kernel
theorem dX13_endsRound_62 : decode cX13_endsRound 62 = .ok (.istore_n 1, 1) := by decide +kernel
theorem dX13_endsRound_63 : decode cX13_endsRound 63 = .ok (.aload_n 0, 1) := by decide +kernel
theorem dX13_endsRound_64 : decode cX13_endsRound 64 = .ok (.aload_n 0, 1) := by decide +kernel
theorem dX13_endsRound_65 : decode cX13_endsRound 65 = .ok (.getfield 150, 3) := by decide +kernel
theorem dX13_endsRound_68 : decode cX13_endsRound 68 = .ok (.iconst 1, 1) := by decide +kernel
theorem dX13_endsRound_69 : decode cX13_endsRound 69 = .ok (.iadd, 1) := by decide +kernel
theorem dX13_endsRound_70 : decode cX13_endsRound 70 = .ok (.putfield 150, 3) := by decide +kernel
theorem dX13_endsRound_73 : decode cX13_endsRound 73 = .ok (.aload_n 0, 1) := by decide +kernel
theorem dX13_endsRound_74 : decode cX13_endsRound 74 = .ok (.aload_n 0, 1) := by decide +kernel
theorem dX13_endsRound_75 : decode cX13_endsRound 75 = .ok (.getfield 255, 3) := by decide +kernel
theorem dX13_endsRound_78 : decode cX13_endsRound 78 = .ok (.iconst 1, 1) := by decide +kernel
theorem dX13_endsRound_79 : decode cX13_endsRound 79 = .ok (.isub, 1) := by decide +kernel
theorem dX13_endsRound_80 : decode cX13_endsRound 80 = .ok (.putfield 255, 3) := by decide +kernel
theorem dX13_endsRound_83 : decode cX13_endsRound 83 = .ok (.aload_n 0, 1) := by decide +kernel
theorem dX13_endsRound_84 : decode cX13_endsRound 84 = .ok (.getfield 92, 3) := by decide +kernel
theorem dX13_endsRound_87 : decode cX13_endsRound 87 = .ok (.aload_n 0, 1) := by decide +kernel
theorem dX13_endsRound_88 : decode cX13_endsRound 88 = .ok (.getfield 255, 3) := by decide +kernel
theorem dX13_endsRound_91 : decode cX13_endsRound 91 = .ok (.iaload, 1) := by decide +kernel
theorem dX13_endsRound_92 : decode cX13_endsRound 92 = .ok (.istore_n 2, 1) := by decide +kernel
theorem dX13_endsRound_93 : decode cX13_endsRound 93 = .ok (.aload_n 0, 1) := by decide +kernel
theorem dX13_endsRound_94 : decode cX13_endsRound 94 = .ok (.getfield 252, 3) := by decide +kernel
theorem dX13_endsRound_97 : decode cX13_endsRound 97 = .ok (.iload_n 2, 1) := by decide +kernel
theorem dX13_endsRound_98 : decode cX13_endsRound 98 = .ok (.isub, 1) := by decide +kernel
theorem dX13_endsRound_99 : decode cX13_endsRound 99 = .ok (.istore_n 3, 1) := by decide +kernel
theorem dX13_endsRound_100 : decode cX13_endsRound 100 = .ok (.iload_n 2, 1) := by decide +kernel
theorem dX13_endsRound_101 : decode cX13_endsRound 101 = .ok (.iload_n 3, 1) := by decide +kernel
theorem dX13_endsRound_102 : decode cX13_endsRound 102 = .ok (.iload_n 1, 1) := by decide +kernel
theorem dX13_endsRound_103 : decode cX13_endsRound 103 = .ok (.imul, 1) := by decide +kernel
theorem dX13_endsRound_104 : decode cX13_endsRound 104 = .ok (.iadd, 1) := by decide +kernel
theorem dX13_endsRound_105 : decode cX13_endsRound 105 = .ok (.bipush 60, 2) := by decide +kernel
theorem dX13_endsRound_107 : decode cX13_endsRound 107 = .ok (.if_icmp .le 19, 3) := by decide +kernel
theorem dX13_endsRound_110 : decode cX13_endsRound 110 = .ok (.aload_n 0, 1) := by decide +kernel
theorem dX13_endsRound_111 : decode cX13_endsRound 111 = .ok (.bipush 6, 2) := by decide +kernel
theorem dX13_endsRound_113 : decode cX13_endsRound 113 = .ok (.aload_n 0, 1) := by decide +kernel
theorem dX13_endsRound_114 : decode cX13_endsRound 114 = .ok (.getfield 89, 3) := by decide +kernel
theorem dX13_endsRound_117 : decode cX13_endsRound 117 = .ok (.aload_n 0, 1) := by decide +kernel
theorem dX13_endsRound_118 : decode cX13_endsRound 118 = .ok (.getfield 255, 3) := by decide +kernel
theorem dX13_endsRound_121 : decode cX13_endsRound 121 = .ok (.iaload, 1) := by decide +kernel
theorem dX13_endsRound_122 : decode cX13_endsRound 122 = .ok (.invokevirtual 162, 3) := by decide +kernel
theorem dX13_endsRound_125 : decode cX13_endsRound 125 = .ok (.ireturn, 1) := by decide +kernel
theorem dX13_endsRound_126 : decode cX13_endsRound 126 = .ok (.iload_n 3, 1) := by decide +kernel
theorem dX13_endsRound_127 : decode cX13_endsRound 127 = .ok (.istore 4, 2) := by decide +kernel
theorem dX13_endsRound_129 : decode cX13_endsRound 129 = .ok (.iload 4, 2) := by decide +kernel
theorem dX13_endsRound_131 : decode cX13_endsRound 131 = .ok (.iload_n 3, 1) := by decide +kernel
theorem dX13_endsRound_132 : decode cX13_endsRound 132 = .ok (.iload_n 1, 1) := by decide +kernel
theorem dX13_endsRound_133 : decode cX13_endsRound 133 = .ok (.imul, 1) := by decide +kernel
theorem dX13_endsRound_134 : decode cX13_endsRound 134 = .ok (.if_icmp .ge 89, 3) := by decide +kernel
theorem dX13_endsRound_137 : decode cX13_endsRound 137 = .ok (.aload_n 0, 1) := by decide +kernel
theorem dX13_endsRound_138 : decode cX13_endsRound 138 = .ok (.getfield 77, 3) := by decide +kernel
theorem dX13_endsRound_141 : decode cX13_endsRound 141 = .ok (.iload_n 2, 1) := by decide +kernel
theorem dX13_endsRound_142 : decode cX13_endsRound 142 = .ok (.iload 4, 2) := by decide +kernel
theorem dX13_endsRound_144 : decode cX13_endsRound 144 = .ok (.iadd, 1) := by decide +kernel
theorem dX13_endsRound_145 : decode cX13_endsRound 145 = .ok (.aload_n 0, 1) := by decide +kernel
theorem dX13_endsRound_146 : decode cX13_endsRound 146 = .ok (.getfield 77, 3) := by decide +kernel
theorem dX13_endsRound_149 : decode cX13_endsRound 149 = .ok (.iload_n 2, 1) := by decide +kernel
theorem dX13_endsRound_150 : decode cX13_endsRound 150 = .ok (.iload 4, 2) := by decide +kernel
theorem dX13_endsRound_152 : decode cX13_endsRound 152 = .ok (.iadd, 1) := by decide +kernel
theorem dX13_endsRound_153 : decode cX13_endsRound 153 = .ok (.iload_n 3, 1) := by decide +kernel
theorem dX13_endsRound_154 : decode cX13_endsRound 154 = .ok (.isub, 1) := by decide +kernel
theorem dX13_endsRound_155 : decode cX13_endsRound 155 = .ok (.iaload, 1) := by decide +kernel
theorem dX13_endsRound_156 : decode cX13_endsRound 156 = .ok (.iastore, 1) := by decide +kernel
theorem dX13_endsRound_157 : decode cX13_endsRound 157 = .ok (.aload_n 0, 1) := by decide +kernel
theorem dX13_endsRound_158 : decode cX13_endsRound 158 = .ok (.getfield 86, 3) := by decide +kernel
theorem dX13_endsRound_161 : decode cX13_endsRound 161 = .ok (.iload_n 2, 1) := by decide +kernel
theorem dX13_endsRound_162 : decode cX13_endsRound 162 = .ok (.iload 4, 2) := by decide +kernel
theorem dX13_endsRound_164 : decode cX13_endsRound 164 = .ok (.iadd, 1) := by decide +kernel
theorem dX13_endsRound_165 : decode cX13_endsRound 165 = .ok (.aload_n 0, 1) := by decide +kernel
theorem dX13_endsRound_166 : decode cX13_endsRound 166 = .ok (.getfield 86, 3) := by decide +kernel
theorem dX13_endsRound_169 : decode cX13_endsRound 169 = .ok (.iload_n 2, 1) := by decide +kernel
theorem dX13_endsRound_170 : decode cX13_endsRound 170 = .ok (.iload 4, 2) := by decide +kernel
theorem dX13_endsRound_172 : decode cX13_endsRound 172 = .ok (.iadd, 1) := by decide +kernel
theorem dX13_endsRound_173 : decode cX13_endsRound 173 = .ok (.iload_n 3, 1) := by decide +kernel
theorem dX13_endsRound_174 : decode cX13_endsRound 174 = .ok (.isub, 1) := by decide +kernel
theorem dX13_endsRound_175 : decode cX13_endsRound 175 = .ok (.iaload, 1) := by decide +kernel
theorem dX13_endsRound_176 : decode cX13_endsRound 176 = .ok (.iastore, 1) := by decide +kernel
theorem dX13_endsRound_177 : decode cX13_endsRound 177 = .ok (.aload_n 0, 1) := by decide +kernel
theorem dX13_endsRound_178 : decode cX13_endsRound 178 = .ok (.getfield 80, 3) := by decide +kernel
theorem dX13_endsRound_181 : decode cX13_endsRound 181 = .ok (.iload_n 2, 1) := by decide +kernel
theorem dX13_endsRound_182 : decode cX13_endsRound 182 = .ok (.iload 4, 2) := by decide +kernel
theorem dX13_endsRound_184 : decode cX13_endsRound 184 = .ok (.iadd, 1) := by decide +kernel
theorem dX13_endsRound_185 : decode cX13_endsRound 185 = .ok (.aload_n 0, 1) := by decide +kernel
theorem dX13_endsRound_186 : decode cX13_endsRound 186 = .ok (.getfield 80, 3) := by decide +kernel
theorem dX13_endsRound_189 : decode cX13_endsRound 189 = .ok (.iload_n 2, 1) := by decide +kernel
theorem dX13_endsRound_190 : decode cX13_endsRound 190 = .ok (.iload 4, 2) := by decide +kernel
theorem dX13_endsRound_192 : decode cX13_endsRound 192 = .ok (.iadd, 1) := by decide +kernel
theorem dX13_endsRound_193 : decode cX13_endsRound 193 = .ok (.iload_n 3, 1) := by decide +kernel
theorem dX13_endsRound_194 : decode cX13_endsRound 194 = .ok (.isub, 1) := by decide +kernel
theorem dX13_endsRound_195 : decode cX13_endsRound 195 = .ok (.iaload, 1) := by decide +kernel
theorem dX13_endsRound_196 : decode cX13_endsRound 196 = .ok (.iastore, 1) := by decide +kernel
theorem dX13_endsRound_197 : decode cX13_endsRound 197 = .ok (.aload_n 0, 1) := by decide +kernel
theorem dX13_endsRound_198 : decode cX13_endsRound 198 = .ok (.getfield 83, 3) := by decide +kernel
theorem dX13_endsRound_201 : decode cX13_endsRound 201 = .ok (.iload_n 2, 1) := by decide +kernel
theorem dX13_endsRound_202 : decode cX13_endsRound 202 = .ok (.iload 4, 2) := by decide +kernel
theorem dX13_endsRound_204 : decode cX13_endsRound 204 = .ok (.iadd, 1) := by decide +kernel
theorem dX13_endsRound_205 : decode cX13_endsRound 205 = .ok (.aload_n 0, 1) := by decide +kernel
theorem dX13_endsRound_206 : decode cX13_endsRound 206 = .ok (.getfield 83, 3) := by decide +kernel
theorem dX13_endsRound_209 : decode cX13_endsRound 209 = .ok (.iload_n 2, 1) := by decide +kernel
theorem dX13_endsRound_210 : decode cX13_endsRound 210 = .ok (.iload 4, 2) := by decide +kernel
theorem dX13_endsRound_212 : decode cX13_endsRound 212 = .ok (.iadd, 1) := by decide +kernel
theorem dX13_endsRound_213 : decode cX13_endsRound 213 = .ok (.iload_n 3, 1) := by decide +kernel
theorem dX13_endsRound_214 : decode cX13_endsRound 214 = .ok (.isub, 1) := by decide +kernel
theorem dX13_endsRound_215 : decode cX13_endsRound 215 = .ok (.iaload, 1) := by decide +kernel
theorem dX13_endsRound_216 : decode cX13_endsRound 216 = .ok (.iastore, 1) := by decide +kernel
theorem dX13_endsRound_217 : decode cX13_endsRound 217 = .ok (.iinc 4 1, 3) := by decide +kernel
theorem dX13_endsRound_220 : decode cX13_endsRound 220 = .ok (.goto (-91), 3) := by decide +kernel
theorem dX13_endsRound_223 : decode cX13_endsRound 223 = .ok (.aload_n 0, 1) := by decide +kernel
theorem dX13_endsRound_224 : decode cX13_endsRound 224 = .ok (.iload_n 2, 1) := by decide +kernel
theorem dX13_endsRound_225 : decode cX13_endsRound 225 = .ok (.iload_n 3, 1) := by decide +kernel
theorem dX13_endsRound_226 : decode cX13_endsRound 226 = .ok (.iload_n 1, 1) := by decide +kernel
theorem dX13_endsRound_227 : decode cX13_endsRound 227 = .ok (.imul, 1) := by decide +kernel
theorem dX13_endsRound_228 : decode cX13_endsRound 228 = .ok (.iadd, 1) := by decide +kernel
theorem dX13_endsRound_229 : decode cX13_endsRound 229 = .ok (.putfield 252, 3) := by decide +kernel
theorem dX13_endsRound_232 : decode cX13_endsRound 232 = .ok (.iconst 1, 1) := by decide +kernel
theorem dX13_endsRound_233 : decode cX13_endsRound 233 = .ok (.ireturn, 1) := by decide +kernel
theorem dX13_readsItem_0 : decode cX13_readsItem 0 = .ok (.aload_n 0, 1) := by decide +kernel
theorem dX13_readsItem_1 : decode cX13_readsItem 1 = .ok (.invokevirtual 156, 3) := by decide +kernel
theorem dX13_readsItem_4 : decode cX13_readsItem 4 = .ok (.bipush 40, 2) := by decide +kernel
theorem dX13_readsItem_6 : decode cX13_readsItem 6 = .ok (.if_icmp .ne 70, 3) := by decide +kernel
theorem dX13_readsItem_9 : decode cX13_readsItem 9 = .ok (.aload_n 0, 1) := by decide +kernel
theorem dX13_readsItem_10 : decode cX13_readsItem 10 = .ok (.getfield 255, 3) := by decide +kernel
theorem dX13_readsItem_13 : decode cX13_readsItem 13 = .ok (.iconst 2, 1) := by decide +kernel
theorem dX13_readsItem_14 : decode cX13_readsItem 14 = .ok (.if_icmp .ne 13, 3) := by decide +kernel
theorem dX13_readsItem_17 : decode cX13_readsItem 17 = .ok (.aload_n 0, 1) := by decide +kernel
theorem dX13_readsItem_18 : decode cX13_readsItem 18 = .ok (.iconst 5, 1) := by decide +kernel
theorem dX13_readsItem_19 : decode cX13_readsItem 19 = .ok (.aload_n 0, 1) := by decide +kernel
theorem dX13_readsItem_20 : decode cX13_readsItem 20 = .ok (.getfield 150, 3) := by decide +kernel
theorem dX13_readsItem_23 : decode cX13_readsItem 23 = .ok (.invokevirtual 162, 3) := by decide +kernel
theorem dX13_readsItem_26 : decode cX13_readsItem 26 = .ok (.ireturn, 1) := by decide +kernel
theorem dX13_readsItem_27 : decode cX13_readsItem 27 = .ok (.aload_n 0, 1) := by decide +kernel
theorem dX13_readsItem_28 : decode cX13_readsItem 28 = .ok (.getfield 89, 3) := by decide +kernel
theorem dX13_readsItem_31 : decode cX13_readsItem 31 = .ok (.aload_n 0, 1) := by decide +kernel
theorem dX13_readsItem_32 : decode cX13_readsItem 32 = .ok (.getfield 255, 3) := by decide +kernel
theorem dX13_readsItem_35 : decode cX13_readsItem 35 = .ok (.aload_n 0, 1) := by decide +kernel
theorem dX13_readsItem_36 : decode cX13_readsItem 36 = .ok (.getfield 150, 3) := by decide +kernel
theorem dX13_readsItem_39 : decode cX13_readsItem 39 = .ok (.iastore, 1) := by decide +kernel
theorem dX13_readsItem_40 : decode cX13_readsItem 40 = .ok (.aload_n 0, 1) := by decide +kernel
theorem dX13_readsItem_41 : decode cX13_readsItem 41 = .ok (.getfield 92, 3) := by decide +kernel
theorem dX13_readsItem_44 : decode cX13_readsItem 44 = .ok (.aload_n 0, 1) := by decide +kernel
theorem dX13_readsItem_45 : decode cX13_readsItem 45 = .ok (.getfield 255, 3) := by decide +kernel
theorem dX13_readsItem_48 : decode cX13_readsItem 48 = .ok (.aload_n 0, 1) := by decide +kernel
theorem dX13_readsItem_49 : decode cX13_readsItem 49 = .ok (.getfield 252, 3) := by decide +kernel
theorem dX13_readsItem_52 : decode cX13_readsItem 52 = .ok (.iastore, 1) := by decide +kernel
theorem dX13_readsItem_53 : decode cX13_readsItem 53 = .ok (.aload_n 0, 1) := by decide +kernel
theorem dX13_readsItem_54 : decode cX13_readsItem 54 = .ok (.aload_n 0, 1) := by decide +kernel
theorem dX13_readsItem_55 : decode cX13_readsItem 55 = .ok (.getfield 255, 3) := by decide +kernel
theorem dX13_readsItem_58 : decode cX13_readsItem 58 = .ok (.iconst 1, 1) := by decide +kernel
theorem dX13_readsItem_59 : decode cX13_readsItem 59 = .ok (.iadd, 1) := by decide +kernel
theorem dX13_readsItem_60 : decode cX13_readsItem 60 = .ok (.putfield 255, 3) := by decide +kernel
theorem dX13_readsItem_63 : decode cX13_readsItem 63 = .ok (.aload_n 0, 1) := by decide +kernel
theorem dX13_readsItem_64 : decode cX13_readsItem 64 = .ok (.aload_n 0, 1) := by decide +kernel
theorem dX13_readsItem_65 : decode cX13_readsItem 65 = .ok (.getfield 150, 3) := by decide +kernel
theorem dX13_readsItem_68 : decode cX13_readsItem 68 = .ok (.iconst 1, 1) := by decide +kernel
theorem dX13_readsItem_69 : decode cX13_readsItem 69 = .ok (.iadd, 1) := by decide +kernel
theorem dX13_readsItem_70 : decode cX13_readsItem 70 = .ok (.putfield 150, 3) := by decide +kernel
theorem dX13_readsItem_73 : decode cX13_readsItem 73 = .ok (.goto (-73), 3) := by decide +kernel
theorem dX13_readsItem_76 : decode cX13_readsItem 76 = .ok (.aload_n 0, 1) := by decide +kernel
theorem dX13_readsItem_77 : decode cX13_readsItem 77 = .ok (.invokevirtual 258, 3) := by decide +kernel
theorem dX13_readsItem_80 : decode cX13_readsItem 80 = .ok (.ifCond .ne 5, 3) := by decide +kernel
theorem dX13_readsItem_83 : decode cX13_readsItem 83 = .ok (.iconst 0, 1) := by decide +kernel
theorem dX13_readsItem_84 : decode cX13_readsItem 84 = .ok (.ireturn, 1) := by decide +kernel
theorem dX13_readsItem_85 : decode cX13_readsItem 85 = .ok (.aload_n 0, 1) := by decide +kernel
theorem dX13_readsItem_86 : decode cX13_readsItem 86 = .ok (.invokevirtual 156, 3) := by decide +kernel
theorem dX13_readsItem_89 : decode cX13_readsItem 89 = .ok (.bipush 41, 2) := by decide +kernel
theorem dX13_readsItem_91 : decode cX13_readsItem 91 = .ok (.if_icmp .ne 19, 3) := by decide +kernel
theorem dX13_readsItem_94 : decode cX13_readsItem 94 = .ok (.aload_n 0, 1) := by decide +kernel
theorem dX13_readsItem_95 : decode cX13_readsItem 95 = .ok (.getfield 255, 3) := by decide +kernel
theorem dX13_readsItem_98 : decode cX13_readsItem 98 = .ok (.ifCond .le 12, 3) := by decide +kernel
theorem dX13_readsItem_101 : decode cX13_readsItem 101 = .ok (.aload_n 0, 1) := by decide +kernel
theorem dX13_readsItem_102 : decode cX13_readsItem 102 = .ok (.invokevirtual 261, 3) := by decide +kernel
theorem dX13_readsItem_105 : decode cX13_readsItem 105 = .ok (.ifCond .ne (-20), 3) := by decide +kernel
theorem dX13_readsItem_108 : decode cX13_readsItem 108 = .ok (.iconst 0, 1) := by decide +kernel
theorem dX13_readsItem_109 : decode cX13_readsItem 109 = .ok (.ireturn, 1) := by decide +kernel
theorem dX13_readsItem_110 : decode cX13_readsItem 110 = .ok (.iconst 1, 1) := by decide +kernel
theorem dX13_readsItem_111 : decode cX13_readsItem 111 = .ok (.ireturn, 1) := by decide +kernel
theorem dX13_roll_0 : decode cX13_roll 0 = .ok (.iload_n 1, 1) := by decide +kernel
theorem dX13_roll_1 : decode cX13_roll 1 = .ok (.iconst 0, 1) := by decide +kernel
theorem dX13_roll_2 : decode cX13_roll 2 = .ok (.bipush 7, 2) := by decide +kernel
theorem dX13_roll_4 : decode cX13_roll 4 = .ok (.invokestatic 114, 3) := by decide +kernel
theorem dX13_roll_7 : decode cX13_roll 7 = .ok (.ifCond .eq 21, 3) := by decide +kernel
theorem dX13_roll_10 : decode cX13_roll 10 = .ok (.iload_n 2, 1) := by decide +kernel
theorem dX13_roll_11 : decode cX13_roll 11 = .ok (.iconst 1, 1) := by decide +kernel
theorem dX13_roll_12 : decode cX13_roll 12 = .ok (.bipush 60, 2) := by decide +kernel
theorem dX13_roll_14 : decode cX13_roll 14 = .ok (.invokestatic 114, 3) := by decide +kernel
theorem dX13_roll_17 : decode cX13_roll 17 = .ok (.ifCond .eq 11, 3) := by decide +kernel
theorem dX13_roll_20 : decode cX13_roll 20 = .ok (.iload_n 2, 1) := by decide +kernel
theorem dX13_roll_21 : decode cX13_roll 21 = .ok (.aload_n 0, 1) := by decide +kernel
theorem dX13_roll_22 : decode cX13_roll 22 = .ok (.getfield 144, 3) := by decide +kernel
theorem dX13_roll_25 : decode cX13_roll 25 = .ok (.if_icmp .le 5, 3) := by decide +kernel
theorem dX13_roll_28 : decode cX13_roll 28 = .ok (.iconst (-1), 1) := by decide +kernel
theorem dX13_roll_29 : decode cX13_roll 29 = .ok (.ireturn, 1) := by decide +kernel
theorem dX13_roll_30 : decode cX13_roll 30 = .ok (.aload_n 0, 1) := by decide +kernel
theorem dX13_roll_31 : decode cX13_roll 31 = .ok (.iload_n 2, 1) := by decide +kernel
theorem dX13_roll_32 : decode cX13_roll 32 = .ok (.invokevirtual 232, 3) := by decide +kernel
theorem dX13_roll_35 : decode cX13_roll 35 = .ok (.aload_n 0, 1) := by decide +kernel
theorem dX13_roll_36 : decode cX13_roll 36 = .ok (.iconst 0, 1) := by decide +kernel
theorem dX13_roll_37 : decode cX13_roll 37 = .ok (.putfield 252, 3) := by decide +kernel
theorem dX13_roll_40 : decode cX13_roll 40 = .ok (.aload_n 0, 1) := by decide +kernel
theorem dX13_roll_41 : decode cX13_roll 41 = .ok (.iconst 0, 1) := by decide +kernel
theorem dX13_roll_42 : decode cX13_roll 42 = .ok (.putfield 255, 3) := by decide +kernel
theorem dX13_roll_45 : decode cX13_roll 45 = .ok (.aload_n 0, 1) := by decide +kernel
theorem dX13_roll_46 : decode cX13_roll 46 = .ok (.invokevirtual 264, 3) := by decide +kernel
theorem dX13_roll_49 : decode cX13_roll 49 = .ok (.istore_n 3, 1) := by decide +kernel
theorem dX13_roll_50 : decode cX13_roll 50 = .ok (.iload_n 3, 1) := by decide +kernel
theorem dX13_roll_51 : decode cX13_roll 51 = .ok (.ifCond .eq 29, 3) := by decide +kernel
theorem dX13_roll_54 : decode cX13_roll 54 = .ok (.aload_n 0, 1) := by decide +kernel
theorem dX13_roll_55 : decode cX13_roll 55 = .ok (.getfield 150, 3) := by decide +kernel
theorem dX13_roll_58 : decode cX13_roll 58 = .ok (.aload_n 0, 1) := by decide +kernel
theorem dX13_roll_59 : decode cX13_roll 59 = .ok (.getfield 153, 3) := by decide +kernel
theorem dX13_roll_62 : decode cX13_roll 62 = .ok (.if_icmp .lt 10, 3) := by decide +kernel
theorem dX13_roll_65 : decode cX13_roll 65 = .ok (.aload_n 0, 1) := by decide +kernel
theorem dX13_roll_66 : decode cX13_roll 66 = .ok (.getfield 255, 3) := by decide +kernel
theorem dX13_roll_69 : decode cX13_roll 69 = .ok (.ifCond .le 11, 3) := by decide +kernel
theorem dX13_roll_72 : decode cX13_roll 72 = .ok (.aload_n 0, 1) := by decide +kernel
theorem dX13_roll_73 : decode cX13_roll 73 = .ok (.invokevirtual 264, 3) := by decide +kernel
theorem dX13_roll_76 : decode cX13_roll 76 = .ok (.istore_n 3, 1) := by decide +kernel
theorem dX13_roll_77 : decode cX13_roll 77 = .ok (.goto (-27), 3) := by decide +kernel
theorem dX13_roll_80 : decode cX13_roll 80 = .ok (.aload_n 0, 1) := by decide +kernel
theorem dX13_roll_81 : decode cX13_roll 81 = .ok (.iconst 0, 1) := by decide +kernel
theorem dX13_roll_82 : decode cX13_roll 82 = .ok (.putfield 144, 3) := by decide +kernel
theorem dX13_roll_85 : decode cX13_roll 85 = .ok (.iload_n 3, 1) := by decide +kernel
theorem dX13_roll_86 : decode cX13_roll 86 = .ok (.ifCond .ne 8, 3) := by decide +kernel
theorem dX13_roll_89 : decode cX13_roll 89 = .ok (.aload_n 0, 1) := by decide +kernel
theorem dX13_roll_90 : decode cX13_roll 90 = .ok (.getfield 159, 3) := by decide +kernel
theorem dX13_roll_93 : decode cX13_roll 93 = .ok (.ireturn, 1) := by decide +kernel
theorem dX13_roll_94 : decode cX13_roll 94 = .ok (.aload_n 0, 1) := by decide +kernel
theorem dX13_roll_95 : decode cX13_roll 95 = .ok (.getfield 31, 3) := by decide +kernel
theorem dX13_roll_98 : decode cX13_roll 98 = .ok (.iload_n 1, 1) := by decide +kernel
theorem dX13_roll_99 : decode cX13_roll 99 = .ok (.aload_n 0, 1) := by decide +kernel
theorem dX13_roll_100 : decode cX13_roll 100 = .ok (.getfield 252, 3) := by decide +kernel
theorem dX13_roll_103 : decode cX13_roll 103 = .ok (.iastore, 1) := by decide +kernel
theorem dX13_roll_104 : decode cX13_roll 104 = .ok (.iconst 0, 1) := by decide +kernel
theorem dX13_roll_105 : decode cX13_roll 105 = .ok (.istore 4, 2) := by decide +kernel
theorem dX13_roll_107 : decode cX13_roll 107 = .ok (.iload 4, 2) := by decide +kernel
theorem dX13_roll_109 : decode cX13_roll 109 = .ok (.aload_n 0, 1) := by decide +kernel
theorem dX13_roll_110 : decode cX13_roll 110 = .ok (.getfield 252, 3) := by decide +kernel
theorem dX13_roll_113 : decode cX13_roll 113 = .ok (.if_icmp .ge 85, 3) := by decide +kernel
theorem dX13_roll_116 : decode cX13_roll 116 = .ok (.aload_n 0, 1) := by decide +kernel
theorem dX13_roll_117 : decode cX13_roll 117 = .ok (.getfield 19, 3) := by decide +kernel
theorem dX13_roll_120 : decode cX13_roll 120 = .ok (.bipush 60, 2) := by decide +kernel
theorem dX13_roll_122 : decode cX13_roll 122 = .ok (.iload_n 1, 1) := by decide +kernel
theorem dX13_roll_123 : decode cX13_roll 123 = .ok (.imul, 1) := by decide +kernel
theorem dX13_roll_124 : decode cX13_roll 124 = .ok (.iload 4, 2) := by decide +kernel
theorem dX13_roll_126 : decode cX13_roll 126 = .ok (.iadd, 1) := by decide +kernel
theorem dX13_roll_127 : decode cX13_roll 127 = .ok (.aload_n 0, 1) := by decide +kernel
theorem dX13_roll_128 : decode cX13_roll 128 = .ok (.getfield 77, 3) := by decide +kernel
theorem dX13_roll_131 : decode cX13_roll 131 = .ok (.iload 4, 2) := by decide +kernel
theorem dX13_roll_133 : decode cX13_roll 133 = .ok (.iaload, 1) := by decide +kernel
theorem dX13_roll_134 : decode cX13_roll 134 = .ok (.iastore, 1) := by decide +kernel
theorem dX13_roll_135 : decode cX13_roll 135 = .ok (.aload_n 0, 1) := by decide +kernel
theorem dX13_roll_136 : decode cX13_roll 136 = .ok (.getfield 22, 3) := by decide +kernel
theorem dX13_roll_139 : decode cX13_roll 139 = .ok (.bipush 60, 2) := by decide +kernel
theorem dX13_roll_141 : decode cX13_roll 141 = .ok (.iload_n 1, 1) := by decide +kernel
theorem dX13_roll_142 : decode cX13_roll 142 = .ok (.imul, 1) := by decide +kernel
theorem dX13_roll_143 : decode cX13_roll 143 = .ok (.iload 4, 2) := by decide +kernel
theorem dX13_roll_145 : decode cX13_roll 145 = .ok (.iadd, 1) := by decide +kernel
theorem dX13_roll_146 : decode cX13_roll 146 = .ok (.aload_n 0, 1) := by decide +kernel
theorem dX13_roll_147 : decode cX13_roll 147 = .ok (.getfield 80, 3) := by decide +kernel
theorem dX13_roll_150 : decode cX13_roll 150 = .ok (.iload 4, 2) := by decide +kernel
theorem dX13_roll_152 : decode cX13_roll 152 = .ok (.iaload, 1) := by decide +kernel
theorem dX13_roll_153 : decode cX13_roll 153 = .ok (.iastore, 1) := by decide +kernel
theorem dX13_roll_154 : decode cX13_roll 154 = .ok (.aload_n 0, 1) := by decide +kernel
theorem dX13_roll_155 : decode cX13_roll 155 = .ok (.getfield 25, 3) := by decide +kernel
theorem dX13_roll_158 : decode cX13_roll 158 = .ok (.bipush 60, 2) := by decide +kernel
theorem dX13_roll_160 : decode cX13_roll 160 = .ok (.iload_n 1, 1) := by decide +kernel
theorem dX13_roll_161 : decode cX13_roll 161 = .ok (.imul, 1) := by decide +kernel
theorem dX13_roll_162 : decode cX13_roll 162 = .ok (.iload 4, 2) := by decide +kernel
theorem dX13_roll_164 : decode cX13_roll 164 = .ok (.iadd, 1) := by decide +kernel
theorem dX13_roll_165 : decode cX13_roll 165 = .ok (.aload_n 0, 1) := by decide +kernel
theorem dX13_roll_166 : decode cX13_roll 166 = .ok (.getfield 83, 3) := by decide +kernel
theorem dX13_roll_169 : decode cX13_roll 169 = .ok (.iload 4, 2) := by decide +kernel
theorem dX13_roll_171 : decode cX13_roll 171 = .ok (.iaload, 1) := by decide +kernel
theorem dX13_roll_172 : decode cX13_roll 172 = .ok (.iastore, 1) := by decide +kernel
theorem dX13_roll_173 : decode cX13_roll 173 = .ok (.aload_n 0, 1) := by decide +kernel
theorem dX13_roll_174 : decode cX13_roll 174 = .ok (.getfield 28, 3) := by decide +kernel
theorem dX13_roll_177 : decode cX13_roll 177 = .ok (.bipush 60, 2) := by decide +kernel
theorem dX13_roll_179 : decode cX13_roll 179 = .ok (.iload_n 1, 1) := by decide +kernel
theorem dX13_roll_180 : decode cX13_roll 180 = .ok (.imul, 1) := by decide +kernel
theorem dX13_roll_181 : decode cX13_roll 181 = .ok (.iload 4, 2) := by decide +kernel
theorem dX13_roll_183 : decode cX13_roll 183 = .ok (.iadd, 1) := by decide +kernel
theorem dX13_roll_184 : decode cX13_roll 184 = .ok (.aload_n 0, 1) := by decide +kernel
theorem dX13_roll_185 : decode cX13_roll 185 = .ok (.getfield 86, 3) := by decide +kernel
theorem dX13_roll_188 : decode cX13_roll 188 = .ok (.iload 4, 2) := by decide +kernel
theorem dX13_roll_190 : decode cX13_roll 190 = .ok (.iaload, 1) := by decide +kernel
theorem dX13_roll_191 : decode cX13_roll 191 = .ok (.iastore, 1) := by decide +kernel
theorem dX13_roll_192 : decode cX13_roll 192 = .ok (.iinc 4 1, 3) := by decide +kernel
theorem dX13_roll_195 : decode cX13_roll 195 = .ok (.goto (-88), 3) := by decide +kernel
theorem dX13_roll_198 : decode cX13_roll 198 = .ok (.aload_n 0, 1) := by decide +kernel
theorem dX13_roll_199 : decode cX13_roll 199 = .ok (.iload_n 1, 1) := by decide +kernel
theorem dX13_roll_200 : decode cX13_roll 200 = .ok (.invokevirtual 122, 3) := by decide +kernel
theorem dX13_roll_203 : decode cX13_roll 203 = .ok (.aload_n 0, 1) := by decide +kernel
theorem dX13_roll_204 : decode cX13_roll 204 = .ok (.getfield 252, 3) := by decide +kernel
theorem dX13_roll_207 : decode cX13_roll 207 = .ok (.ireturn, 1) := by decide +kernel
theorem dX13_aheadOf_0 : decode cX13_aheadOf 0 = .ok (.aload_n 0, 1) := by decide +kernel
theorem dX13_aheadOf_1 : decode cX13_aheadOf 1 = .ok (.iload_n 1, 1) := by decide +kernel
theorem dX13_aheadOf_2 : decode cX13_aheadOf 2 = .ok (.invokevirtual 267, 3) := by decide +kernel
theorem dX13_aheadOf_5 : decode cX13_aheadOf 5 = .ok (.istore_n 2, 1) := by decide +kernel
theorem dX13_aheadOf_6 : decode cX13_aheadOf 6 = .ok (.iload_n 2, 1) := by decide +kernel
theorem dX13_aheadOf_7 : decode cX13_aheadOf 7 = .ok (.ifCond .ne 5, 3) := by decide +kernel
theorem dX13_aheadOf_10 : decode cX13_aheadOf 10 = .ok (.iconst 0, 1) := by decide +kernel
theorem dX13_aheadOf_11 : decode cX13_aheadOf 11 = .ok (.ireturn, 1) := by decide +kernel
theorem dX13_aheadOf_12 : decode cX13_aheadOf 12 = .ok (.iconst 0, 1) := by decide +kernel
theorem dX13_aheadOf_13 : decode cX13_aheadOf 13 = .ok (.istore_n 3, 1) := by decide +kernel
theorem dX13_aheadOf_14 : decode cX13_aheadOf 14 = .ok (.iconst 0, 1) := by decide +kernel
theorem dX13_aheadOf_15 : decode cX13_aheadOf 15 = .ok (.istore 4, 2) := by decide +kernel
theorem dX13_aheadOf_17 : decode cX13_aheadOf 17 = .ok (.iload 4, 2) := by decide +kernel
theorem dX13_aheadOf_19 : decode cX13_aheadOf 19 = .ok (.bipush 8, 2) := by decide +kernel
theorem dX13_aheadOf_21 : decode cX13_aheadOf 21 = .ok (.if_icmp .ge 28, 3) := by decide +kernel
theorem dX13_aheadOf_24 : decode cX13_aheadOf 24 = .ok (.iload_n 2, 1) := by decide +kernel
theorem dX13_aheadOf_25 : decode cX13_aheadOf 25 = .ok (.iload 4, 2) := by decide +kernel
theorem dX13_aheadOf_27 : decode cX13_aheadOf 27 = .ok (.invokestatic 137, 3) := by decide +kernel
theorem dX13_aheadOf_30 : decode cX13_aheadOf 30 = .ok (.ifCond .eq 13, 3) := by decide +kernel
theorem dX13_aheadOf_33 : decode cX13_aheadOf 33 = .ok (.iload_n 3, 1) := by decide +kernel
theorem dX13_aheadOf_34 : decode cX13_aheadOf 34 = .ok (.aload_n 0, 1) := by decide +kernel
theorem dX13_aheadOf_35 : decode cX13_aheadOf 35 = .ok (.getfield 95, 3) := by decide +kernel
theorem dX13_aheadOf_38 : decode cX13_aheadOf 38 = .ok (.iload 4, 2) := by decide +kernel
theorem dX13_aheadOf_40 : decode cX13_aheadOf 40 = .ok (.iaload, 1) := by decide +kernel
theorem dX13_aheadOf_41 : decode cX13_aheadOf 41 = .ok (.iadd, 1) := by decide +kernel
theorem dX13_aheadOf_42 : decode cX13_aheadOf 42 = .ok (.istore_n 3, 1) := by decide +kernel
theorem dX13_aheadOf_43 : decode cX13_aheadOf 43 = .ok (.iinc 4 1, 3) := by decide +kernel
theorem dX13_aheadOf_46 : decode cX13_aheadOf 46 = .ok (.goto (-29), 3) := by decide +kernel
theorem dX13_aheadOf_49 : decode cX13_aheadOf 49 = .ok (.iload_n 3, 1) := by decide +kernel
theorem dX13_aheadOf_50 : decode cX13_aheadOf 50 = .ok (.iload_n 2, 1) := by decide +kernel
theorem dX13_aheadOf_51 : decode cX13_aheadOf 51 = .ok (.invokestatic 130, 3) := by decide +kernel
theorem dX13_aheadOf_54 : decode cX13_aheadOf 54 = .ok (.idiv, 1) := by decide +kernel
theorem dX13_aheadOf_55 : decode cX13_aheadOf 55 = .ok (.aload_n 0, 1) := by decide +kernel
theorem dX13_aheadOf_56 : decode cX13_aheadOf 56 = .ok (.getfield 95, 3) := by decide +kernel
theorem dX13_aheadOf_59 : decode cX13_aheadOf 59 = .ok (.iload_n 1, 1) := by decide +kernel
theorem dX13_aheadOf_60 : decode cX13_aheadOf 60 = .ok (.iaload, 1) := by decide +kernel
theorem dX13_aheadOf_61 : decode cX13_aheadOf 61 = .ok (.isub, 1) := by decide +kernel
theorem dX13_aheadOf_62 : decode cX13_aheadOf 62 = .ok (.ireturn, 1) := by decide +kernel
theorem dX13_noteNow_0 : decode cX13_noteNow 0 = .ok (.aload_n 0, 1) := by decide +kernel
theorem dX13_noteNow_1 : decode cX13_noteNow 1 = .ok (.iload_n 1, 1) := by decide +kernel
theorem dX13_noteNow_2 : decode cX13_noteNow 2 = .ok (.invokevirtual 270, 3) := by decide +kernel
theorem dX13_noteNow_5 : decode cX13_noteNow 5 = .ok (.ifCond .eq 7, 3) := by decide +kernel
theorem dX13_noteNow_8 : decode cX13_noteNow 8 = .ok (.iconst 0, 1) := by decide +kernel
theorem dX13_noteNow_9 : decode cX13_noteNow 9 = .ok (.goto 22, 3) := by decide +kernel
theorem dX13_noteNow_12 : decode cX13_noteNow 12 = .ok (.aload_n 0, 1) := by decide +kernel
theorem dX13_noteNow_13 : decode cX13_noteNow 13 = .ok (.getfield 19, 3) := by decide +kernel
theorem dX13_noteNow_16 : decode cX13_noteNow 16 = .ok (.bipush 60, 2) := by decide +kernel
theorem dX13_noteNow_18 : decode cX13_noteNow 18 = .ok (.iload_n 1, 1) := by decide +kernel
theorem dX13_noteNow_19 : decode cX13_noteNow 19 = .ok (.imul, 1) := by decide +kernel
theorem dX13_noteNow_20 : decode cX13_noteNow 20 = .ok (.aload_n 0, 1) := by decide +kernel
theorem dX13_noteNow_21 : decode cX13_noteNow 21 = .ok (.getfield 7, 3) := by decide +kernel
theorem dX13_noteNow_24 : decode cX13_noteNow 24 = .ok (.bipush 40, 2) := by decide +kernel
theorem dX13_noteNow_26 : decode cX13_noteNow 26 = .ok (.iload_n 1, 1) := by decide +kernel
theorem dX13_noteNow_27 : decode cX13_noteNow 27 = .ok (.iadd, 1) := by decide +kernel
theorem dX13_noteNow_28 : decode cX13_noteNow 28 = .ok (.iaload, 1) := by decide +kernel
theorem dX13_noteNow_29 : decode cX13_noteNow 29 = .ok (.iadd, 1) := by decide +kernel
theorem dX13_noteNow_30 : decode cX13_noteNow 30 = .ok (.iaload, 1) := by decide +kernel
theorem dX13_noteNow_31 : decode cX13_noteNow 31 = .ok (.ireturn, 1) := by decide +kernel
theorem dX13_feels_0 : decode cX13_feels 0 = .ok (.aload_n 0, 1) := by decide +kernel
theorem dX13_feels_1 : decode cX13_feels 1 = .ok (.getfield 74, 3) := by decide +kernel
theorem dX13_feels_4 : decode cX13_feels 4 = .ok (.iconst 0, 1) := by decide +kernel
theorem dX13_feels_5 : decode cX13_feels 5 = .ok (.iload_n 1, 1) := by decide +kernel
theorem dX13_feels_6 : decode cX13_feels 6 = .ok (.iastore, 1) := by decide +kernel
theorem dX13_feels_7 : decode cX13_feels 7 = .ok (.aload_n 0, 1) := by decide +kernel
theorem dX13_feels_8 : decode cX13_feels 8 = .ok (.getfield 74, 3) := by decide +kernel
theorem dX13_feels_11 : decode cX13_feels 11 = .ok (.iconst 1, 1) := by decide +kernel
theorem dX13_feels_12 : decode cX13_feels 12 = .ok (.aload_n 0, 1) := by decide +kernel
theorem dX13_feels_13 : decode cX13_feels 13 = .ok (.getfield 7, 3) := by decide +kernel
theorem dX13_feels_16 : decode cX13_feels 16 = .ok (.bipush 8, 2) := by decide +kernel
theorem dX13_feels_18 : decode cX13_feels 18 = .ok (.iload_n 1, 1) := by decide +kernel
theorem dX13_feels_19 : decode cX13_feels 19 = .ok (.iadd, 1) := by decide +kernel
theorem dX13_feels_20 : decode cX13_feels 20 = .ok (.iaload, 1) := by decide +kernel
theorem dX13_feels_21 : decode cX13_feels 21 = .ok (.iastore, 1) := by decide +kernel
theorem dX13_feels_22 : decode cX13_feels 22 = .ok (.aload_n 0, 1) := by decide +kernel
theorem dX13_feels_23 : decode cX13_feels 23 = .ok (.getfield 74, 3) := by decide +kernel
theorem dX13_feels_26 : decode cX13_feels 26 = .ok (.iconst 2, 1) := by decide +kernel
theorem dX13_feels_27 : decode cX13_feels 27 = .ok (.aload_n 0, 1) := by decide +kernel
theorem dX13_feels_28 : decode cX13_feels 28 = .ok (.getfield 95, 3) := by decide +kernel
theorem dX13_feels_31 : decode cX13_feels 31 = .ok (.iload_n 1, 1) := by decide +kernel
theorem dX13_feels_32 : decode cX13_feels 32 = .ok (.iaload, 1) := by decide +kernel
theorem dX13_feels_33 : decode cX13_feels 33 = .ok (.iastore, 1) := by decide +kernel
theorem dX13_feels_34 : decode cX13_feels 34 = .ok (.aload_n 0, 1) := by decide +kernel
theorem dX13_feels_35 : decode cX13_feels 35 = .ok (.getfield 74, 3) := by decide +kernel
theorem dX13_feels_38 : decode cX13_feels 38 = .ok (.iconst 3, 1) := by decide +kernel
theorem dX13_feels_39 : decode cX13_feels 39 = .ok (.aload_n 0, 1) := by decide +kernel
theorem dX13_feels_40 : decode cX13_feels 40 = .ok (.iload_n 1, 1) := by decide +kernel
theorem dX13_feels_41 : decode cX13_feels 41 = .ok (.invokevirtual 273, 3) := by decide +kernel
theorem dX13_feels_44 : decode cX13_feels 44 = .ok (.iastore, 1) := by decide +kernel
theorem dX13_feels_45 : decode cX13_feels 45 = .ok (.aload_n 0, 1) := by decide +kernel
theorem dX13_feels_46 : decode cX13_feels 46 = .ok (.getfield 74, 3) := by decide +kernel
theorem dX13_feels_49 : decode cX13_feels 49 = .ok (.iconst 4, 1) := by decide +kernel
theorem dX13_feels_50 : decode cX13_feels 50 = .ok (.aload_n 0, 1) := by decide +kernel
theorem dX13_feels_51 : decode cX13_feels 51 = .ok (.iload_n 1, 1) := by decide +kernel
theorem dX13_feels_52 : decode cX13_feels 52 = .ok (.invokevirtual 267, 3) := by decide +kernel
theorem dX13_feels_55 : decode cX13_feels 55 = .ok (.invokestatic 130, 3) := by decide +kernel
theorem dX13_feels_58 : decode cX13_feels 58 = .ok (.iastore, 1) := by decide +kernel
theorem dX13_feels_59 : decode cX13_feels 59 = .ok (.aload_n 0, 1) := by decide +kernel
theorem dX13_feels_60 : decode cX13_feels 60 = .ok (.getfield 74, 3) := by decide +kernel
theorem dX13_feels_63 : decode cX13_feels 63 = .ok (.iconst 5, 1) := by decide +kernel
theorem dX13_feels_64 : decode cX13_feels 64 = .ok (.aload_n 0, 1) := by decide +kernel
theorem dX13_feels_65 : decode cX13_feels 65 = .ok (.getfield 7, 3) := by decide +kernel
theorem dX13_feels_68 : decode cX13_feels 68 = .ok (.bipush 56, 2) := by decide +kernel
theorem dX13_feels_70 : decode cX13_feels 70 = .ok (.iload_n 1, 1) := by decide +kernel
theorem dX13_feels_71 : decode cX13_feels 71 = .ok (.iadd, 1) := by decide +kernel
theorem dX13_feels_72 : decode cX13_feels 72 = .ok (.iaload, 1) := by decide +kernel
theorem dX13_feels_73 : decode cX13_feels 73 = .ok (.iastore, 1) := by decide +kernel
theorem dX13_feels_74 : decode cX13_feels 74 = .ok (.aload_n 0, 1) := by decide +kernel
theorem dX13_feels_75 : decode cX13_feels 75 = .ok (.getfield 74, 3) := by decide +kernel
theorem dX13_feels_78 : decode cX13_feels 78 = .ok (.bipush 6, 2) := by decide +kernel
theorem dX13_feels_80 : decode cX13_feels 80 = .ok (.aload_n 0, 1) := by decide +kernel
theorem dX13_feels_81 : decode cX13_feels 81 = .ok (.iload_n 1, 1) := by decide +kernel
theorem dX13_feels_82 : decode cX13_feels 82 = .ok (.invokevirtual 276, 3) := by decide +kernel
theorem dX13_feels_85 : decode cX13_feels 85 = .ok (.iastore, 1) := by decide +kernel
theorem dX13_feels_86 : decode cX13_feels 86 = .ok (.aload_n 0, 1) := by decide +kernel
theorem dX13_feels_87 : decode cX13_feels 87 = .ok (.getfield 74, 3) := by decide +kernel
theorem dX13_feels_90 : decode cX13_feels 90 = .ok (.bipush 7, 2) := by decide +kernel
theorem dX13_feels_92 : decode cX13_feels 92 = .ok (.aload_n 0, 1) := by decide +kernel
theorem dX13_feels_93 : decode cX13_feels 93 = .ok (.getfield 7, 3) := by decide +kernel
theorem dX13_feels_96 : decode cX13_feels 96 = .ok (.bipush 80, 2) := by decide +kernel
theorem dX13_feels_98 : decode cX13_feels 98 = .ok (.iaload, 1) := by decide +kernel
theorem dX13_feels_99 : decode cX13_feels 99 = .ok (.bipush 100, 2) := by decide +kernel
theorem dX13_feels_101 : decode cX13_feels 101 = .ok (.irem, 1) := by decide +kernel
theorem dX13_feels_102 : decode cX13_feels 102 = .ok (.iastore, 1) := by decide +kernel
theorem dX13_feels_103 : decode cX13_feels 103 = .ok (.return_, 1) := by decide +kernel
theorem dX13_allCame_0 : decode cX13_allCame 0 = .ok (.aload_n 0, 1) := by decide +kernel
theorem dX13_allCame_1 : decode cX13_allCame 1 = .ok (.iload_n 1, 1) := by decide +kernel
theorem dX13_allCame_2 : decode cX13_allCame 2 = .ok (.aload_n 0, 1) := by decide +kernel
theorem dX13_allCame_3 : decode cX13_allCame 3 = .ok (.getfield 95, 3) := by decide +kernel
theorem dX13_allCame_6 : decode cX13_allCame 6 = .ok (.iload_n 1, 1) := by decide +kernel
theorem dX13_allCame_7 : decode cX13_allCame 7 = .ok (.iaload, 1) := by decide +kernel
theorem dX13_allCame_8 : decode cX13_allCame 8 = .ok (.invokevirtual 279, 3) := by decide +kernel
theorem dX13_allCame_11 : decode cX13_allCame 11 = .ok (.istore_n 2, 1) := by decide +kernel
theorem dX13_allCame_12 : decode cX13_allCame 12 = .ok (.iconst 0, 1) := by decide +kernel
theorem dX13_allCame_13 : decode cX13_allCame 13 = .ok (.istore_n 3, 1) := by decide +kernel
theorem dX13_allCame_14 : decode cX13_allCame 14 = .ok (.iload_n 3, 1) := by decide +kernel
theorem dX13_allCame_15 : decode cX13_allCame 15 = .ok (.bipush 8, 2) := by decide +kernel
theorem dX13_allCame_17 : decode cX13_allCame 17 = .ok (.if_icmp .ge 61, 3) := by decide +kernel
theorem dX13_allCame_20 : decode cX13_allCame 20 = .ok (.aload_n 0, 1) := by decide +kernel
theorem dX13_allCame_21 : decode cX13_allCame 21 = .ok (.iload_n 3, 1) := by decide +kernel
theorem dX13_allCame_22 : decode cX13_allCame 22 = .ok (.invokevirtual 118, 3) := by decide +kernel
theorem dX13_allCame_25 : decode cX13_allCame 25 = .ok (.ifCond .eq 47, 3) := by decide +kernel
theorem dX13_allCame_28 : decode cX13_allCame 28 = .ok (.aload_n 0, 1) := by decide +kernel
theorem dX13_allCame_29 : decode cX13_allCame 29 = .ok (.iload_n 3, 1) := by decide +kernel
theorem dX13_allCame_30 : decode cX13_allCame 30 = .ok (.aload_n 0, 1) := by decide +kernel
theorem dX13_allCame_31 : decode cX13_allCame 31 = .ok (.getfield 31, 3) := by decide +kernel
theorem dX13_allCame_34 : decode cX13_allCame 34 = .ok (.iload_n 3, 1) := by decide +kernel
theorem dX13_allCame_35 : decode cX13_allCame 35 = .ok (.iaload, 1) := by decide +kernel
theorem dX13_allCame_36 : decode cX13_allCame 36 = .ok (.invokevirtual 279, 3) := by decide +kernel
theorem dX13_allCame_39 : decode cX13_allCame 39 = .ok (.iload_n 2, 1) := by decide +kernel
theorem dX13_allCame_40 : decode cX13_allCame 40 = .ok (.if_icmp .ge 6, 3) := by decide +kernel
theorem dX13_allCame_43 : decode cX13_allCame 43 = .ok (.goto 29, 3) := by decide +kernel
theorem dX13_allCame_46 : decode cX13_allCame 46 = .ok (.aload_n 0, 1) := by decide +kernel
theorem dX13_allCame_47 : decode cX13_allCame 47 = .ok (.iload_n 3, 1) := by decide +kernel
theorem dX13_allCame_48 : decode cX13_allCame 48 = .ok (.aload_n 0, 1) := by decide +kernel
theorem dX13_allCame_49 : decode cX13_allCame 49 = .ok (.getfield 95, 3) := by decide +kernel
theorem dX13_allCame_52 : decode cX13_allCame 52 = .ok (.iload_n 3, 1) := by decide +kernel
theorem dX13_allCame_53 : decode cX13_allCame 53 = .ok (.iaload, 1) := by decide +kernel
theorem dX13_allCame_54 : decode cX13_allCame 54 = .ok (.aload_n 0, 1) := by decide +kernel
theorem dX13_allCame_55 : decode cX13_allCame 55 = .ok (.getfield 31, 3) := by decide +kernel
theorem dX13_allCame_58 : decode cX13_allCame 58 = .ok (.iload_n 3, 1) := by decide +kernel
theorem dX13_allCame_59 : decode cX13_allCame 59 = .ok (.iaload, 1) := by decide +kernel
theorem dX13_allCame_60 : decode cX13_allCame 60 = .ok (.invokestatic 282, 3) := by decide +kernel
theorem dX13_allCame_63 : decode cX13_allCame 63 = .ok (.invokevirtual 279, 3) := by decide +kernel
theorem dX13_allCame_66 : decode cX13_allCame 66 = .ok (.iload_n 2, 1) := by decide +kernel
theorem dX13_allCame_67 : decode cX13_allCame 67 = .ok (.if_icmp .ge 5, 3) := by decide +kernel
theorem dX13_allCame_70 : decode cX13_allCame 70 = .ok (.iconst 0, 1) := by decide +kernel
theorem dX13_allCame_71 : decode cX13_allCame 71 = .ok (.ireturn, 1) := by decide +kernel
theorem dX13_allCame_72 : decode cX13_allCame 72 = .ok (.iinc 3 1, 3) := by decide +kernel
theorem dX13_allCame_75 : decode cX13_allCame 75 = .ok (.goto (-61), 3) := by decide +kernel
theorem dX13_allCame_78 : decode cX13_allCame 78 = .ok (.iconst 1, 1) := by decide +kernel
theorem dX13_allCame_79 : decode cX13_allCame 79 = .ok (.ireturn, 1) := by decide +kernel
theorem dX13_sings_0 : decode cX13_sings 0 = .ok (.bipush 60, 2) := by decide +kernel
theorem dX13_sings_2 : decode cX13_sings 2 = .ok (.iload_n 1, 1) := by decide +kernel
theorem dX13_sings_3 : decode cX13_sings 3 = .ok (.imul, 1) := by decide +kernel
theorem dX13_sings_4 : decode cX13_sings 4 = .ok (.aload_n 0, 1) := by decide +kernel
theorem dX13_sings_5 : decode cX13_sings 5 = .ok (.getfield 7, 3) := by decide +kernel
theorem dX13_sings_8 : decode cX13_sings 8 = .ok (.bipush 40, 2) := by decide +kernel
theorem dX13_sings_10 : decode cX13_sings 10 = .ok (.iload_n 1, 1) := by decide +kernel
theorem dX13_sings_11 : decode cX13_sings 11 = .ok (.iadd, 1) := by decide +kernel
theorem dX13_sings_12 : decode cX13_sings 12 = .ok (.iaload, 1) := by decide +kernel
theorem dX13_sings_13 : decode cX13_sings 13 = .ok (.iadd, 1) := by decide +kernel
theorem dX13_sings_14 : decode cX13_sings 14 = .ok (.istore_n 2, 1) := by decide +kernel
theorem dX13_sings_15 : decode cX13_sings 15 = .ok (.aload_n 0, 1) := by decide +kernel
theorem dX13_sings_16 : decode cX13_sings 16 = .ok (.aload_n 0, 1) := by decide +kernel
theorem dX13_sings_17 : decode cX13_sings 17 = .ok (.getfield 285, 3) := by decide +kernel
theorem dX13_sings_20 : decode cX13_sings 20 = .ok (.iconst 1, 1) := by decide +kernel
theorem dX13_sings_21 : decode cX13_sings 21 = .ok (.iadd, 1) := by decide +kernel
theorem dX13_sings_22 : decode cX13_sings 22 = .ok (.putfield 285, 3) := by decide +kernel
theorem dX13_sings_25 : decode cX13_sings 25 = .ok (.aload_n 0, 1) := by decide +kernel
theorem dX13_sings_26 : decode cX13_sings 26 = .ok (.getfield 19, 3) := by decide +kernel
theorem dX13_sings_29 : decode cX13_sings 29 = .ok (.iload_n 2, 1) := by decide +kernel
theorem dX13_sings_30 : decode cX13_sings 30 = .ok (.iaload, 1) := by decide +kernel
theorem dX13_sings_31 : decode cX13_sings 31 = .ok (.ifCond .le 48, 3) := by decide +kernel
theorem dX13_sings_34 : decode cX13_sings 34 = .ok (.aload_n 0, 1) := by decide +kernel
