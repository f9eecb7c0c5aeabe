theorem dX13_sings_35 : decode cX13_sings 35 = .ok (.getfield 7, 3) := by decide +kernel
theorem dX13_sings_38 : decode cX13_sings 38 = .ok (.bipush 56, 2) := by decide +kernel
theorem dX13_sings_40 : decode cX13_sings 40 = .ok (.iload_n 1, 1) := by decide +kernel
theorem dX13_sings_41 : decode cX13_sings 41 = .ok (.iadd, 1) := by decide +kernel
theorem dX13_sings_42 : decode cX13_sings 42 = .ok (.iaload, 1) := by decide +kernel
theorem dX13_sings_43 : decode cX13_sings 43 = .ok (.ifCond .ne 36, 3) := by decide +kernel
theorem dX13_sings_46 : decode cX13_sings 46 = .ok (.aload_n 0, 1) := by decide +kernel
theorem dX13_sings_47 : decode cX13_sings 47 = .ok (.getfield 7, 3) := by decide +kernel
theorem dX13_sings_50 : decode cX13_sings 50 = .ok (.bipush 64, 2) := by decide +kernel
theorem dX13_sings_52 : decode cX13_sings 52 = .ok (.iload_n 1, 1) := by decide +kernel
theorem dX13_sings_53 : decode cX13_sings 53 = .ok (.iadd, 1) := by decide +kernel
theorem dX13_sings_54 : decode cX13_sings 54 = .ok (.aload_n 0, 1) := by decide +kernel
theorem dX13_sings_55 : decode cX13_sings 55 = .ok (.getfield 7, 3) := by decide +kernel
theorem dX13_sings_58 : decode cX13_sings 58 = .ok (.bipush 64, 2) := by decide +kernel
theorem dX13_sings_60 : decode cX13_sings 60 = .ok (.iload_n 1, 1) := by decide +kernel
theorem dX13_sings_61 : decode cX13_sings 61 = .ok (.iadd, 1) := by decide +kernel
theorem dX13_sings_62 : decode cX13_sings 62 = .ok (.iaload, 1) := by decide +kernel
theorem dX13_sings_63 : decode cX13_sings 63 = .ok (.iconst 1, 1) := by decide +kernel
theorem dX13_sings_64 : decode cX13_sings 64 = .ok (.iadd, 1) := by decide +kernel
theorem dX13_sings_65 : decode cX13_sings 65 = .ok (.iastore, 1) := by decide +kernel
theorem dX13_sings_66 : decode cX13_sings 66 = .ok (.aload_n 0, 1) := by decide +kernel
theorem dX13_sings_67 : decode cX13_sings 67 = .ok (.aload_n 0, 1) := by decide +kernel
theorem dX13_sings_68 : decode cX13_sings 68 = .ok (.getfield 288, 3) := by decide +kernel
theorem dX13_sings_71 : decode cX13_sings 71 = .ok (.iconst 1, 1) := by decide +kernel
theorem dX13_sings_72 : decode cX13_sings 72 = .ok (.iadd, 1) := by decide +kernel
theorem dX13_sings_73 : decode cX13_sings 73 = .ok (.putfield 288, 3) := by decide +kernel
theorem dX13_sings_76 : decode cX13_sings 76 = .ok (.goto 71, 3) := by decide +kernel
theorem dX13_sings_79 : decode cX13_sings 79 = .ok (.aload_n 0, 1) := by decide +kernel
theorem dX13_sings_80 : decode cX13_sings 80 = .ok (.getfield 19, 3) := by decide +kernel
theorem dX13_sings_83 : decode cX13_sings 83 = .ok (.iload_n 2, 1) := by decide +kernel
theorem dX13_sings_84 : decode cX13_sings 84 = .ok (.iaload, 1) := by decide +kernel
theorem dX13_sings_85 : decode cX13_sings 85 = .ok (.ifCond .le 62, 3) := by decide +kernel
theorem dX13_sings_88 : decode cX13_sings 88 = .ok (.aload_n 0, 1) := by decide +kernel
theorem dX13_sings_89 : decode cX13_sings 89 = .ok (.getfield 74, 3) := by decide +kernel
theorem dX13_sings_92 : decode cX13_sings 92 = .ok (.iconst 5, 1) := by decide +kernel
theorem dX13_sings_93 : decode cX13_sings 93 = .ok (.aload_n 0, 1) := by decide +kernel
theorem dX13_sings_94 : decode cX13_sings 94 = .ok (.getfield 7, 3) := by decide +kernel
theorem dX13_sings_97 : decode cX13_sings 97 = .ok (.bipush 56, 2) := by decide +kernel
theorem dX13_sings_99 : decode cX13_sings 99 = .ok (.iload_n 1, 1) := by decide +kernel
theorem dX13_sings_100 : decode cX13_sings 100 = .ok (.iadd, 1) := by decide +kernel
theorem dX13_sings_101 : decode cX13_sings 101 = .ok (.iaload, 1) := by decide +kernel
theorem dX13_sings_102 : decode cX13_sings 102 = .ok (.iastore, 1) := by decide +kernel
theorem dX13_sings_103 : decode cX13_sings 103 = .ok (.aload_n 0, 1) := by decide +kernel
theorem dX13_sings_104 : decode cX13_sings 104 = .ok (.getfield 74, 3) := by decide +kernel
theorem dX13_sings_107 : decode cX13_sings 107 = .ok (.bipush 6, 2) := by decide +kernel
theorem dX13_sings_109 : decode cX13_sings 109 = .ok (.aload_n 0, 1) := by decide +kernel
theorem dX13_sings_110 : decode cX13_sings 110 = .ok (.getfield 19, 3) := by decide +kernel
theorem dX13_sings_113 : decode cX13_sings 113 = .ok (.iload_n 2, 1) := by decide +kernel
theorem dX13_sings_114 : decode cX13_sings 114 = .ok (.iaload, 1) := by decide +kernel
theorem dX13_sings_115 : decode cX13_sings 115 = .ok (.iastore, 1) := by decide +kernel
theorem dX13_sings_116 : decode cX13_sings 116 = .ok (.aload_n 0, 1) := by decide +kernel
theorem dX13_sings_117 : decode cX13_sings 117 = .ok (.getfield 7, 3) := by decide +kernel
theorem dX13_sings_120 : decode cX13_sings 120 = .ok (.bipush 56, 2) := by decide +kernel
theorem dX13_sings_122 : decode cX13_sings 122 = .ok (.iload_n 1, 1) := by decide +kernel
theorem dX13_sings_123 : decode cX13_sings 123 = .ok (.iadd, 1) := by decide +kernel
theorem dX13_sings_124 : decode cX13_sings 124 = .ok (.iconst 0, 1) := by decide +kernel
theorem dX13_sings_125 : decode cX13_sings 125 = .ok (.aload_n 0, 1) := by decide +kernel
theorem dX13_sings_126 : decode cX13_sings 126 = .ok (.getfield 7, 3) := by decide +kernel
theorem dX13_sings_129 : decode cX13_sings 129 = .ok (.bipush 56, 2) := by decide +kernel
theorem dX13_sings_131 : decode cX13_sings 131 = .ok (.iload_n 1, 1) := by decide +kernel
theorem dX13_sings_132 : decode cX13_sings 132 = .ok (.iadd, 1) := by decide +kernel
theorem dX13_sings_133 : decode cX13_sings 133 = .ok (.iaload, 1) := by decide +kernel
theorem dX13_sings_134 : decode cX13_sings 134 = .ok (.aload_n 0, 1) := by decide +kernel
theorem dX13_sings_135 : decode cX13_sings 135 = .ok (.bipush 98, 2) := by decide +kernel
theorem dX13_sings_137 : decode cX13_sings 137 = .ok (.bipush 20, 2) := by decide +kernel
theorem dX13_sings_139 : decode cX13_sings 139 = .ok (.invokevirtual 291, 3) := by decide +kernel
theorem dX13_sings_142 : decode cX13_sings 142 = .ok (.isub, 1) := by decide +kernel
theorem dX13_sings_143 : decode cX13_sings 143 = .ok (.invokestatic 294, 3) := by decide +kernel
theorem dX13_sings_146 : decode cX13_sings 146 = .ok (.iastore, 1) := by decide +kernel
theorem dX13_sings_147 : decode cX13_sings 147 = .ok (.aload_n 0, 1) := by decide +kernel
theorem dX13_sings_148 : decode cX13_sings 148 = .ok (.getfield 7, 3) := by decide +kernel
theorem dX13_sings_151 : decode cX13_sings 151 = .ok (.bipush 40, 2) := by decide +kernel
theorem dX13_sings_153 : decode cX13_sings 153 = .ok (.iload_n 1, 1) := by decide +kernel
theorem dX13_sings_154 : decode cX13_sings 154 = .ok (.iadd, 1) := by decide +kernel
theorem dX13_sings_155 : decode cX13_sings 155 = .ok (.aload_n 0, 1) := by decide +kernel
theorem dX13_sings_156 : decode cX13_sings 156 = .ok (.getfield 7, 3) := by decide +kernel
theorem dX13_sings_159 : decode cX13_sings 159 = .ok (.bipush 40, 2) := by decide +kernel
theorem dX13_sings_161 : decode cX13_sings 161 = .ok (.iload_n 1, 1) := by decide +kernel
theorem dX13_sings_162 : decode cX13_sings 162 = .ok (.iadd, 1) := by decide +kernel
theorem dX13_sings_163 : decode cX13_sings 163 = .ok (.iaload, 1) := by decide +kernel
theorem dX13_sings_164 : decode cX13_sings 164 = .ok (.iconst 1, 1) := by decide +kernel
theorem dX13_sings_165 : decode cX13_sings 165 = .ok (.iadd, 1) := by decide +kernel
theorem dX13_sings_166 : decode cX13_sings 166 = .ok (.iastore, 1) := by decide +kernel
theorem dX13_sings_167 : decode cX13_sings 167 = .ok (.aload_n 0, 1) := by decide +kernel
theorem dX13_sings_168 : decode cX13_sings 168 = .ok (.getfield 25, 3) := by decide +kernel
theorem dX13_sings_171 : decode cX13_sings 171 = .ok (.iload_n 2, 1) := by decide +kernel
theorem dX13_sings_172 : decode cX13_sings 172 = .ok (.iaload, 1) := by decide +kernel
theorem dX13_sings_173 : decode cX13_sings 173 = .ok (.iconst 1, 1) := by decide +kernel
theorem dX13_sings_174 : decode cX13_sings 174 = .ok (.if_icmp .ne 21, 3) := by decide +kernel
theorem dX13_sings_177 : decode cX13_sings 177 = .ok (.aload_n 0, 1) := by decide +kernel
theorem dX13_sings_178 : decode cX13_sings 178 = .ok (.getfield 7, 3) := by decide +kernel
theorem dX13_sings_181 : decode cX13_sings 181 = .ok (.bipush 56, 2) := by decide +kernel
theorem dX13_sings_183 : decode cX13_sings 183 = .ok (.iload_n 1, 1) := by decide +kernel
theorem dX13_sings_184 : decode cX13_sings 184 = .ok (.iadd, 1) := by decide +kernel
theorem dX13_sings_185 : decode cX13_sings 185 = .ok (.aload_n 0, 1) := by decide +kernel
theorem dX13_sings_186 : decode cX13_sings 186 = .ok (.getfield 7, 3) := by decide +kernel
theorem dX13_sings_189 : decode cX13_sings 189 = .ok (.bipush 32, 2) := by decide +kernel
theorem dX13_sings_191 : decode cX13_sings 191 = .ok (.iload_n 1, 1) := by decide +kernel
theorem dX13_sings_192 : decode cX13_sings 192 = .ok (.iadd, 1) := by decide +kernel
theorem dX13_sings_193 : decode cX13_sings 193 = .ok (.iaload, 1) := by decide +kernel
theorem dX13_sings_194 : decode cX13_sings 194 = .ok (.iastore, 1) := by decide +kernel
theorem dX13_sings_195 : decode cX13_sings 195 = .ok (.aload_n 0, 1) := by decide +kernel
theorem dX13_sings_196 : decode cX13_sings 196 = .ok (.iload_n 1, 1) := by decide +kernel
theorem dX13_sings_197 : decode cX13_sings 197 = .ok (.invokevirtual 270, 3) := by decide +kernel
theorem dX13_sings_200 : decode cX13_sings 200 = .ok (.ifCond .eq 29, 3) := by decide +kernel
theorem dX13_sings_203 : decode cX13_sings 203 = .ok (.aload_n 0, 1) := by decide +kernel
theorem dX13_sings_204 : decode cX13_sings 204 = .ok (.getfield 7, 3) := by decide +kernel
theorem dX13_sings_207 : decode cX13_sings 207 = .ok (.bipush 48, 2) := by decide +kernel
theorem dX13_sings_209 : decode cX13_sings 209 = .ok (.iload_n 1, 1) := by decide +kernel
theorem dX13_sings_210 : decode cX13_sings 210 = .ok (.iadd, 1) := by decide +kernel
theorem dX13_sings_211 : decode cX13_sings 211 = .ok (.iconst 0, 1) := by decide +kernel
theorem dX13_sings_212 : decode cX13_sings 212 = .ok (.iastore, 1) := by decide +kernel
theorem dX13_sings_213 : decode cX13_sings 213 = .ok (.aload_n 0, 1) := by decide +kernel
theorem dX13_sings_214 : decode cX13_sings 214 = .ok (.iload_n 1, 1) := by decide +kernel
theorem dX13_sings_215 : decode cX13_sings 215 = .ok (.putfield 297, 3) := by decide +kernel
theorem dX13_sings_218 : decode cX13_sings 218 = .ok (.aload_n 0, 1) := by decide +kernel
theorem dX13_sings_219 : decode cX13_sings 219 = .ok (.aload_n 0, 1) := by decide +kernel
theorem dX13_sings_220 : decode cX13_sings 220 = .ok (.getfield 300, 3) := by decide +kernel
theorem dX13_sings_223 : decode cX13_sings 223 = .ok (.putfield 303, 3) := by decide +kernel
theorem dX13_sings_226 : decode cX13_sings 226 = .ok (.goto 55, 3) := by decide +kernel
theorem dX13_sings_229 : decode cX13_sings 229 = .ok (.aload_n 0, 1) := by decide +kernel
theorem dX13_sings_230 : decode cX13_sings 230 = .ok (.getfield 22, 3) := by decide +kernel
theorem dX13_sings_233 : decode cX13_sings 233 = .ok (.iload_n 2, 1) := by decide +kernel
theorem dX13_sings_234 : decode cX13_sings 234 = .ok (.iaload, 1) := by decide +kernel
theorem dX13_sings_235 : decode cX13_sings 235 = .ok (.iconst 1, 1) := by decide +kernel
theorem dX13_sings_236 : decode cX13_sings 236 = .ok (.if_icmp .ne 45, 3) := by decide +kernel
theorem dX13_sings_239 : decode cX13_sings 239 = .ok (.aload_n 0, 1) := by decide +kernel
theorem dX13_sings_240 : decode cX13_sings 240 = .ok (.getfield 7, 3) := by decide +kernel
theorem dX13_sings_243 : decode cX13_sings 243 = .ok (.bipush 48, 2) := by decide +kernel
theorem dX13_sings_245 : decode cX13_sings 245 = .ok (.iload_n 1, 1) := by decide +kernel
theorem dX13_sings_246 : decode cX13_sings 246 = .ok (.iadd, 1) := by decide +kernel
theorem dX13_sings_247 : decode cX13_sings 247 = .ok (.iconst 0, 1) := by decide +kernel
theorem dX13_sings_248 : decode cX13_sings 248 = .ok (.iastore, 1) := by decide +kernel
theorem dX13_sings_249 : decode cX13_sings 249 = .ok (.aload_n 0, 1) := by decide +kernel
theorem dX13_sings_250 : decode cX13_sings 250 = .ok (.getfield 7, 3) := by decide +kernel
theorem dX13_sings_253 : decode cX13_sings 253 = .ok (.bipush 72, 2) := by decide +kernel
theorem dX13_sings_255 : decode cX13_sings 255 = .ok (.iload_n 1, 1) := by decide +kernel
theorem dX13_sings_256 : decode cX13_sings 256 = .ok (.iadd, 1) := by decide +kernel
theorem dX13_sings_257 : decode cX13_sings 257 = .ok (.iconst 1, 1) := by decide +kernel
theorem dX13_sings_258 : decode cX13_sings 258 = .ok (.iastore, 1) := by decide +kernel
theorem dX13_sings_259 : decode cX13_sings 259 = .ok (.aload_n 0, 1) := by decide +kernel
theorem dX13_sings_260 : decode cX13_sings 260 = .ok (.getfield 306, 3) := by decide +kernel
theorem dX13_sings_263 : decode cX13_sings 263 = .ok (.iconst (-1), 1) := by decide +kernel
theorem dX13_sings_264 : decode cX13_sings 264 = .ok (.if_icmp .eq 4, 3) := by decide +kernel
theorem dX13_sings_267 : decode cX13_sings 267 = .ok (.return_, 1) := by decide +kernel
theorem dX13_sings_268 : decode cX13_sings 268 = .ok (.aload_n 0, 1) := by decide +kernel
theorem dX13_sings_269 : decode cX13_sings 269 = .ok (.iload_n 1, 1) := by decide +kernel
theorem dX13_sings_270 : decode cX13_sings 270 = .ok (.putfield 306, 3) := by decide +kernel
theorem dX13_sings_273 : decode cX13_sings 273 = .ok (.aload_n 0, 1) := by decide +kernel
theorem dX13_sings_274 : decode cX13_sings 274 = .ok (.aload_n 0, 1) := by decide +kernel
theorem dX13_sings_275 : decode cX13_sings 275 = .ok (.getfield 300, 3) := by decide +kernel
theorem dX13_sings_278 : decode cX13_sings 278 = .ok (.putfield 309, 3) := by decide +kernel
theorem dX13_sings_281 : decode cX13_sings 281 = .ok (.return_, 1) := by decide +kernel
theorem dX13_turnOf_0 : decode cX13_turnOf 0 = .ok (.aload_n 0, 1) := by decide +kernel
theorem dX13_turnOf_1 : decode cX13_turnOf 1 = .ok (.getfield 7, 3) := by decide +kernel
theorem dX13_turnOf_4 : decode cX13_turnOf 4 = .ok (.bipush 72, 2) := by decide +kernel
theorem dX13_turnOf_6 : decode cX13_turnOf 6 = .ok (.iload_n 1, 1) := by decide +kernel
theorem dX13_turnOf_7 : decode cX13_turnOf 7 = .ok (.iadd, 1) := by decide +kernel
theorem dX13_turnOf_8 : decode cX13_turnOf 8 = .ok (.iaload, 1) := by decide +kernel
theorem dX13_turnOf_9 : decode cX13_turnOf 9 = .ok (.iconst 1, 1) := by decide +kernel
theorem dX13_turnOf_10 : decode cX13_turnOf 10 = .ok (.if_icmp .ne 22, 3) := by decide +kernel
theorem dX13_turnOf_13 : decode cX13_turnOf 13 = .ok (.aload_n 0, 1) := by decide +kernel
theorem dX13_turnOf_14 : decode cX13_turnOf 14 = .ok (.iload_n 1, 1) := by decide +kernel
theorem dX13_turnOf_15 : decode cX13_turnOf 15 = .ok (.invokevirtual 312, 3) := by decide +kernel
theorem dX13_turnOf_18 : decode cX13_turnOf 18 = .ok (.ifCond .eq 13, 3) := by decide +kernel
theorem dX13_turnOf_21 : decode cX13_turnOf 21 = .ok (.aload_n 0, 1) := by decide +kernel
theorem dX13_turnOf_22 : decode cX13_turnOf 22 = .ok (.getfield 7, 3) := by decide +kernel
theorem dX13_turnOf_25 : decode cX13_turnOf 25 = .ok (.bipush 72, 2) := by decide +kernel
theorem dX13_turnOf_27 : decode cX13_turnOf 27 = .ok (.iload_n 1, 1) := by decide +kernel
theorem dX13_turnOf_28 : decode cX13_turnOf 28 = .ok (.iadd, 1) := by decide +kernel
theorem dX13_turnOf_29 : decode cX13_turnOf 29 = .ok (.iconst 0, 1) := by decide +kernel
theorem dX13_turnOf_30 : decode cX13_turnOf 30 = .ok (.iastore, 1) := by decide +kernel
theorem dX13_turnOf_31 : decode cX13_turnOf 31 = .ok (.return_, 1) := by decide +kernel
theorem dX13_turnOf_32 : decode cX13_turnOf 32 = .ok (.aload_n 0, 1) := by decide +kernel
theorem dX13_turnOf_33 : decode cX13_turnOf 33 = .ok (.iload_n 1, 1) := by decide +kernel
theorem dX13_turnOf_34 : decode cX13_turnOf 34 = .ok (.invokevirtual 315, 3) := by decide +kernel
theorem dX13_turnOf_37 : decode cX13_turnOf 37 = .ok (.aload_n 0, 1) := by decide +kernel
theorem dX13_turnOf_38 : decode cX13_turnOf 38 = .ok (.bipush 120, 2) := by decide +kernel
theorem dX13_turnOf_40 : decode cX13_turnOf 40 = .ok (.invokevirtual 318, 3) := by decide +kernel
theorem dX13_turnOf_43 : decode cX13_turnOf 43 = .ok (.ifCond .eq 4, 3) := by decide +kernel
theorem dX13_turnOf_46 : decode cX13_turnOf 46 = .ok (.return_, 1) := by decide +kernel
theorem dX13_turnOf_47 : decode cX13_turnOf 47 = .ok (.aload_n 0, 1) := by decide +kernel
theorem dX13_turnOf_48 : decode cX13_turnOf 48 = .ok (.bipush 117, 2) := by decide +kernel
theorem dX13_turnOf_50 : decode cX13_turnOf 50 = .ok (.bipush 60, 2) := by decide +kernel
theorem dX13_turnOf_52 : decode cX13_turnOf 52 = .ok (.invokevirtual 291, 3) := by decide +kernel
theorem dX13_turnOf_55 : decode cX13_turnOf 55 = .ok (.istore_n 2, 1) := by decide +kernel
theorem dX13_turnOf_56 : decode cX13_turnOf 56 = .ok (.aload_n 0, 1) := by decide +kernel
theorem dX13_turnOf_57 : decode cX13_turnOf 57 = .ok (.bipush 118, 2) := by decide +kernel
theorem dX13_turnOf_59 : decode cX13_turnOf 59 = .ok (.bipush 60, 2) := by decide +kernel
theorem dX13_turnOf_61 : decode cX13_turnOf 61 = .ok (.invokevirtual 291, 3) := by decide +kernel
theorem dX13_turnOf_64 : decode cX13_turnOf 64 = .ok (.istore_n 3, 1) := by decide +kernel
theorem dX13_turnOf_65 : decode cX13_turnOf 65 = .ok (.aload_n 0, 1) := by decide +kernel
theorem dX13_turnOf_66 : decode cX13_turnOf 66 = .ok (.bipush 99, 2) := by decide +kernel
theorem dX13_turnOf_68 : decode cX13_turnOf 68 = .ok (.bipush 10, 2) := by decide +kernel
theorem dX13_turnOf_70 : decode cX13_turnOf 70 = .ok (.invokevirtual 291, 3) := by decide +kernel
theorem dX13_turnOf_73 : decode cX13_turnOf 73 = .ok (.istore 4, 2) := by decide +kernel
theorem dX13_turnOf_75 : decode cX13_turnOf 75 = .ok (.aload_n 0, 1) := by decide +kernel
theorem dX13_turnOf_76 : decode cX13_turnOf 76 = .ok (.getfield 7, 3) := by decide +kernel
theorem dX13_turnOf_79 : decode cX13_turnOf 79 = .ok (.bipush 81, 2) := by decide +kernel
theorem dX13_turnOf_81 : decode cX13_turnOf 81 = .ok (.sipush 25173, 3) := by decide +kernel
theorem dX13_turnOf_84 : decode cX13_turnOf 84 = .ok (.aload_n 0, 1) := by decide +kernel
theorem dX13_turnOf_85 : decode cX13_turnOf 85 = .ok (.getfield 7, 3) := by decide +kernel
theorem dX13_turnOf_88 : decode cX13_turnOf 88 = .ok (.bipush 81, 2) := by decide +kernel
theorem dX13_turnOf_90 : decode cX13_turnOf 90 = .ok (.iaload, 1) := by decide +kernel
theorem dX13_turnOf_91 : decode cX13_turnOf 91 = .ok (.imul, 1) := by decide +kernel
theorem dX13_turnOf_92 : decode cX13_turnOf 92 = .ok (.sipush 13849, 3) := by decide +kernel
theorem dX13_turnOf_95 : decode cX13_turnOf 95 = .ok (.iadd, 1) := by decide +kernel
theorem dX13_turnOf_96 : decode cX13_turnOf 96 = .ok (.ldc_w 321, 3) := by decide +kernel
theorem dX13_turnOf_99 : decode cX13_turnOf 99 = .ok (.irem, 1) := by decide +kernel
theorem dX13_turnOf_100 : decode cX13_turnOf 100 = .ok (.iastore, 1) := by decide +kernel
theorem dX13_turnOf_101 : decode cX13_turnOf 101 = .ok (.aload_n 0, 1) := by decide +kernel
theorem dX13_turnOf_102 : decode cX13_turnOf 102 = .ok (.getfield 7, 3) := by decide +kernel
theorem dX13_turnOf_105 : decode cX13_turnOf 105 = .ok (.bipush 81, 2) := by decide +kernel
theorem dX13_turnOf_107 : decode cX13_turnOf 107 = .ok (.iaload, 1) := by decide +kernel
theorem dX13_turnOf_108 : decode cX13_turnOf 108 = .ok (.bipush 10, 2) := by decide +kernel
theorem dX13_turnOf_110 : decode cX13_turnOf 110 = .ok (.irem, 1) := by decide +kernel
theorem dX13_turnOf_111 : decode cX13_turnOf 111 = .ok (.iload 4, 2) := by decide +kernel
theorem dX13_turnOf_113 : decode cX13_turnOf 113 = .ok (.if_icmp .ge 14, 3) := by decide +kernel
theorem dX13_turnOf_116 : decode cX13_turnOf 116 = .ok (.aload_n 0, 1) := by decide +kernel
theorem dX13_turnOf_117 : decode cX13_turnOf 117 = .ok (.aload_n 0, 1) := by decide +kernel
theorem dX13_turnOf_118 : decode cX13_turnOf 118 = .ok (.getfield 322, 3) := by decide +kernel
theorem dX13_turnOf_121 : decode cX13_turnOf 121 = .ok (.iconst 1, 1) := by decide +kernel
theorem dX13_turnOf_122 : decode cX13_turnOf 122 = .ok (.iadd, 1) := by decide +kernel
theorem dX13_turnOf_123 : decode cX13_turnOf 123 = .ok (.putfield 322, 3) := by decide +kernel
theorem dX13_turnOf_126 : decode cX13_turnOf 126 = .ok (.return_, 1) := by decide +kernel
theorem dX13_turnOf_127 : decode cX13_turnOf 127 = .ok (.aload_n 0, 1) := by decide +kernel
theorem dX13_turnOf_128 : decode cX13_turnOf 128 = .ok (.getfield 7, 3) := by decide +kernel
theorem dX13_turnOf_131 : decode cX13_turnOf 131 = .ok (.bipush 48, 2) := by decide +kernel
theorem dX13_turnOf_133 : decode cX13_turnOf 133 = .ok (.iload_n 1, 1) := by decide +kernel
theorem dX13_turnOf_134 : decode cX13_turnOf 134 = .ok (.iadd, 1) := by decide +kernel
theorem dX13_turnOf_135 : decode cX13_turnOf 135 = .ok (.aload_n 0, 1) := by decide +kernel
theorem dX13_turnOf_136 : decode cX13_turnOf 136 = .ok (.getfield 7, 3) := by decide +kernel
theorem dX13_turnOf_139 : decode cX13_turnOf 139 = .ok (.bipush 48, 2) := by decide +kernel
theorem dX13_turnOf_141 : decode cX13_turnOf 141 = .ok (.iload_n 1, 1) := by decide +kernel
theorem dX13_turnOf_142 : decode cX13_turnOf 142 = .ok (.iadd, 1) := by decide +kernel
theorem dX13_turnOf_143 : decode cX13_turnOf 143 = .ok (.iaload, 1) := by decide +kernel
theorem dX13_turnOf_144 : decode cX13_turnOf 144 = .ok (.iconst 0, 1) := by decide +kernel
theorem dX13_turnOf_145 : decode cX13_turnOf 145 = .ok (.bipush 60, 2) := by decide +kernel
theorem dX13_turnOf_147 : decode cX13_turnOf 147 = .ok (.aload_n 0, 1) := by decide +kernel
theorem dX13_turnOf_148 : decode cX13_turnOf 148 = .ok (.getfield 7, 3) := by decide +kernel
theorem dX13_turnOf_151 : decode cX13_turnOf 151 = .ok (.bipush 8, 2) := by decide +kernel
theorem dX13_turnOf_153 : decode cX13_turnOf 153 = .ok (.iload_n 1, 1) := by decide +kernel
theorem dX13_turnOf_154 : decode cX13_turnOf 154 = .ok (.iadd, 1) := by decide +kernel
theorem dX13_turnOf_155 : decode cX13_turnOf 155 = .ok (.iaload, 1) := by decide +kernel
theorem dX13_turnOf_156 : decode cX13_turnOf 156 = .ok (.iadd, 1) := by decide +kernel
theorem dX13_turnOf_157 : decode cX13_turnOf 157 = .ok (.iload_n 2, 1) := by decide +kernel
theorem dX13_turnOf_158 : decode cX13_turnOf 158 = .ok (.iadd, 1) := by decide +kernel
theorem dX13_turnOf_159 : decode cX13_turnOf 159 = .ok (.iload_n 3, 1) := by decide +kernel
theorem dX13_turnOf_160 : decode cX13_turnOf 160 = .ok (.isub, 1) := by decide +kernel
theorem dX13_turnOf_161 : decode cX13_turnOf 161 = .ok (.invokestatic 294, 3) := by decide +kernel
theorem dX13_turnOf_164 : decode cX13_turnOf 164 = .ok (.iadd, 1) := by decide +kernel
theorem dX13_turnOf_165 : decode cX13_turnOf 165 = .ok (.iastore, 1) := by decide +kernel
theorem dX13_turnOf_166 : decode cX13_turnOf 166 = .ok (.aload_n 0, 1) := by decide +kernel
theorem dX13_turnOf_167 : decode cX13_turnOf 167 = .ok (.getfield 7, 3) := by decide +kernel
theorem dX13_turnOf_170 : decode cX13_turnOf 170 = .ok (.bipush 48, 2) := by decide +kernel
theorem dX13_turnOf_172 : decode cX13_turnOf 172 = .ok (.iload_n 1, 1) := by decide +kernel
theorem dX13_turnOf_173 : decode cX13_turnOf 173 = .ok (.iadd, 1) := by decide +kernel
theorem dX13_turnOf_174 : decode cX13_turnOf 174 = .ok (.iaload, 1) := by decide +kernel
theorem dX13_turnOf_175 : decode cX13_turnOf 175 = .ok (.aload_n 0, 1) := by decide +kernel
theorem dX13_turnOf_176 : decode cX13_turnOf 176 = .ok (.getfield 111, 3) := by decide +kernel
theorem dX13_turnOf_179 : decode cX13_turnOf 179 = .ok (.if_icmp .lt 34, 3) := by decide +kernel
theorem dX13_turnOf_182 : decode cX13_turnOf 182 = .ok (.aload_n 0, 1) := by decide +kernel
theorem dX13_turnOf_183 : decode cX13_turnOf 183 = .ok (.getfield 7, 3) := by decide +kernel
theorem dX13_turnOf_186 : decode cX13_turnOf 186 = .ok (.bipush 48, 2) := by decide +kernel
theorem dX13_turnOf_188 : decode cX13_turnOf 188 = .ok (.iload_n 1, 1) := by decide +kernel
theorem dX13_turnOf_189 : decode cX13_turnOf 189 = .ok (.iadd, 1) := by decide +kernel
theorem dX13_turnOf_190 : decode cX13_turnOf 190 = .ok (.aload_n 0, 1) := by decide +kernel
theorem dX13_turnOf_191 : decode cX13_turnOf 191 = .ok (.getfield 7, 3) := by decide +kernel
theorem dX13_turnOf_194 : decode cX13_turnOf 194 = .ok (.bipush 48, 2) := by decide +kernel
theorem dX13_turnOf_196 : decode cX13_turnOf 196 = .ok (.iload_n 1, 1) := by decide +kernel
theorem dX13_turnOf_197 : decode cX13_turnOf 197 = .ok (.iadd, 1) := by decide +kernel
theorem dX13_turnOf_198 : decode cX13_turnOf 198 = .ok (.iaload, 1) := by decide +kernel
theorem dX13_turnOf_199 : decode cX13_turnOf 199 = .ok (.aload_n 0, 1) := by decide +kernel
theorem dX13_turnOf_200 : decode cX13_turnOf 200 = .ok (.getfield 111, 3) := by decide +kernel
theorem dX13_turnOf_203 : decode cX13_turnOf 203 = .ok (.isub, 1) := by decide +kernel
theorem dX13_turnOf_204 : decode cX13_turnOf 204 = .ok (.iastore, 1) := by decide +kernel
theorem dX13_turnOf_205 : decode cX13_turnOf 205 = .ok (.aload_n 0, 1) := by decide +kernel
theorem dX13_turnOf_206 : decode cX13_turnOf 206 = .ok (.iload_n 1, 1) := by decide +kernel
theorem dX13_turnOf_207 : decode cX13_turnOf 207 = .ok (.invokevirtual 325, 3) := by decide +kernel
theorem dX13_turnOf_210 : decode cX13_turnOf 210 = .ok (.goto (-44), 3) := by decide +kernel
theorem dX13_turnOf_213 : decode cX13_turnOf 213 = .ok (.return_, 1) := by decide +kernel
theorem dX13_apartNow_0 : decode cX13_apartNow 0 = .ok (.ldc_w 328, 3) := by decide +kernel
theorem dX13_apartNow_3 : decode cX13_apartNow 3 = .ok (.istore_n 1, 1) := by decide +kernel
theorem dX13_apartNow_4 : decode cX13_apartNow 4 = .ok (.ldc_w 329, 3) := by decide +kernel
theorem dX13_apartNow_7 : decode cX13_apartNow 7 = .ok (.istore_n 2, 1) := by decide +kernel
theorem dX13_apartNow_8 : decode cX13_apartNow 8 = .ok (.iconst 0, 1) := by decide +kernel
theorem dX13_apartNow_9 : decode cX13_apartNow 9 = .ok (.istore_n 3, 1) := by decide +kernel
theorem dX13_apartNow_10 : decode cX13_apartNow 10 = .ok (.iload_n 3, 1) := by decide +kernel
theorem dX13_apartNow_11 : decode cX13_apartNow 11 = .ok (.bipush 8, 2) := by decide +kernel
theorem dX13_apartNow_13 : decode cX13_apartNow 13 = .ok (.if_icmp .ge 56, 3) := by decide +kernel
theorem dX13_apartNow_16 : decode cX13_apartNow 16 = .ok (.aload_n 0, 1) := by decide +kernel
theorem dX13_apartNow_17 : decode cX13_apartNow 17 = .ok (.iload_n 3, 1) := by decide +kernel
theorem dX13_apartNow_18 : decode cX13_apartNow 18 = .ok (.invokevirtual 118, 3) := by decide +kernel
theorem dX13_apartNow_21 : decode cX13_apartNow 21 = .ok (.ifCond .eq 42, 3) := by decide +kernel
theorem dX13_apartNow_24 : decode cX13_apartNow 24 = .ok (.aload_n 0, 1) := by decide +kernel
theorem dX13_apartNow_25 : decode cX13_apartNow 25 = .ok (.iload_n 3, 1) := by decide +kernel
theorem dX13_apartNow_26 : decode cX13_apartNow 26 = .ok (.invokevirtual 270, 3) := by decide +kernel
theorem dX13_apartNow_29 : decode cX13_apartNow 29 = .ok (.ifCond .eq 6, 3) := by decide +kernel
theorem dX13_apartNow_32 : decode cX13_apartNow 32 = .ok (.goto 31, 3) := by decide +kernel
theorem dX13_apartNow_35 : decode cX13_apartNow 35 = .ok (.iload_n 1, 1) := by decide +kernel
theorem dX13_apartNow_36 : decode cX13_apartNow 36 = .ok (.aload_n 0, 1) := by decide +kernel
theorem dX13_apartNow_37 : decode cX13_apartNow 37 = .ok (.getfield 7, 3) := by decide +kernel
theorem dX13_apartNow_40 : decode cX13_apartNow 40 = .ok (.bipush 40, 2) := by decide +kernel
theorem dX13_apartNow_42 : decode cX13_apartNow 42 = .ok (.iload_n 3, 1) := by decide +kernel
theorem dX13_apartNow_43 : decode cX13_apartNow 43 = .ok (.iadd, 1) := by decide +kernel
theorem dX13_apartNow_44 : decode cX13_apartNow 44 = .ok (.iaload, 1) := by decide +kernel
theorem dX13_apartNow_45 : decode cX13_apartNow 45 = .ok (.invokestatic 282, 3) := by decide +kernel
theorem dX13_apartNow_48 : decode cX13_apartNow 48 = .ok (.istore_n 1, 1) := by decide +kernel
theorem dX13_apartNow_49 : decode cX13_apartNow 49 = .ok (.iload_n 2, 1) := by decide +kernel
theorem dX13_apartNow_50 : decode cX13_apartNow 50 = .ok (.aload_n 0, 1) := by decide +kernel
theorem dX13_apartNow_51 : decode cX13_apartNow 51 = .ok (.getfield 7, 3) := by decide +kernel
theorem dX13_apartNow_54 : decode cX13_apartNow 54 = .ok (.bipush 40, 2) := by decide +kernel
theorem dX13_apartNow_56 : decode cX13_apartNow 56 = .ok (.iload_n 3, 1) := by decide +kernel
theorem dX13_apartNow_57 : decode cX13_apartNow 57 = .ok (.iadd, 1) := by decide +kernel
theorem dX13_apartNow_58 : decode cX13_apartNow 58 = .ok (.iaload, 1) := by decide +kernel
theorem dX13_apartNow_59 : decode cX13_apartNow 59 = .ok (.invokestatic 294, 3) := by decide +kernel
theorem dX13_apartNow_62 : decode cX13_apartNow 62 = .ok (.istore_n 2, 1) := by decide +kernel
theorem dX13_apartNow_63 : decode cX13_apartNow 63 = .ok (.iinc 3 1, 3) := by decide +kernel
theorem dX13_apartNow_66 : decode cX13_apartNow 66 = .ok (.goto (-56), 3) := by decide +kernel
theorem dX13_apartNow_69 : decode cX13_apartNow 69 = .ok (.iconst 0, 1) := by decide +kernel
theorem dX13_apartNow_70 : decode cX13_apartNow 70 = .ok (.iload_n 2, 1) := by decide +kernel
theorem dX13_apartNow_71 : decode cX13_apartNow 71 = .ok (.iload_n 1, 1) := by decide +kernel
theorem dX13_apartNow_72 : decode cX13_apartNow 72 = .ok (.isub, 1) := by decide +kernel
theorem dX13_apartNow_73 : decode cX13_apartNow 73 = .ok (.invokestatic 294, 3) := by decide +kernel
theorem dX13_apartNow_76 : decode cX13_apartNow 76 = .ok (.ireturn, 1) := by decide +kernel
theorem dX13_tickGoes_0 : decode cX13_tickGoes 0 = .ok (.aload_n 0, 1) := by decide +kernel
theorem dX13_tickGoes_1 : decode cX13_tickGoes 1 = .ok (.aload_n 0, 1) := by decide +kernel
theorem dX13_tickGoes_2 : decode cX13_tickGoes 2 = .ok (.getfield 300, 3) := by decide +kernel
theorem dX13_tickGoes_5 : decode cX13_tickGoes 5 = .ok (.iconst 1, 1) := by decide +kernel
theorem dX13_tickGoes_6 : decode cX13_tickGoes 6 = .ok (.iadd, 1) := by decide +kernel
theorem dX13_tickGoes_7 : decode cX13_tickGoes 7 = .ok (.putfield 300, 3) := by decide +kernel
theorem dX13_tickGoes_10 : decode cX13_tickGoes 10 = .ok (.iconst 0, 1) := by decide +kernel
theorem dX13_tickGoes_11 : decode cX13_tickGoes 11 = .ok (.istore_n 1, 1) := by decide +kernel
theorem dX13_tickGoes_12 : decode cX13_tickGoes 12 = .ok (.iload_n 1, 1) := by decide +kernel
theorem dX13_tickGoes_13 : decode cX13_tickGoes 13 = .ok (.bipush 8, 2) := by decide +kernel
theorem dX13_tickGoes_15 : decode cX13_tickGoes 15 = .ok (.if_icmp .ge 24, 3) := by decide +kernel
theorem dX13_tickGoes_18 : decode cX13_tickGoes 18 = .ok (.aload_n 0, 1) := by decide +kernel
theorem dX13_tickGoes_19 : decode cX13_tickGoes 19 = .ok (.getfield 95, 3) := by decide +kernel
theorem dX13_tickGoes_22 : decode cX13_tickGoes 22 = .ok (.iload_n 1, 1) := by decide +kernel
theorem dX13_tickGoes_23 : decode cX13_tickGoes 23 = .ok (.aload_n 0, 1) := by decide +kernel
theorem dX13_tickGoes_24 : decode cX13_tickGoes 24 = .ok (.getfield 7, 3) := by decide +kernel
theorem dX13_tickGoes_27 : decode cX13_tickGoes 27 = .ok (.bipush 40, 2) := by decide +kernel
theorem dX13_tickGoes_29 : decode cX13_tickGoes 29 = .ok (.iload_n 1, 1) := by decide +kernel
theorem dX13_tickGoes_30 : decode cX13_tickGoes 30 = .ok (.iadd, 1) := by decide +kernel
theorem dX13_tickGoes_31 : decode cX13_tickGoes 31 = .ok (.iaload, 1) := by decide +kernel
theorem dX13_tickGoes_32 : decode cX13_tickGoes 32 = .ok (.iastore, 1) := by decide +kernel
theorem dX13_tickGoes_33 : decode cX13_tickGoes 33 = .ok (.iinc 1 1, 3) := by decide +kernel
theorem dX13_tickGoes_36 : decode cX13_tickGoes 36 = .ok (.goto (-24), 3) := by decide +kernel
theorem dX13_tickGoes_39 : decode cX13_tickGoes 39 = .ok (.iconst 0, 1) := by decide +kernel
theorem dX13_tickGoes_40 : decode cX13_tickGoes 40 = .ok (.istore_n 1, 1) := by decide +kernel
theorem dX13_tickGoes_41 : decode cX13_tickGoes 41 = .ok (.iload_n 1, 1) := by decide +kernel
theorem dX13_tickGoes_42 : decode cX13_tickGoes 42 = .ok (.bipush 8, 2) := by decide +kernel
theorem dX13_tickGoes_44 : decode cX13_tickGoes 44 = .ok (.if_icmp .ge 30, 3) := by decide +kernel
theorem dX13_tickGoes_47 : decode cX13_tickGoes 47 = .ok (.aload_n 0, 1) := by decide +kernel
theorem dX13_tickGoes_48 : decode cX13_tickGoes 48 = .ok (.iload_n 1, 1) := by decide +kernel
theorem dX13_tickGoes_49 : decode cX13_tickGoes 49 = .ok (.invokevirtual 118, 3) := by decide +kernel
theorem dX13_tickGoes_52 : decode cX13_tickGoes 52 = .ok (.ifCond .eq 16, 3) := by decide +kernel
theorem dX13_tickGoes_55 : decode cX13_tickGoes 55 = .ok (.aload_n 0, 1) := by decide +kernel
theorem dX13_tickGoes_56 : decode cX13_tickGoes 56 = .ok (.iload_n 1, 1) := by decide +kernel
theorem dX13_tickGoes_57 : decode cX13_tickGoes 57 = .ok (.invokevirtual 270, 3) := by decide +kernel
theorem dX13_tickGoes_60 : decode cX13_tickGoes 60 = .ok (.ifCond .ne 8, 3) := by decide +kernel
theorem dX13_tickGoes_63 : decode cX13_tickGoes 63 = .ok (.aload_n 0, 1) := by decide +kernel
theorem dX13_tickGoes_64 : decode cX13_tickGoes 64 = .ok (.iload_n 1, 1) := by decide +kernel
theorem dX13_tickGoes_65 : decode cX13_tickGoes 65 = .ok (.invokevirtual 330, 3) := by decide +kernel
theorem dX13_tickGoes_68 : decode cX13_tickGoes 68 = .ok (.iinc 1 1, 3) := by decide +kernel
theorem dX13_tickGoes_71 : decode cX13_tickGoes 71 = .ok (.goto (-30), 3) := by decide +kernel
theorem dX13_tickGoes_74 : decode cX13_tickGoes 74 = .ok (.aload_n 0, 1) := by decide +kernel
theorem dX13_tickGoes_75 : decode cX13_tickGoes 75 = .ok (.aload_n 0, 1) := by decide +kernel
theorem dX13_tickGoes_76 : decode cX13_tickGoes 76 = .ok (.getfield 333, 3) := by decide +kernel
theorem dX13_tickGoes_79 : decode cX13_tickGoes 79 = .ok (.aload_n 0, 1) := by decide +kernel
theorem dX13_tickGoes_80 : decode cX13_tickGoes 80 = .ok (.invokevirtual 336, 3) := by decide +kernel
theorem dX13_tickGoes_83 : decode cX13_tickGoes 83 = .ok (.invokestatic 294, 3) := by decide +kernel
theorem dX13_tickGoes_86 : decode cX13_tickGoes 86 = .ok (.putfield 333, 3) := by decide +kernel
theorem dX13_tickGoes_89 : decode cX13_tickGoes 89 = .ok (.aload_n 0, 1) := by decide +kernel
theorem dX13_tickGoes_90 : decode cX13_tickGoes 90 = .ok (.getfield 7, 3) := by decide +kernel
theorem dX13_tickGoes_93 : decode cX13_tickGoes 93 = .ok (.bipush 80, 2) := by decide +kernel
theorem dX13_tickGoes_95 : decode cX13_tickGoes 95 = .ok (.aload_n 0, 1) := by decide +kernel
theorem dX13_tickGoes_96 : decode cX13_tickGoes 96 = .ok (.getfield 7, 3) := by decide +kernel
theorem dX13_tickGoes_99 : decode cX13_tickGoes 99 = .ok (.bipush 80, 2) := by decide +kernel
theorem dX13_tickGoes_101 : decode cX13_tickGoes 101 = .ok (.iaload, 1) := by decide +kernel
theorem dX13_tickGoes_102 : decode cX13_tickGoes 102 = .ok (.iconst 1, 1) := by decide +kernel
theorem dX13_tickGoes_103 : decode cX13_tickGoes 103 = .ok (.iadd, 1) := by decide +kernel
theorem dX13_tickGoes_104 : decode cX13_tickGoes 104 = .ok (.iastore, 1) := by decide +kernel
theorem dX13_tickGoes_105 : decode cX13_tickGoes 105 = .ok (.return_, 1) := by decide +kernel
theorem dX13_beginsTicks_0 : decode cX13_beginsTicks 0 = .ok (.aload_n 0, 1) := by decide +kernel
theorem dX13_beginsTicks_1 : decode cX13_beginsTicks 1 = .ok (.iconst 0, 1) := by decide +kernel
theorem dX13_beginsTicks_2 : decode cX13_beginsTicks 2 = .ok (.putfield 285, 3) := by decide +kernel
theorem dX13_beginsTicks_5 : decode cX13_beginsTicks 5 = .ok (.aload_n 0, 1) := by decide +kernel
theorem dX13_beginsTicks_6 : decode cX13_beginsTicks 6 = .ok (.iconst 0, 1) := by decide +kernel
theorem dX13_beginsTicks_7 : decode cX13_beginsTicks 7 = .ok (.putfield 288, 3) := by decide +kernel
theorem dX13_beginsTicks_10 : decode cX13_beginsTicks 10 = .ok (.aload_n 0, 1) := by decide +kernel
theorem dX13_beginsTicks_11 : decode cX13_beginsTicks 11 = .ok (.iconst 0, 1) := by decide +kernel
theorem dX13_beginsTicks_12 : decode cX13_beginsTicks 12 = .ok (.putfield 322, 3) := by decide +kernel
theorem dX13_beginsTicks_15 : decode cX13_beginsTicks 15 = .ok (.aload_n 0, 1) := by decide +kernel
theorem dX13_beginsTicks_16 : decode cX13_beginsTicks 16 = .ok (.iconst 0, 1) := by decide +kernel
theorem dX13_beginsTicks_17 : decode cX13_beginsTicks 17 = .ok (.putfield 300, 3) := by decide +kernel
theorem dX13_beginsTicks_20 : decode cX13_beginsTicks 20 = .ok (.aload_n 0, 1) := by decide +kernel
theorem dX13_beginsTicks_21 : decode cX13_beginsTicks 21 = .ok (.iconst 0, 1) := by decide +kernel
theorem dX13_beginsTicks_22 : decode cX13_beginsTicks 22 = .ok (.putfield 333, 3) := by decide +kernel
theorem dX13_beginsTicks_25 : decode cX13_beginsTicks 25 = .ok (.aload_n 0, 1) := by decide +kernel
theorem dX13_beginsTicks_26 : decode cX13_beginsTicks 26 = .ok (.iconst (-1), 1) := by decide +kernel
theorem dX13_beginsTicks_27 : decode cX13_beginsTicks 27 = .ok (.putfield 297, 3) := by decide +kernel
theorem dX13_beginsTicks_30 : decode cX13_beginsTicks 30 = .ok (.aload_n 0, 1) := by decide +kernel
theorem dX13_beginsTicks_31 : decode cX13_beginsTicks 31 = .ok (.iconst 0, 1) := by decide +kernel
theorem dX13_beginsTicks_32 : decode cX13_beginsTicks 32 = .ok (.putfield 303, 3) := by decide +kernel
theorem dX13_beginsTicks_35 : decode cX13_beginsTicks 35 = .ok (.aload_n 0, 1) := by decide +kernel
theorem dX13_beginsTicks_36 : decode cX13_beginsTicks 36 = .ok (.iconst (-1), 1) := by decide +kernel
theorem dX13_beginsTicks_37 : decode cX13_beginsTicks 37 = .ok (.putfield 306, 3) := by decide +kernel
theorem dX13_beginsTicks_40 : decode cX13_beginsTicks 40 = .ok (.aload_n 0, 1) := by decide +kernel
theorem dX13_beginsTicks_41 : decode cX13_beginsTicks 41 = .ok (.iconst 0, 1) := by decide +kernel
theorem dX13_beginsTicks_42 : decode cX13_beginsTicks 42 = .ok (.putfield 309, 3) := by decide +kernel
theorem dX13_beginsTicks_45 : decode cX13_beginsTicks 45 = .ok (.return_, 1) := by decide +kernel
theorem dX13_ticksGo_0 : decode cX13_ticksGo 0 = .ok (.aload_n 0, 1) := by decide +kernel
theorem dX13_ticksGo_1 : decode cX13_ticksGo 1 = .ok (.invokevirtual 339, 3) := by decide +kernel
theorem dX13_ticksGo_4 : decode cX13_ticksGo 4 = .ok (.iconst 0, 1) := by decide +kernel
theorem dX13_ticksGo_5 : decode cX13_ticksGo 5 = .ok (.istore_n 2, 1) := by decide +kernel
theorem dX13_ticksGo_6 : decode cX13_ticksGo 6 = .ok (.iload_n 2, 1) := by decide +kernel
theorem dX13_ticksGo_7 : decode cX13_ticksGo 7 = .ok (.iload_n 1, 1) := by decide +kernel
theorem dX13_ticksGo_8 : decode cX13_ticksGo 8 = .ok (.if_icmp .ge 26, 3) := by decide +kernel
theorem dX13_ticksGo_11 : decode cX13_ticksGo 11 = .ok (.aload_n 0, 1) := by decide +kernel
theorem dX13_ticksGo_12 : decode cX13_ticksGo 12 = .ok (.getfield 7, 3) := by decide +kernel
theorem dX13_ticksGo_15 : decode cX13_ticksGo 15 = .ok (.bipush 80, 2) := by decide +kernel
theorem dX13_ticksGo_17 : decode cX13_ticksGo 17 = .ok (.iaload, 1) := by decide +kernel
theorem dX13_ticksGo_18 : decode cX13_ticksGo 18 = .ok (.ldc_w 342, 3) := by decide +kernel
theorem dX13_ticksGo_21 : decode cX13_ticksGo 21 = .ok (.if_icmp .ge 13, 3) := by decide +kernel
theorem dX13_ticksGo_24 : decode cX13_ticksGo 24 = .ok (.aload_n 0, 1) := by decide +kernel
theorem dX13_ticksGo_25 : decode cX13_ticksGo 25 = .ok (.invokevirtual 343, 3) := by decide +kernel
theorem dX13_ticksGo_28 : decode cX13_ticksGo 28 = .ok (.iinc 2 1, 3) := by decide +kernel
theorem dX13_ticksGo_31 : decode cX13_ticksGo 31 = .ok (.goto (-25), 3) := by decide +kernel
theorem dX13_ticksGo_34 : decode cX13_ticksGo 34 = .ok (.return_, 1) := by decide +kernel
theorem dX13_ticks_0 : decode cX13_ticks 0 = .ok (.iload_n 1, 1) := by decide +kernel
theorem dX13_ticks_1 : decode cX13_ticks 1 = .ok (.iconst 1, 1) := by decide +kernel
theorem dX13_ticks_2 : decode cX13_ticks 2 = .ok (.sipush 240, 3) := by decide +kernel
theorem dX13_ticks_5 : decode cX13_ticks 5 = .ok (.invokestatic 114, 3) := by decide +kernel
theorem dX13_ticks_8 : decode cX13_ticks 8 = .ok (.ifCond .ne 5, 3) := by decide +kernel
theorem dX13_ticks_11 : decode cX13_ticks 11 = .ok (.iconst (-1), 1) := by decide +kernel
theorem dX13_ticks_12 : decode cX13_ticks 12 = .ok (.ireturn, 1) := by decide +kernel
theorem dX13_ticks_13 : decode cX13_ticks 13 = .ok (.aload_n 0, 1) := by decide +kernel
theorem dX13_ticks_14 : decode cX13_ticks 14 = .ok (.iload_n 1, 1) := by decide +kernel
theorem dX13_ticks_15 : decode cX13_ticks 15 = .ok (.invokevirtual 346, 3) := by decide +kernel
theorem dX13_ticks_18 : decode cX13_ticks 18 = .ok (.aload_n 0, 1) := by decide +kernel
theorem dX13_ticks_19 : decode cX13_ticks 19 = .ok (.getfield 285, 3) := by decide +kernel
theorem dX13_ticks_22 : decode cX13_ticks 22 = .ok (.ireturn, 1) := by decide +kernel
theorem dX13_waitingSet_0 : decode cX13_waitingSet 0 = .ok (.iconst 0, 1) := by decide +kernel
theorem dX13_waitingSet_1 : decode cX13_waitingSet 1 = .ok (.istore_n 1, 1) := by decide +kernel
theorem dX13_waitingSet_2 : decode cX13_waitingSet 2 = .ok (.iconst 0, 1) := by decide +kernel
theorem dX13_waitingSet_3 : decode cX13_waitingSet 3 = .ok (.istore_n 2, 1) := by decide +kernel
theorem dX13_waitingSet_4 : decode cX13_waitingSet 4 = .ok (.iload_n 2, 1) := by decide +kernel
theorem dX13_waitingSet_5 : decode cX13_waitingSet 5 = .ok (.bipush 8, 2) := by decide +kernel
theorem dX13_waitingSet_7 : decode cX13_waitingSet 7 = .ok (.if_icmp .ge 36, 3) := by decide +kernel
theorem dX13_waitingSet_10 : decode cX13_waitingSet 10 = .ok (.aload_n 0, 1) := by decide +kernel
theorem dX13_waitingSet_11 : decode cX13_waitingSet 11 = .ok (.iload_n 2, 1) := by decide +kernel
theorem dX13_waitingSet_12 : decode cX13_waitingSet 12 = .ok (.invokevirtual 118, 3) := by decide +kernel
theorem dX13_waitingSet_15 : decode cX13_waitingSet 15 = .ok (.ifCond .eq 22, 3) := by decide +kernel
theorem dX13_waitingSet_18 : decode cX13_waitingSet 18 = .ok (.aload_n 0, 1) := by decide +kernel
theorem dX13_waitingSet_19 : decode cX13_waitingSet 19 = .ok (.getfield 7, 3) := by decide +kernel
theorem dX13_waitingSet_22 : decode cX13_waitingSet 22 = .ok (.bipush 72, 2) := by decide +kernel
theorem dX13_waitingSet_24 : decode cX13_waitingSet 24 = .ok (.iload_n 2, 1) := by decide +kernel
theorem dX13_waitingSet_25 : decode cX13_waitingSet 25 = .ok (.iadd, 1) := by decide +kernel
theorem dX13_waitingSet_26 : decode cX13_waitingSet 26 = .ok (.iaload, 1) := by decide +kernel
theorem dX13_waitingSet_27 : decode cX13_waitingSet 27 = .ok (.iconst 1, 1) := by decide +kernel
theorem dX13_waitingSet_28 : decode cX13_waitingSet 28 = .ok (.if_icmp .ne 9, 3) := by decide +kernel
theorem dX13_waitingSet_31 : decode cX13_waitingSet 31 = .ok (.iload_n 1, 1) := by decide +kernel
theorem dX13_waitingSet_32 : decode cX13_waitingSet 32 = .ok (.iconst 1, 1) := by decide +kernel
theorem dX13_waitingSet_33 : decode cX13_waitingSet 33 = .ok (.iload_n 2, 1) := by decide +kernel
theorem dX13_waitingSet_34 : decode cX13_waitingSet 34 = .ok (.ishl, 1) := by decide +kernel
theorem dX13_waitingSet_35 : decode cX13_waitingSet 35 = .ok (.ior, 1) := by decide +kernel
theorem dX13_waitingSet_36 : decode cX13_waitingSet 36 = .ok (.istore_n 1, 1) := by decide +kernel
theorem dX13_waitingSet_37 : decode cX13_waitingSet 37 = .ok (.iinc 2 1, 3) := by decide +kernel
theorem dX13_waitingSet_40 : decode cX13_waitingSet 40 = .ok (.goto (-36), 3) := by decide +kernel
theorem dX13_waitingSet_43 : decode cX13_waitingSet 43 = .ok (.iload_n 1, 1) := by decide +kernel
theorem dX13_waitingSet_44 : decode cX13_waitingSet 44 = .ok (.ireturn, 1) := by decide +kernel
theorem dX13_doneSet_0 : decode cX13_doneSet 0 = .ok (.iconst 0, 1) := by decide +kernel
theorem dX13_doneSet_1 : decode cX13_doneSet 1 = .ok (.istore_n 1, 1) := by decide +kernel
theorem dX13_doneSet_2 : decode cX13_doneSet 2 = .ok (.iconst 0, 1) := by decide +kernel
theorem dX13_doneSet_3 : decode cX13_doneSet 3 = .ok (.istore_n 2, 1) := by decide +kernel
theorem dX13_doneSet_4 : decode cX13_doneSet 4 = .ok (.iload_n 2, 1) := by decide +kernel
theorem dX13_doneSet_5 : decode cX13_doneSet 5 = .ok (.bipush 8, 2) := by decide +kernel
theorem dX13_doneSet_7 : decode cX13_doneSet 7 = .ok (.if_icmp .ge 31, 3) := by decide +kernel
theorem dX13_doneSet_10 : decode cX13_doneSet 10 = .ok (.aload_n 0, 1) := by decide +kernel
theorem dX13_doneSet_11 : decode cX13_doneSet 11 = .ok (.iload_n 2, 1) := by decide +kernel
theorem dX13_doneSet_12 : decode cX13_doneSet 12 = .ok (.invokevirtual 118, 3) := by decide +kernel
theorem dX13_doneSet_15 : decode cX13_doneSet 15 = .ok (.ifCond .eq 17, 3) := by decide +kernel
theorem dX13_doneSet_18 : decode cX13_doneSet 18 = .ok (.aload_n 0, 1) := by decide +kernel
theorem dX13_doneSet_19 : decode cX13_doneSet 19 = .ok (.iload_n 2, 1) := by decide +kernel
theorem dX13_doneSet_20 : decode cX13_doneSet 20 = .ok (.invokevirtual 270, 3) := by decide +kernel
theorem dX13_doneSet_23 : decode cX13_doneSet 23 = .ok (.ifCond .eq 9, 3) := by decide +kernel
theorem dX13_doneSet_26 : decode cX13_doneSet 26 = .ok (.iload_n 1, 1) := by decide +kernel
theorem dX13_doneSet_27 : decode cX13_doneSet 27 = .ok (.iconst 1, 1) := by decide +kernel
theorem dX13_doneSet_28 : decode cX13_doneSet 28 = .ok (.iload_n 2, 1) := by decide +kernel
theorem dX13_doneSet_29 : decode cX13_doneSet 29 = .ok (.ishl, 1) := by decide +kernel
theorem dX13_doneSet_30 : decode cX13_doneSet 30 = .ok (.ior, 1) := by decide +kernel
theorem dX13_doneSet_31 : decode cX13_doneSet 31 = .ok (.istore_n 1, 1) := by decide +kernel
theorem dX13_doneSet_32 : decode cX13_doneSet 32 = .ok (.iinc 2 1, 3) := by decide +kernel
theorem dX13_doneSet_35 : decode cX13_doneSet 35 = .ok (.goto (-31), 3) := by decide +kernel
theorem dX13_doneSet_38 : decode cX13_doneSet 38 = .ok (.iload_n 1, 1) := by decide +kernel
theorem dX13_doneSet_39 : decode cX13_doneSet 39 = .ok (.ireturn, 1) := by decide +kernel
theorem dX13_tried_0 : decode cX13_tried 0 = .ok (.iload_n 1, 1) := by decide +kernel
theorem dX13_tried_1 : decode cX13_tried 1 = .ok (.iconst 1, 1) := by decide +kernel
theorem dX13_tried_2 : decode cX13_tried 2 = .ok (.sipush 240, 3) := by decide +kernel
theorem dX13_tried_5 : decode cX13_tried 5 = .ok (.invokestatic 114, 3) := by decide +kernel
theorem dX13_tried_8 : decode cX13_tried 8 = .ok (.ifCond .eq 34, 3) := by decide +kernel
theorem dX13_tried_11 : decode cX13_tried 11 = .ok (.iload_n 2, 1) := by decide +kernel
theorem dX13_tried_12 : decode cX13_tried 12 = .ok (.iconst 0, 1) := by decide +kernel
theorem dX13_tried_13 : decode cX13_tried 13 = .ok (.iconst 3, 1) := by decide +kernel
theorem dX13_tried_14 : decode cX13_tried 14 = .ok (.invokestatic 114, 3) := by decide +kernel
theorem dX13_tried_17 : decode cX13_tried 17 = .ok (.ifCond .ne 27, 3) := by decide +kernel
theorem dX13_tried_20 : decode cX13_tried 20 = .ok (.iload_n 2, 1) := by decide +kernel
theorem dX13_tried_21 : decode cX13_tried 21 = .ok (.bipush 10, 2) := by decide +kernel
theorem dX13_tried_23 : decode cX13_tried 23 = .ok (.bipush 37, 2) := by decide +kernel
theorem dX13_tried_25 : decode cX13_tried 25 = .ok (.invokestatic 114, 3) := by decide +kernel
theorem dX13_tried_28 : decode cX13_tried 28 = .ok (.ifCond .eq 14, 3) := by decide +kernel
theorem dX13_tried_31 : decode cX13_tried 31 = .ok (.aload_n 0, 1) := by decide +kernel
theorem dX13_tried_32 : decode cX13_tried 32 = .ok (.iload_n 2, 1) := by decide +kernel
theorem dX13_tried_33 : decode cX13_tried 33 = .ok (.bipush 10, 2) := by decide +kernel
theorem dX13_tried_35 : decode cX13_tried 35 = .ok (.irem, 1) := by decide +kernel
theorem dX13_tried_36 : decode cX13_tried 36 = .ok (.invokevirtual 118, 3) := by decide +kernel
theorem dX13_tried_39 : decode cX13_tried 39 = .ok (.ifCond .ne 5, 3) := by decide +kernel
theorem dX13_tried_42 : decode cX13_tried 42 = .ok (.iconst (-1), 1) := by decide +kernel
theorem dX13_tried_43 : decode cX13_tried 43 = .ok (.ireturn, 1) := by decide +kernel
theorem dX13_tried_44 : decode cX13_tried 44 = .ok (.aload_n 0, 1) := by decide +kernel
theorem dX13_tried_45 : decode cX13_tried 45 = .ok (.getfield 7, 3) := by decide +kernel
theorem dX13_tried_48 : decode cX13_tried 48 = .ok (.aload_n 0, 1) := by decide +kernel
theorem dX13_tried_49 : decode cX13_tried 49 = .ok (.getfield 13, 3) := by decide +kernel
theorem dX13_tried_52 : decode cX13_tried 52 = .ok (.invokestatic 349, 3) := by decide +kernel
theorem dX13_tried_55 : decode cX13_tried 55 = .ok (.aload_n 0, 1) := by decide +kernel
theorem dX13_tried_56 : decode cX13_tried 56 = .ok (.iload_n 1, 1) := by decide +kernel
theorem dX13_tried_57 : decode cX13_tried 57 = .ok (.invokevirtual 346, 3) := by decide +kernel
theorem dX13_tried_60 : decode cX13_tried 60 = .ok (.iload_n 2, 1) := by decide +kernel
theorem dX13_tried_61 : decode cX13_tried 61 = .ok (.tableswitch 66 0 3 #[31, 39, 47, 55], 31) := by decide +kernel
theorem dX13_tried_92 : decode cX13_tried 92 = .ok (.aload_n 0, 1) := by decide +kernel
theorem dX13_tried_93 : decode cX13_tried 93 = .ok (.getfield 285, 3) := by decide +kernel
theorem dX13_tried_96 : decode cX13_tried 96 = .ok (.istore_n 3, 1) := by decide +kernel
theorem dX13_tried_97 : decode cX13_tried 97 = .ok (.goto 65, 3) := by decide +kernel
theorem dX13_tried_100 : decode cX13_tried 100 = .ok (.aload_n 0, 1) := by decide +kernel
theorem dX13_tried_101 : decode cX13_tried 101 = .ok (.getfield 288, 3) := by decide +kernel
theorem dX13_tried_104 : decode cX13_tried 104 = .ok (.istore_n 3, 1) := by decide +kernel
theorem dX13_tried_105 : decode cX13_tried 105 = .ok (.goto 57, 3) := by decide +kernel
theorem dX13_tried_108 : decode cX13_tried 108 = .ok (.aload_n 0, 1) := by decide +kernel
theorem dX13_tried_109 : decode cX13_tried 109 = .ok (.getfield 322, 3) := by decide +kernel
theorem dX13_tried_112 : decode cX13_tried 112 = .ok (.istore_n 3, 1) := by decide +kernel
theorem dX13_tried_113 : decode cX13_tried 113 = .ok (.goto 49, 3) := by decide +kernel
theorem dX13_tried_116 : decode cX13_tried 116 = .ok (.aload_n 0, 1) := by decide +kernel
theorem dX13_tried_117 : decode cX13_tried 117 = .ok (.invokevirtual 353, 3) := by decide +kernel
theorem dX13_tried_120 : decode cX13_tried 120 = .ok (.invokestatic 130, 3) := by decide +kernel
theorem dX13_tried_123 : decode cX13_tried 123 = .ok (.istore_n 3, 1) := by decide +kernel
theorem dX13_tried_124 : decode cX13_tried 124 = .ok (.goto 38, 3) := by decide +kernel
theorem dX13_tried_127 : decode cX13_tried 127 = .ok (.aload_n 0, 1) := by decide +kernel
theorem dX13_tried_128 : decode cX13_tried 128 = .ok (.getfield 7, 3) := by decide +kernel
theorem dX13_tried_131 : decode cX13_tried 131 = .ok (.iload_n 2, 1) := by decide +kernel
theorem dX13_tried_132 : decode cX13_tried 132 = .ok (.bipush 20, 2) := by decide +kernel
theorem dX13_tried_134 : decode cX13_tried 134 = .ok (.if_icmp .ge 8, 3) := by decide +kernel
theorem dX13_tried_137 : decode cX13_tried 137 = .ok (.bipush 40, 2) := by decide +kernel
theorem dX13_tried_139 : decode cX13_tried 139 = .ok (.goto 16, 3) := by decide +kernel
theorem dX13_tried_142 : decode cX13_tried 142 = .ok (.iload_n 2, 1) := by decide +kernel
theorem dX13_tried_143 : decode cX13_tried 143 = .ok (.bipush 30, 2) := by decide +kernel
theorem dX13_tried_145 : decode cX13_tried 145 = .ok (.if_icmp .ge 8, 3) := by decide +kernel
theorem dX13_tried_148 : decode cX13_tried 148 = .ok (.bipush 48, 2) := by decide +kernel
theorem dX13_tried_150 : decode cX13_tried 150 = .ok (.goto 5, 3) := by decide +kernel
theorem dX13_tried_153 : decode cX13_tried 153 = .ok (.bipush 56, 2) := by decide +kernel
theorem dX13_tried_155 : decode cX13_tried 155 = .ok (.iload_n 2, 1) := by decide +kernel
theorem dX13_tried_156 : decode cX13_tried 156 = .ok (.bipush 10, 2) := by decide +kernel
theorem dX13_tried_158 : decode cX13_tried 158 = .ok (.irem, 1) := by decide +kernel
theorem dX13_tried_159 : decode cX13_tried 159 = .ok (.iadd, 1) := by decide +kernel
theorem dX13_tried_160 : decode cX13_tried 160 = .ok (.iaload, 1) := by decide +kernel
theorem dX13_tried_161 : decode cX13_tried 161 = .ok (.istore_n 3, 1) := by decide +kernel
theorem dX13_tried_162 : decode cX13_tried 162 = .ok (.aload_n 0, 1) := by decide +kernel
theorem dX13_tried_163 : decode cX13_tried 163 = .ok (.getfield 13, 3) := by decide +kernel
theorem dX13_tried_166 : decode cX13_tried 166 = .ok (.aload_n 0, 1) := by decide +kernel
theorem dX13_tried_167 : decode cX13_tried 167 = .ok (.getfield 7, 3) := by decide +kernel
theorem dX13_tried_170 : decode cX13_tried 170 = .ok (.invokestatic 349, 3) := by decide +kernel
theorem dX13_tried_173 : decode cX13_tried 173 = .ok (.iload_n 3, 1) := by decide +kernel
theorem dX13_tried_174 : decode cX13_tried 174 = .ok (.ireturn, 1) := by decide +kernel
theorem dX13_singerIs_0 : decode cX13_singerIs 0 = .ok (.aload_n 0, 1) := by decide +kernel
theorem dX13_singerIs_1 : decode cX13_singerIs 1 = .ok (.iload_n 1, 1) := by decide +kernel
theorem dX13_singerIs_2 : decode cX13_singerIs 2 = .ok (.invokevirtual 118, 3) := by decide +kernel
theorem dX13_singerIs_5 : decode cX13_singerIs 5 = .ok (.ifCond .ne 5, 3) := by decide +kernel
theorem dX13_singerIs_8 : decode cX13_singerIs 8 = .ok (.iconst (-1), 1) := by decide +kernel
theorem dX13_singerIs_9 : decode cX13_singerIs 9 = .ok (.ireturn, 1) := by decide +kernel
theorem dX13_singerIs_10 : decode cX13_singerIs 10 = .ok (.iload_n 2, 1) := by decide +kernel
theorem dX13_singerIs_11 : decode cX13_singerIs 11 = .ok (.tableswitch 153 0 9 #[53, 63, 73, 83, 93, 103, 113, 123, 133, 147], 53) := by decide +kernel
theorem dX13_singerIs_64 : decode cX13_singerIs 64 = .ok (.aload_n 0, 1) := by decide +kernel
theorem dX13_singerIs_65 : decode cX13_singerIs 65 = .ok (.getfield 7, 3) := by decide +kernel
theorem dX13_singerIs_68 : decode cX13_singerIs 68 = .ok (.bipush 16, 2) := by decide +kernel
theorem dX13_singerIs_70 : decode cX13_singerIs 70 = .ok (.iload_n 1, 1) := by decide +kernel
theorem dX13_singerIs_71 : decode cX13_singerIs 71 = .ok (.iadd, 1) := by decide +kernel
theorem dX13_singerIs_72 : decode cX13_singerIs 72 = .ok (.iaload, 1) := by decide +kernel
theorem dX13_singerIs_73 : decode cX13_singerIs 73 = .ok (.ireturn, 1) := by decide +kernel
theorem dX13_singerIs_74 : decode cX13_singerIs 74 = .ok (.aload_n 0, 1) := by decide +kernel
theorem dX13_singerIs_75 : decode cX13_singerIs 75 = .ok (.getfield 7, 3) := by decide +kernel
theorem dX13_singerIs_78 : decode cX13_singerIs 78 = .ok (.bipush 24, 2) := by decide +kernel
theorem dX13_singerIs_80 : decode cX13_singerIs 80 = .ok (.iload_n 1, 1) := by decide +kernel
theorem dX13_singerIs_81 : decode cX13_singerIs 81 = .ok (.iadd, 1) := by decide +kernel
theorem dX13_singerIs_82 : decode cX13_singerIs 82 = .ok (.iaload, 1) := by decide +kernel
theorem dX13_singerIs_83 : decode cX13_singerIs 83 = .ok (.ireturn, 1) := by decide +kernel
theorem dX13_singerIs_84 : decode cX13_singerIs 84 = .ok (.aload_n 0, 1) := by decide +kernel
theorem dX13_singerIs_85 : decode cX13_singerIs 85 = .ok (.getfield 7, 3) := by decide +kernel
theorem dX13_singerIs_88 : decode cX13_singerIs 88 = .ok (.bipush 32, 2) := by decide +kernel
theorem dX13_singerIs_90 : decode cX13_singerIs 90 = .ok (.iload_n 1, 1) := by decide +kernel
theorem dX13_singerIs_91 : decode cX13_singerIs 91 = .ok (.iadd, 1) := by decide +kernel
theorem dX13_singerIs_92 : decode cX13_singerIs 92 = .ok (.iaload, 1) := by decide +kernel
theorem dX13_singerIs_93 : decode cX13_singerIs 93 = .ok (.ireturn, 1) := by decide +kernel
theorem dX13_singerIs_94 : decode cX13_singerIs 94 = .ok (.aload_n 0, 1) := by decide +kernel
theorem dX13_singerIs_95 : decode cX13_singerIs 95 = .ok (.getfield 7, 3) := by decide +kernel
theorem dX13_singerIs_98 : decode cX13_singerIs 98 = .ok (.bipush 40, 2) := by decide +kernel
theorem dX13_singerIs_100 : decode cX13_singerIs 100 = .ok (.iload_n 1, 1) := by decide +kernel
theorem dX13_singerIs_101 : decode cX13_singerIs 101 = .ok (.iadd, 1) := by decide +kernel
theorem dX13_singerIs_102 : decode cX13_singerIs 102 = .ok (.iaload, 1) := by decide +kernel
theorem dX13_singerIs_103 : decode cX13_singerIs 103 = .ok (.ireturn, 1) := by decide +kernel
theorem dX13_singerIs_104 : decode cX13_singerIs 104 = .ok (.aload_n 0, 1) := by decide +kernel
theorem dX13_singerIs_105 : decode cX13_singerIs 105 = .ok (.getfield 7, 3) := by decide +kernel
theorem dX13_singerIs_108 : decode cX13_singerIs 108 = .ok (.bipush 48, 2) := by decide +kernel
theorem dX13_singerIs_110 : decode cX13_singerIs 110 = .ok (.iload_n 1, 1) := by decide +kernel
theorem dX13_singerIs_111 : decode cX13_singerIs 111 = .ok (.iadd, 1) := by decide +kernel
theorem dX13_singerIs_112 : decode cX13_singerIs 112 = .ok (.iaload, 1) := by decide +kernel
theorem dX13_singerIs_113 : decode cX13_singerIs 113 = .ok (.ireturn, 1) := by decide +kernel
theorem dX13_singerIs_114 : decode cX13_singerIs 114 = .ok (.aload_n 0, 1) := by decide +kernel
theorem dX13_singerIs_115 : decode cX13_singerIs 115 = .ok (.getfield 7, 3) := by decide +kernel
theorem dX13_singerIs_118 : decode cX13_singerIs 118 = .ok (.bipush 56, 2) := by decide +kernel
theorem dX13_singerIs_120 : decode cX13_singerIs 120 = .ok (.iload_n 1, 1) := by decide +kernel
theorem dX13_singerIs_121 : decode cX13_singerIs 121 = .ok (.iadd, 1) := by decide +kernel
theorem dX13_singerIs_122 : decode cX13_singerIs 122 = .ok (.iaload, 1) := by decide +kernel
theorem dX13_singerIs_123 : decode cX13_singerIs 123 = .ok (.ireturn, 1) := by decide +kernel
theorem dX13_singerIs_124 : decode cX13_singerIs 124 = .ok (.aload_n 0, 1) := by decide +kernel
theorem dX13_singerIs_125 : decode cX13_singerIs 125 = .ok (.getfield 7, 3) := by decide +kernel
theorem dX13_singerIs_128 : decode cX13_singerIs 128 = .ok (.bipush 64, 2) := by decide +kernel
theorem dX13_singerIs_130 : decode cX13_singerIs 130 = .ok (.iload_n 1, 1) := by decide +kernel
theorem dX13_singerIs_131 : decode cX13_singerIs 131 = .ok (.iadd, 1) := by decide +kernel
theorem dX13_singerIs_132 : decode cX13_singerIs 132 = .ok (.iaload, 1) := by decide +kernel
theorem dX13_singerIs_133 : decode cX13_singerIs 133 = .ok (.ireturn, 1) := by decide +kernel
theorem dX13_singerIs_134 : decode cX13_singerIs 134 = .ok (.aload_n 0, 1) := by decide +kernel
theorem dX13_singerIs_135 : decode cX13_singerIs 135 = .ok (.getfield 7, 3) := by decide +kernel
theorem dX13_singerIs_138 : decode cX13_singerIs 138 = .ok (.bipush 72, 2) := by decide +kernel
theorem dX13_singerIs_140 : decode cX13_singerIs 140 = .ok (.iload_n 1, 1) := by decide +kernel
theorem dX13_singerIs_141 : decode cX13_singerIs 141 = .ok (.iadd, 1) := by decide +kernel
theorem dX13_singerIs_142 : decode cX13_singerIs 142 = .ok (.iaload, 1) := by decide +kernel
theorem dX13_singerIs_143 : decode cX13_singerIs 143 = .ok (.ireturn, 1) := by decide +kernel
theorem dX13_singerIs_144 : decode cX13_singerIs 144 = .ok (.aload_n 0, 1) := by decide +kernel
theorem dX13_singerIs_145 : decode cX13_singerIs 145 = .ok (.iload_n 1, 1) := by decide +kernel
theorem dX13_singerIs_146 : decode cX13_singerIs 146 = .ok (.invokevirtual 270, 3) := by decide +kernel
theorem dX13_singerIs_149 : decode cX13_singerIs 149 = .ok (.ifCond .eq 7, 3) := by decide +kernel
theorem dX13_singerIs_152 : decode cX13_singerIs 152 = .ok (.iconst 1, 1) := by decide +kernel
theorem dX13_singerIs_153 : decode cX13_singerIs 153 = .ok (.goto 4, 3) := by decide +kernel
theorem dX13_singerIs_156 : decode cX13_singerIs 156 = .ok (.iconst 0, 1) := by decide +kernel
theorem dX13_singerIs_157 : decode cX13_singerIs 157 = .ok (.ireturn, 1) := by decide +kernel
theorem dX13_singerIs_158 : decode cX13_singerIs 158 = .ok (.aload_n 0, 1) := by decide +kernel
theorem dX13_singerIs_159 : decode cX13_singerIs 159 = .ok (.iload_n 1, 1) := by decide +kernel
theorem dX13_singerIs_160 : decode cX13_singerIs 160 = .ok (.invokevirtual 267, 3) := by decide +kernel
theorem dX13_singerIs_163 : decode cX13_singerIs 163 = .ok (.ireturn, 1) := by decide +kernel
theorem dX13_singerIs_164 : decode cX13_singerIs 164 = .ok (.iconst (-1), 1) := by decide +kernel
theorem dX13_singerIs_165 : decode cX13_singerIs 165 = .ok (.ireturn, 1) := by decide +kernel
theorem dX13_drift_0 : decode cX13_drift 0 = .ok (.aload_n 0, 1) := by decide +kernel
theorem dX13_drift_1 : decode cX13_drift 1 = .ok (.iload_n 1, 1) := by decide +kernel
theorem dX13_drift_2 : decode cX13_drift 2 = .ok (.invokevirtual 118, 3) := by decide +kernel
theorem dX13_drift_5 : decode cX13_drift 5 = .ok (.ifCond .eq 15, 3) := by decide +kernel
theorem dX13_drift_8 : decode cX13_drift 8 = .ok (.aload_n 0, 1) := by decide +kernel
theorem dX13_drift_9 : decode cX13_drift 9 = .ok (.getfield 7, 3) := by decide +kernel
theorem dX13_drift_12 : decode cX13_drift 12 = .ok (.bipush 8, 2) := by decide +kernel
theorem dX13_drift_14 : decode cX13_drift 14 = .ok (.iload_n 1, 1) := by decide +kernel
theorem dX13_drift_15 : decode cX13_drift 15 = .ok (.iadd, 1) := by decide +kernel
theorem dX13_drift_16 : decode cX13_drift 16 = .ok (.iaload, 1) := by decide +kernel
theorem dX13_drift_17 : decode cX13_drift 17 = .ok (.goto 5, 3) := by decide +kernel
theorem dX13_drift_20 : decode cX13_drift 20 = .ok (.bipush (-100), 2) := by decide +kernel
theorem dX13_drift_22 : decode cX13_drift 22 = .ok (.ireturn, 1) := by decide +kernel
theorem dX13_beat_0 : decode cX13_beat 0 = .ok (.iload_n 1, 1) := by decide +kernel
theorem dX13_beat_1 : decode cX13_beat 1 = .ok (.iconst 0, 1) := by decide +kernel
theorem dX13_beat_2 : decode cX13_beat 2 = .ok (.bipush 7, 2) := by decide +kernel
theorem dX13_beat_4 : decode cX13_beat 4 = .ok (.invokestatic 114, 3) := by decide +kernel
theorem dX13_beat_7 : decode cX13_beat 7 = .ok (.ifCond .eq 28, 3) := by decide +kernel
theorem dX13_beat_10 : decode cX13_beat 10 = .ok (.iload_n 2, 1) := by decide +kernel
theorem dX13_beat_11 : decode cX13_beat 11 = .ok (.iconst 0, 1) := by decide +kernel
theorem dX13_beat_12 : decode cX13_beat 12 = .ok (.aload_n 0, 1) := by decide +kernel
theorem dX13_beat_13 : decode cX13_beat 13 = .ok (.getfield 31, 3) := by decide +kernel
theorem dX13_beat_16 : decode cX13_beat 16 = .ok (.iload_n 1, 1) := by decide +kernel
theorem dX13_beat_17 : decode cX13_beat 17 = .ok (.iaload, 1) := by decide +kernel
theorem dX13_beat_18 : decode cX13_beat 18 = .ok (.iconst 1, 1) := by decide +kernel
theorem dX13_beat_19 : decode cX13_beat 19 = .ok (.isub, 1) := by decide +kernel
theorem dX13_beat_20 : decode cX13_beat 20 = .ok (.invokestatic 114, 3) := by decide +kernel
theorem dX13_beat_23 : decode cX13_beat 23 = .ok (.ifCond .eq 12, 3) := by decide +kernel
theorem dX13_beat_26 : decode cX13_beat 26 = .ok (.iload_n 3, 1) := by decide +kernel
theorem dX13_beat_27 : decode cX13_beat 27 = .ok (.iconst 0, 1) := by decide +kernel
theorem dX13_beat_28 : decode cX13_beat 28 = .ok (.iconst 3, 1) := by decide +kernel
theorem dX13_beat_29 : decode cX13_beat 29 = .ok (.invokestatic 114, 3) := by decide +kernel
theorem dX13_beat_32 : decode cX13_beat 32 = .ok (.ifCond .ne 5, 3) := by decide +kernel
theorem dX13_beat_35 : decode cX13_beat 35 = .ok (.iconst (-1), 1) := by decide +kernel
theorem dX13_beat_36 : decode cX13_beat 36 = .ok (.ireturn, 1) := by decide +kernel
theorem dX13_beat_37 : decode cX13_beat 37 = .ok (.bipush 60, 2) := by decide +kernel
theorem dX13_beat_39 : decode cX13_beat 39 = .ok (.iload_n 1, 1) := by decide +kernel
theorem dX13_beat_40 : decode cX13_beat 40 = .ok (.imul, 1) := by decide +kernel
theorem dX13_beat_41 : decode cX13_beat 41 = .ok (.iload_n 2, 1) := by decide +kernel
theorem dX13_beat_42 : decode cX13_beat 42 = .ok (.iadd, 1) := by decide +kernel
theorem dX13_beat_43 : decode cX13_beat 43 = .ok (.istore 4, 2) := by decide +kernel
theorem dX13_beat_45 : decode cX13_beat 45 = .ok (.iload_n 3, 1) := by decide +kernel
theorem dX13_beat_46 : decode cX13_beat 46 = .ok (.ifCond .ne 13, 3) := by decide +kernel
theorem dX13_beat_49 : decode cX13_beat 49 = .ok (.aload_n 0, 1) := by decide +kernel
theorem dX13_beat_50 : decode cX13_beat 50 = .ok (.getfield 19, 3) := by decide +kernel
theorem dX13_beat_53 : decode cX13_beat 53 = .ok (.iload 4, 2) := by decide +kernel
theorem dX13_beat_55 : decode cX13_beat 55 = .ok (.iaload, 1) := by decide +kernel
theorem dX13_beat_56 : decode cX13_beat 56 = .ok (.goto 40, 3) := by decide +kernel
theorem dX13_beat_59 : decode cX13_beat 59 = .ok (.iload_n 3, 1) := by decide +kernel
theorem dX13_beat_60 : decode cX13_beat 60 = .ok (.iconst 1, 1) := by decide +kernel
theorem dX13_beat_61 : decode cX13_beat 61 = .ok (.if_icmp .ne 13, 3) := by decide +kernel
theorem dX13_beat_64 : decode cX13_beat 64 = .ok (.aload_n 0, 1) := by decide +kernel
theorem dX13_beat_65 : decode cX13_beat 65 = .ok (.getfield 22, 3) := by decide +kernel
theorem dX13_beat_68 : decode cX13_beat 68 = .ok (.iload 4, 2) := by decide +kernel
theorem dX13_beat_70 : decode cX13_beat 70 = .ok (.iaload, 1) := by decide +kernel
theorem dX13_beat_71 : decode cX13_beat 71 = .ok (.goto 25, 3) := by decide +kernel
theorem dX13_beat_74 : decode cX13_beat 74 = .ok (.iload_n 3, 1) := by decide +kernel
theorem dX13_beat_75 : decode cX13_beat 75 = .ok (.iconst 2, 1) := by decide +kernel
theorem dX13_beat_76 : decode cX13_beat 76 = .ok (.if_icmp .ne 13, 3) := by decide +kernel
theorem dX13_beat_79 : decode cX13_beat 79 = .ok (.aload_n 0, 1) := by decide +kernel
theorem dX13_beat_80 : decode cX13_beat 80 = .ok (.getfield 25, 3) := by decide +kernel
theorem dX13_beat_83 : decode cX13_beat 83 = .ok (.iload 4, 2) := by decide +kernel
theorem dX13_beat_85 : decode cX13_beat 85 = .ok (.iaload, 1) := by decide +kernel
theorem dX13_beat_86 : decode cX13_beat 86 = .ok (.goto 10, 3) := by decide +kernel
theorem dX13_beat_89 : decode cX13_beat 89 = .ok (.aload_n 0, 1) := by decide +kernel
theorem dX13_beat_90 : decode cX13_beat 90 = .ok (.getfield 28, 3) := by decide +kernel
theorem dX13_beat_93 : decode cX13_beat 93 = .ok (.iload 4, 2) := by decide +kernel
theorem dX13_beat_95 : decode cX13_beat 95 = .ok (.iaload, 1) := by decide +kernel
theorem dX13_beat_96 : decode cX13_beat 96 = .ok (.ireturn, 1) := by decide +kernel
theorem dX13_end_0 : decode cX13_end 0 = .ok (.iload_n 1, 1) := by decide +kernel
theorem dX13_end_1 : decode cX13_end 1 = .ok (.iconst 1, 1) := by decide +kernel
theorem dX13_end_2 : decode cX13_end 2 = .ok (.sipush 240, 3) := by decide +kernel
theorem dX13_end_5 : decode cX13_end 5 = .ok (.invokestatic 114, 3) := by decide +kernel
theorem dX13_end_8 : decode cX13_end 8 = .ok (.ifCond .eq 19, 3) := by decide +kernel
theorem dX13_end_11 : decode cX13_end 11 = .ok (.iload_n 2, 1) := by decide +kernel
theorem dX13_end_12 : decode cX13_end 12 = .ok (.iconst 0, 1) := by decide +kernel
theorem dX13_end_13 : decode cX13_end 13 = .ok (.iconst 1, 1) := by decide +kernel
theorem dX13_end_14 : decode cX13_end 14 = .ok (.invokestatic 114, 3) := by decide +kernel
theorem dX13_end_17 : decode cX13_end 17 = .ok (.ifCond .eq 10, 3) := by decide +kernel
theorem dX13_end_20 : decode cX13_end 20 = .ok (.aload_n 0, 1) := by decide +kernel
theorem dX13_end_21 : decode cX13_end 21 = .ok (.invokevirtual 126, 3) := by decide +kernel
theorem dX13_end_24 : decode cX13_end 24 = .ok (.ifCond .ne 5, 3) := by decide +kernel
theorem dX13_end_27 : decode cX13_end 27 = .ok (.iconst (-1), 1) := by decide +kernel
theorem dX13_end_28 : decode cX13_end 28 = .ok (.ireturn, 1) := by decide +kernel
theorem dX13_end_29 : decode cX13_end 29 = .ok (.aload_n 0, 1) := by decide +kernel
theorem dX13_end_30 : decode cX13_end 30 = .ok (.invokevirtual 356, 3) := by decide +kernel
theorem dX13_end_33 : decode cX13_end 33 = .ok (.aload_n 0, 1) := by decide +kernel
theorem dX13_end_34 : decode cX13_end 34 = .ok (.invokevirtual 126, 3) := by decide +kernel
theorem dX13_end_37 : decode cX13_end 37 = .ok (.if_icmp .ne 14, 3) := by decide +kernel
theorem dX13_end_40 : decode cX13_end 40 = .ok (.iload_n 2, 1) := by decide +kernel
theorem dX13_end_41 : decode cX13_end 41 = .ok (.ifCond .ne 7, 3) := by decide +kernel
theorem dX13_end_44 : decode cX13_end 44 = .ok (.iconst 0, 1) := by decide +kernel
theorem dX13_end_45 : decode cX13_end 45 = .ok (.goto 5, 3) := by decide +kernel
theorem dX13_end_48 : decode cX13_end 48 = .ok (.bipush (-2), 2) := by decide +kernel
theorem dX13_end_50 : decode cX13_end 50 = .ok (.ireturn, 1) := by decide +kernel
theorem dX13_end_51 : decode cX13_end 51 = .ok (.aload_n 0, 1) := by decide +kernel
theorem dX13_end_52 : decode cX13_end 52 = .ok (.getfield 7, 3) := by decide +kernel
theorem dX13_end_55 : decode cX13_end 55 = .ok (.aload_n 0, 1) := by decide +kernel
theorem dX13_end_56 : decode cX13_end 56 = .ok (.getfield 13, 3) := by decide +kernel
theorem dX13_end_59 : decode cX13_end 59 = .ok (.invokestatic 349, 3) := by decide +kernel
theorem dX13_end_62 : decode cX13_end 62 = .ok (.aload_n 0, 1) := by decide +kernel
theorem dX13_end_63 : decode cX13_end 63 = .ok (.iload_n 1, 1) := by decide +kernel
theorem dX13_end_64 : decode cX13_end 64 = .ok (.invokevirtual 346, 3) := by decide +kernel
theorem dX13_end_67 : decode cX13_end 67 = .ok (.aload_n 0, 1) := by decide +kernel
theorem dX13_end_68 : decode cX13_end 68 = .ok (.invokevirtual 356, 3) := by decide +kernel
theorem dX13_end_71 : decode cX13_end 71 = .ok (.aload_n 0, 1) := by decide +kernel
theorem dX13_end_72 : decode cX13_end 72 = .ok (.invokevirtual 126, 3) := by decide +kernel
theorem dX13_end_75 : decode cX13_end 75 = .ok (.if_icmp .ne 7, 3) := by decide +kernel
theorem dX13_end_78 : decode cX13_end 78 = .ok (.iconst 1, 1) := by decide +kernel
theorem dX13_end_79 : decode cX13_end 79 = .ok (.goto 4, 3) := by decide +kernel
theorem dX13_end_82 : decode cX13_end 82 = .ok (.iconst 0, 1) := by decide +kernel
theorem dX13_end_83 : decode cX13_end 83 = .ok (.istore_n 3, 1) := by decide +kernel
theorem dX13_end_84 : decode cX13_end 84 = .ok (.aload_n 0, 1) := by decide +kernel
theorem dX13_end_85 : decode cX13_end 85 = .ok (.getfield 13, 3) := by decide +kernel
theorem dX13_end_88 : decode cX13_end 88 = .ok (.aload_n 0, 1) := by decide +kernel
theorem dX13_end_89 : decode cX13_end 89 = .ok (.getfield 7, 3) := by decide +kernel
theorem dX13_end_92 : decode cX13_end 92 = .ok (.invokestatic 349, 3) := by decide +kernel
theorem dX13_end_95 : decode cX13_end 95 = .ok (.iload_n 3, 1) := by decide +kernel
theorem dX13_end_96 : decode cX13_end 96 = .ok (.ifCond .ne 6, 3) := by decide +kernel
theorem dX13_end_99 : decode cX13_end 99 = .ok (.bipush (-2), 2) := by decide +kernel
theorem dX13_end_101 : decode cX13_end 101 = .ok (.ireturn, 1) := by decide +kernel
theorem dX13_end_102 : decode cX13_end 102 = .ok (.iload_n 2, 1) := by decide +kernel
theorem dX13_end_103 : decode cX13_end 103 = .ok (.ifCond .ne 10, 3) := by decide +kernel
theorem dX13_end_106 : decode cX13_end 106 = .ok (.aload_n 0, 1) := by decide +kernel
theorem dX13_end_107 : decode cX13_end 107 = .ok (.getfield 303, 3) := by decide +kernel
theorem dX13_end_110 : decode cX13_end 110 = .ok (.goto 7, 3) := by decide +kernel
theorem dX13_end_113 : decode cX13_end 113 = .ok (.aload_n 0, 1) := by decide +kernel
theorem dX13_end_114 : decode cX13_end 114 = .ok (.getfield 297, 3) := by decide +kernel
theorem dX13_end_117 : decode cX13_end 117 = .ok (.ireturn, 1) := by decide +kernel
theorem dX13_spread_0 : decode cX13_spread 0 = .ok (.iload_n 1, 1) := by decide +kernel
theorem dX13_spread_1 : decode cX13_spread 1 = .ok (.iconst 1, 1) := by decide +kernel
theorem dX13_spread_2 : decode cX13_spread 2 = .ok (.sipush 240, 3) := by decide +kernel
theorem dX13_spread_5 : decode cX13_spread 5 = .ok (.invokestatic 114, 3) := by decide +kernel
theorem dX13_spread_8 : decode cX13_spread 8 = .ok (.ifCond .ne 5, 3) := by decide +kernel
theorem dX13_spread_11 : decode cX13_spread 11 = .ok (.iconst (-1), 1) := by decide +kernel
theorem dX13_spread_12 : decode cX13_spread 12 = .ok (.ireturn, 1) := by decide +kernel
theorem dX13_spread_13 : decode cX13_spread 13 = .ok (.aload_n 0, 1) := by decide +kernel
theorem dX13_spread_14 : decode cX13_spread 14 = .ok (.getfield 7, 3) := by decide +kernel
theorem dX13_spread_17 : decode cX13_spread 17 = .ok (.aload_n 0, 1) := by decide +kernel
theorem dX13_spread_18 : decode cX13_spread 18 = .ok (.getfield 13, 3) := by decide +kernel
theorem dX13_spread_21 : decode cX13_spread 21 = .ok (.invokestatic 349, 3) := by decide +kernel
theorem dX13_spread_24 : decode cX13_spread 24 = .ok (.aload_n 0, 1) := by decide +kernel
theorem dX13_spread_25 : decode cX13_spread 25 = .ok (.iload_n 1, 1) := by decide +kernel
theorem dX13_spread_26 : decode cX13_spread 26 = .ok (.invokevirtual 346, 3) := by decide +kernel
theorem dX13_spread_29 : decode cX13_spread 29 = .ok (.aload_n 0, 1) := by decide +kernel
theorem dX13_spread_30 : decode cX13_spread 30 = .ok (.getfield 13, 3) := by decide +kernel
theorem dX13_spread_33 : decode cX13_spread 33 = .ok (.aload_n 0, 1) := by decide +kernel
theorem dX13_spread_34 : decode cX13_spread 34 = .ok (.getfield 7, 3) := by decide +kernel
theorem dX13_spread_37 : decode cX13_spread 37 = .ok (.invokestatic 349, 3) := by decide +kernel
theorem dX13_spread_40 : decode cX13_spread 40 = .ok (.aload_n 0, 1) := by decide +kernel
theorem dX13_spread_41 : decode cX13_spread 41 = .ok (.getfield 333, 3) := by decide +kernel
theorem dX13_spread_44 : decode cX13_spread 44 = .ok (.ireturn, 1) := by decide +kernel
theorem dX13_firstCome_0 : decode cX13_firstCome 0 = .ok (.iload_n 1, 1) := by decide +kernel
theorem dX13_firstCome_1 : decode cX13_firstCome 1 = .ok (.iconst 1, 1) := by decide +kernel
theorem dX13_firstCome_2 : decode cX13_firstCome 2 = .ok (.sipush 240, 3) := by decide +kernel
theorem dX13_firstCome_5 : decode cX13_firstCome 5 = .ok (.invokestatic 114, 3) := by decide +kernel
theorem dX13_firstCome_8 : decode cX13_firstCome 8 = .ok (.ifCond .eq 12, 3) := by decide +kernel
theorem dX13_firstCome_11 : decode cX13_firstCome 11 = .ok (.iload_n 2, 1) := by decide +kernel
theorem dX13_firstCome_12 : decode cX13_firstCome 12 = .ok (.iconst 0, 1) := by decide +kernel
theorem dX13_firstCome_13 : decode cX13_firstCome 13 = .ok (.iconst 1, 1) := by decide +kernel
theorem dX13_firstCome_14 : decode cX13_firstCome 14 = .ok (.invokestatic 114, 3) := by decide +kernel
theorem dX13_firstCome_17 : decode cX13_firstCome 17 = .ok (.ifCond .ne 5, 3) := by decide +kernel
theorem dX13_firstCome_20 : decode cX13_firstCome 20 = .ok (.iconst (-1), 1) := by decide +kernel
theorem dX13_firstCome_21 : decode cX13_firstCome 21 = .ok (.ireturn, 1) := by decide +kernel
theorem dX13_firstCome_22 : decode cX13_firstCome 22 = .ok (.aload_n 0, 1) := by decide +kernel
theorem dX13_firstCome_23 : decode cX13_firstCome 23 = .ok (.invokevirtual 353, 3) := by decide +kernel
theorem dX13_firstCome_26 : decode cX13_firstCome 26 = .ok (.istore_n 3, 1) := by decide +kernel
theorem dX13_firstCome_27 : decode cX13_firstCome 27 = .ok (.iload_n 3, 1) := by decide +kernel
theorem dX13_firstCome_28 : decode cX13_firstCome 28 = .ok (.ifCond .eq 35, 3) := by decide +kernel
theorem dX13_firstCome_31 : decode cX13_firstCome 31 = .ok (.iconst 0, 1) := by decide +kernel
theorem dX13_firstCome_32 : decode cX13_firstCome 32 = .ok (.istore 4, 2) := by decide +kernel
theorem dX13_firstCome_34 : decode cX13_firstCome 34 = .ok (.iload_n 3, 1) := by decide +kernel
theorem dX13_firstCome_35 : decode cX13_firstCome 35 = .ok (.iload 4, 2) := by decide +kernel
theorem dX13_firstCome_37 : decode cX13_firstCome 37 = .ok (.invokestatic 137, 3) := by decide +kernel
theorem dX13_firstCome_40 : decode cX13_firstCome 40 = .ok (.ifCond .ne 12, 3) := by decide +kernel
theorem dX13_firstCome_43 : decode cX13_firstCome 43 = .ok (.iload 4, 2) := by decide +kernel
theorem dX13_firstCome_45 : decode cX13_firstCome 45 = .ok (.iconst 1, 1) := by decide +kernel
theorem dX13_firstCome_46 : decode cX13_firstCome 46 = .ok (.iadd, 1) := by decide +kernel
theorem dX13_firstCome_47 : decode cX13_firstCome 47 = .ok (.istore 4, 2) := by decide +kernel
theorem dX13_firstCome_49 : decode cX13_firstCome 49 = .ok (.goto (-15), 3) := by decide +kernel
theorem dX13_firstCome_52 : decode cX13_firstCome 52 = .ok (.iload_n 2, 1) := by decide +kernel
theorem dX13_firstCome_53 : decode cX13_firstCome 53 = .ok (.ifCond .ne 8, 3) := by decide +kernel
theorem dX13_firstCome_56 : decode cX13_firstCome 56 = .ok (.iload 4, 2) := by decide +kernel
theorem dX13_firstCome_58 : decode cX13_firstCome 58 = .ok (.goto 4, 3) := by decide +kernel
theorem dX13_firstCome_61 : decode cX13_firstCome 61 = .ok (.iconst 0, 1) := by decide +kernel
theorem dX13_firstCome_62 : decode cX13_firstCome 62 = .ok (.ireturn, 1) := by decide +kernel
theorem dX13_firstCome_63 : decode cX13_firstCome 63 = .ok (.aload_n 0, 1) := by decide +kernel
theorem dX13_firstCome_64 : decode cX13_firstCome 64 = .ok (.getfield 7, 3) := by decide +kernel
theorem dX13_firstCome_67 : decode cX13_firstCome 67 = .ok (.aload_n 0, 1) := by decide +kernel
theorem dX13_firstCome_68 : decode cX13_firstCome 68 = .ok (.getfield 13, 3) := by decide +kernel
theorem dX13_firstCome_71 : decode cX13_firstCome 71 = .ok (.invokestatic 349, 3) := by decide +kernel
theorem dX13_firstCome_74 : decode cX13_firstCome 74 = .ok (.aload_n 0, 1) := by decide +kernel
theorem dX13_firstCome_75 : decode cX13_firstCome 75 = .ok (.iload_n 1, 1) := by decide +kernel
theorem dX13_firstCome_76 : decode cX13_firstCome 76 = .ok (.invokevirtual 346, 3) := by decide +kernel
theorem dX13_firstCome_79 : decode cX13_firstCome 79 = .ok (.aload_n 0, 1) := by decide +kernel
theorem dX13_firstCome_80 : decode cX13_firstCome 80 = .ok (.getfield 13, 3) := by decide +kernel
theorem dX13_firstCome_83 : decode cX13_firstCome 83 = .ok (.aload_n 0, 1) := by decide +kernel
theorem dX13_firstCome_84 : decode cX13_firstCome 84 = .ok (.getfield 7, 3) := by decide +kernel
theorem dX13_firstCome_87 : decode cX13_firstCome 87 = .ok (.invokestatic 349, 3) := by decide +kernel
theorem dX13_firstCome_90 : decode cX13_firstCome 90 = .ok (.aload_n 0, 1) := by decide +kernel
theorem dX13_firstCome_91 : decode cX13_firstCome 91 = .ok (.getfield 306, 3) := by decide +kernel
theorem dX13_firstCome_94 : decode cX13_firstCome 94 = .ok (.iconst (-1), 1) := by decide +kernel
theorem dX13_firstCome_95 : decode cX13_firstCome 95 = .ok (.if_icmp .ne 6, 3) := by decide +kernel
theorem dX13_firstCome_98 : decode cX13_firstCome 98 = .ok (.bipush (-2), 2) := by decide +kernel
theorem dX13_firstCome_100 : decode cX13_firstCome 100 = .ok (.ireturn, 1) := by decide +kernel
theorem dX13_firstCome_101 : decode cX13_firstCome 101 = .ok (.iload_n 2, 1) := by decide +kernel
theorem dX13_firstCome_102 : decode cX13_firstCome 102 = .ok (.ifCond .ne 10, 3) := by decide +kernel
theorem dX13_firstCome_105 : decode cX13_firstCome 105 = .ok (.aload_n 0, 1) := by decide +kernel
theorem dX13_firstCome_106 : decode cX13_firstCome 106 = .ok (.getfield 306, 3) := by decide +kernel
theorem dX13_firstCome_109 : decode cX13_firstCome 109 = .ok (.goto 7, 3) := by decide +kernel
theorem dX13_firstCome_112 : decode cX13_firstCome 112 = .ok (.aload_n 0, 1) := by decide +kernel
theorem dX13_firstCome_113 : decode cX13_firstCome 113 = .ok (.getfield 309, 3) := by decide +kernel
theorem dX13_firstCome_116 : decode cX13_firstCome 116 = .ok (.ireturn, 1) := by decide +kernel
theorem dX13_areClashing_0 : decode cX13_areClashing 0 = .ok (.iload_n 0, 1) := by decide +kernel
theorem dX13_areClashing_1 : decode cX13_areClashing 1 = .ok (.iload_n 1, 1) := by decide +kernel
theorem dX13_areClashing_2 : decode cX13_areClashing 2 = .ok (.isub, 1) := by decide +kernel
theorem dX13_areClashing_3 : decode cX13_areClashing 3 = .ok (.invokestatic 134, 3) := by decide +kernel
theorem dX13_areClashing_6 : decode cX13_areClashing 6 = .ok (.istore_n 2, 1) := by decide +kernel
theorem dX13_areClashing_7 : decode cX13_areClashing 7 = .ok (.iload_n 0, 1) := by decide +kernel
theorem dX13_areClashing_8 : decode cX13_areClashing 8 = .ok (.ifCond .le 22, 3) := by decide +kernel
theorem dX13_areClashing_11 : decode cX13_areClashing 11 = .ok (.iload_n 1, 1) := by decide +kernel
theorem dX13_areClashing_12 : decode cX13_areClashing 12 = .ok (.ifCond .le 18, 3) := by decide +kernel
theorem dX13_areClashing_15 : decode cX13_areClashing 15 = .ok (.iload_n 2, 1) := by decide +kernel
theorem dX13_areClashing_16 : decode cX13_areClashing 16 = .ok (.iconst 1, 1) := by decide +kernel
theorem dX13_areClashing_17 : decode cX13_areClashing 17 = .ok (.if_icmp .eq 9, 3) := by decide +kernel
theorem dX13_areClashing_20 : decode cX13_areClashing 20 = .ok (.iload_n 2, 1) := by decide +kernel
theorem dX13_areClashing_21 : decode cX13_areClashing 21 = .ok (.bipush 6, 2) := by decide +kernel
theorem dX13_areClashing_23 : decode cX13_areClashing 23 = .ok (.if_icmp .ne 7, 3) := by decide +kernel
theorem dX13_areClashing_26 : decode cX13_areClashing 26 = .ok (.iconst 1, 1) := by decide +kernel
theorem dX13_areClashing_27 : decode cX13_areClashing 27 = .ok (.goto 4, 3) := by decide +kernel
theorem dX13_areClashing_30 : decode cX13_areClashing 30 = .ok (.iconst 0, 1) := by decide +kernel
theorem dX13_areClashing_31 : decode cX13_areClashing 31 = .ok (.ireturn, 1) := by decide +kernel
theorem dX13_soundOf_0 : decode cX13_soundOf 0 = .ok (.aload_n 0, 1) := by decide +kernel
theorem dX13_soundOf_1 : decode cX13_soundOf 1 = .ok (.iload_n 1, 1) := by decide +kernel
theorem dX13_soundOf_2 : decode cX13_soundOf 2 = .ok (.invokevirtual 118, 3) := by decide +kernel
theorem dX13_soundOf_5 : decode cX13_soundOf 5 = .ok (.ifCond .eq 31, 3) := by decide +kernel
theorem dX13_soundOf_8 : decode cX13_soundOf 8 = .ok (.aload_n 0, 1) := by decide +kernel
theorem dX13_soundOf_9 : decode cX13_soundOf 9 = .ok (.iload_n 1, 1) := by decide +kernel
theorem dX13_soundOf_10 : decode cX13_soundOf 10 = .ok (.invokevirtual 270, 3) := by decide +kernel
theorem dX13_soundOf_13 : decode cX13_soundOf 13 = .ok (.ifCond .ne 23, 3) := by decide +kernel
theorem dX13_soundOf_16 : decode cX13_soundOf 16 = .ok (.aload_n 0, 1) := by decide +kernel
theorem dX13_soundOf_17 : decode cX13_soundOf 17 = .ok (.getfield 7, 3) := by decide +kernel
theorem dX13_soundOf_20 : decode cX13_soundOf 20 = .ok (.bipush 72, 2) := by decide +kernel
theorem dX13_soundOf_22 : decode cX13_soundOf 22 = .ok (.iload_n 1, 1) := by decide +kernel
theorem dX13_soundOf_23 : decode cX13_soundOf 23 = .ok (.iadd, 1) := by decide +kernel
theorem dX13_soundOf_24 : decode cX13_soundOf 24 = .ok (.iaload, 1) := by decide +kernel
theorem dX13_soundOf_25 : decode cX13_soundOf 25 = .ok (.ifCond .ne 11, 3) := by decide +kernel
theorem dX13_soundOf_28 : decode cX13_soundOf 28 = .ok (.aload_n 0, 1) := by decide +kernel
theorem dX13_soundOf_29 : decode cX13_soundOf 29 = .ok (.iload_n 1, 1) := by decide +kernel
theorem dX13_soundOf_30 : decode cX13_soundOf 30 = .ok (.invokevirtual 276, 3) := by decide +kernel
theorem dX13_soundOf_33 : decode cX13_soundOf 33 = .ok (.goto 4, 3) := by decide +kernel
theorem dX13_soundOf_36 : decode cX13_soundOf 36 = .ok (.iconst 0, 1) := by decide +kernel
theorem dX13_soundOf_37 : decode cX13_soundOf 37 = .ok (.ireturn, 1) := by decide +kernel
theorem dX13_sounds_0 : decode cX13_sounds 0 = .ok (.iload_n 1, 1) := by decide +kernel
theorem dX13_sounds_1 : decode cX13_sounds 1 = .ok (.iconst 0, 1) := by decide +kernel
theorem dX13_sounds_2 : decode cX13_sounds 2 = .ok (.iconst 1, 1) := by decide +kernel
theorem dX13_sounds_3 : decode cX13_sounds 3 = .ok (.invokestatic 114, 3) := by decide +kernel
theorem dX13_sounds_6 : decode cX13_sounds 6 = .ok (.ifCond .ne 5, 3) := by decide +kernel
theorem dX13_sounds_9 : decode cX13_sounds 9 = .ok (.iconst (-1), 1) := by decide +kernel
theorem dX13_sounds_10 : decode cX13_sounds 10 = .ok (.ireturn, 1) := by decide +kernel
theorem dX13_sounds_11 : decode cX13_sounds 11 = .ok (.iconst 0, 1) := by decide +kernel
theorem dX13_sounds_12 : decode cX13_sounds 12 = .ok (.istore_n 2, 1) := by decide +kernel
theorem dX13_sounds_13 : decode cX13_sounds 13 = .ok (.iconst 0, 1) := by decide +kernel
theorem dX13_sounds_14 : decode cX13_sounds 14 = .ok (.istore_n 3, 1) := by decide +kernel
theorem dX13_sounds_15 : decode cX13_sounds 15 = .ok (.iconst 0, 1) := by decide +kernel
theorem dX13_sounds_16 : decode cX13_sounds 16 = .ok (.istore 4, 2) := by decide +kernel
theorem dX13_sounds_18 : decode cX13_sounds 18 = .ok (.iload 4, 2) := by decide +kernel
theorem dX13_sounds_20 : decode cX13_sounds 20 = .ok (.bipush 8, 2) := by decide +kernel
theorem dX13_sounds_22 : decode cX13_sounds 22 = .ok (.if_icmp .ge 67, 3) := by decide +kernel
theorem dX13_sounds_25 : decode cX13_sounds 25 = .ok (.aload_n 0, 1) := by decide +kernel
theorem dX13_sounds_26 : decode cX13_sounds 26 = .ok (.iload 4, 2) := by decide +kernel
theorem dX13_sounds_28 : decode cX13_sounds 28 = .ok (.invokevirtual 359, 3) := by decide +kernel
theorem dX13_sounds_31 : decode cX13_sounds 31 = .ok (.ifCond .le 14, 3) := by decide +kernel
theorem dX13_sounds_34 : decode cX13_sounds 34 = .ok (.iload_n 2, 1) := by decide +kernel
theorem dX13_sounds_35 : decode cX13_sounds 35 = .ok (.iconst 1, 1) := by decide +kernel
theorem dX13_sounds_36 : decode cX13_sounds 36 = .ok (.aload_n 0, 1) := by decide +kernel
theorem dX13_sounds_37 : decode cX13_sounds 37 = .ok (.iload 4, 2) := by decide +kernel
theorem dX13_sounds_39 : decode cX13_sounds 39 = .ok (.invokevirtual 359, 3) := by decide +kernel
theorem dX13_sounds_42 : decode cX13_sounds 42 = .ok (.ishl, 1) := by decide +kernel
theorem dX13_sounds_43 : decode cX13_sounds 43 = .ok (.ior, 1) := by decide +kernel
theorem dX13_sounds_44 : decode cX13_sounds 44 = .ok (.istore_n 2, 1) := by decide +kernel
theorem dX13_sounds_45 : decode cX13_sounds 45 = .ok (.iconst 0, 1) := by decide +kernel
theorem dX13_sounds_46 : decode cX13_sounds 46 = .ok (.istore 5, 2) := by decide +kernel
theorem dX13_sounds_48 : decode cX13_sounds 48 = .ok (.iload 5, 2) := by decide +kernel
theorem dX13_sounds_50 : decode cX13_sounds 50 = .ok (.iload 4, 2) := by decide +kernel
theorem dX13_sounds_52 : decode cX13_sounds 52 = .ok (.if_icmp .ge 31, 3) := by decide +kernel
theorem dX13_sounds_55 : decode cX13_sounds 55 = .ok (.aload_n 0, 1) := by decide +kernel
theorem dX13_sounds_56 : decode cX13_sounds 56 = .ok (.iload 4, 2) := by decide +kernel
theorem dX13_sounds_58 : decode cX13_sounds 58 = .ok (.invokevirtual 359, 3) := by decide +kernel
theorem dX13_sounds_61 : decode cX13_sounds 61 = .ok (.aload_n 0, 1) := by decide +kernel
theorem dX13_sounds_62 : decode cX13_sounds 62 = .ok (.iload 5, 2) := by decide +kernel
theorem dX13_sounds_64 : decode cX13_sounds 64 = .ok (.invokevirtual 359, 3) := by decide +kernel
theorem dX13_sounds_67 : decode cX13_sounds 67 = .ok (.invokestatic 362, 3) := by decide +kernel
theorem dX13_sounds_70 : decode cX13_sounds 70 = .ok (.ifCond .eq 7, 3) := by decide +kernel
theorem dX13_sounds_73 : decode cX13_sounds 73 = .ok (.iload_n 3, 1) := by decide +kernel
theorem dX13_sounds_74 : decode cX13_sounds 74 = .ok (.iconst 1, 1) := by decide +kernel
theorem dX13_sounds_75 : decode cX13_sounds 75 = .ok (.iadd, 1) := by decide +kernel
theorem dX13_sounds_76 : decode cX13_sounds 76 = .ok (.istore_n 3, 1) := by decide +kernel
theorem dX13_sounds_77 : decode cX13_sounds 77 = .ok (.iinc 5 1, 3) := by decide +kernel
theorem dX13_sounds_80 : decode cX13_sounds 80 = .ok (.goto (-32), 3) := by decide +kernel
theorem dX13_sounds_83 : decode cX13_sounds 83 = .ok (.iinc 4 1, 3) := by decide +kernel
theorem dX13_sounds_86 : decode cX13_sounds 86 = .ok (.goto (-68), 3) := by decide +kernel
theorem dX13_sounds_89 : decode cX13_sounds 89 = .ok (.iload_n 1, 1) := by decide +kernel
theorem dX13_sounds_90 : decode cX13_sounds 90 = .ok (.ifCond .ne 7, 3) := by decide +kernel
theorem dX13_sounds_93 : decode cX13_sounds 93 = .ok (.iload_n 2, 1) := by decide +kernel
theorem dX13_sounds_94 : decode cX13_sounds 94 = .ok (.goto 4, 3) := by decide +kernel
theorem dX13_sounds_97 : decode cX13_sounds 97 = .ok (.iload_n 3, 1) := by decide +kernel
theorem dX13_sounds_98 : decode cX13_sounds 98 = .ok (.ireturn, 1) := by decide +kernel
theorem dX13_clashesBy_0 : decode cX13_clashesBy 0 = .ok (.iconst 0, 1) := by decide +kernel
theorem dX13_clashesBy_1 : decode cX13_clashesBy 1 = .ok (.istore 4, 2) := by decide +kernel
theorem dX13_clashesBy_3 : decode cX13_clashesBy 3 = .ok (.iload_n 3, 1) := by decide +kernel
theorem dX13_clashesBy_4 : decode cX13_clashesBy 4 = .ok (.istore 5, 2) := by decide +kernel
theorem dX13_clashesBy_6 : decode cX13_clashesBy 6 = .ok (.iload 5, 2) := by decide +kernel
theorem dX13_clashesBy_8 : decode cX13_clashesBy 8 = .ok (.aload_n 0, 1) := by decide +kernel
theorem dX13_clashesBy_9 : decode cX13_clashesBy 9 = .ok (.getfield 31, 3) := by decide +kernel
theorem dX13_clashesBy_12 : decode cX13_clashesBy 12 = .ok (.iload_n 1, 1) := by decide +kernel
theorem dX13_clashesBy_13 : decode cX13_clashesBy 13 = .ok (.iaload, 1) := by decide +kernel
theorem dX13_clashesBy_14 : decode cX13_clashesBy 14 = .ok (.if_icmp .ge 60, 3) := by decide +kernel
theorem dX13_clashesBy_17 : decode cX13_clashesBy 17 = .ok (.iload 5, 2) := by decide +kernel
theorem dX13_clashesBy_19 : decode cX13_clashesBy 19 = .ok (.iload_n 3, 1) := by decide +kernel
theorem dX13_clashesBy_20 : decode cX13_clashesBy 20 = .ok (.isub, 1) := by decide +kernel
theorem dX13_clashesBy_21 : decode cX13_clashesBy 21 = .ok (.aload_n 0, 1) := by decide +kernel
theorem dX13_clashesBy_22 : decode cX13_clashesBy 22 = .ok (.getfield 31, 3) := by decide +kernel
theorem dX13_clashesBy_25 : decode cX13_clashesBy 25 = .ok (.iload_n 2, 1) := by decide +kernel
theorem dX13_clashesBy_26 : decode cX13_clashesBy 26 = .ok (.iaload, 1) := by decide +kernel
theorem dX13_clashesBy_27 : decode cX13_clashesBy 27 = .ok (.if_icmp .ge 47, 3) := by decide +kernel
theorem dX13_clashesBy_30 : decode cX13_clashesBy 30 = .ok (.aload_n 0, 1) := by decide +kernel
theorem dX13_clashesBy_31 : decode cX13_clashesBy 31 = .ok (.getfield 19, 3) := by decide +kernel
theorem dX13_clashesBy_34 : decode cX13_clashesBy 34 = .ok (.bipush 60, 2) := by decide +kernel
theorem dX13_clashesBy_36 : decode cX13_clashesBy 36 = .ok (.iload_n 1, 1) := by decide +kernel
theorem dX13_clashesBy_37 : decode cX13_clashesBy 37 = .ok (.imul, 1) := by decide +kernel
theorem dX13_clashesBy_38 : decode cX13_clashesBy 38 = .ok (.iload 5, 2) := by decide +kernel
theorem dX13_clashesBy_40 : decode cX13_clashesBy 40 = .ok (.iadd, 1) := by decide +kernel
theorem dX13_clashesBy_41 : decode cX13_clashesBy 41 = .ok (.iaload, 1) := by decide +kernel
theorem dX13_clashesBy_42 : decode cX13_clashesBy 42 = .ok (.aload_n 0, 1) := by decide +kernel
theorem dX13_clashesBy_43 : decode cX13_clashesBy 43 = .ok (.getfield 19, 3) := by decide +kernel
theorem dX13_clashesBy_46 : decode cX13_clashesBy 46 = .ok (.bipush 60, 2) := by decide +kernel
theorem dX13_clashesBy_48 : decode cX13_clashesBy 48 = .ok (.iload_n 2, 1) := by decide +kernel
theorem dX13_clashesBy_49 : decode cX13_clashesBy 49 = .ok (.imul, 1) := by decide +kernel
theorem dX13_clashesBy_50 : decode cX13_clashesBy 50 = .ok (.iload 5, 2) := by decide +kernel
theorem dX13_clashesBy_52 : decode cX13_clashesBy 52 = .ok (.iadd, 1) := by decide +kernel
theorem dX13_clashesBy_53 : decode cX13_clashesBy 53 = .ok (.iload_n 3, 1) := by decide +kernel
theorem dX13_clashesBy_54 : decode cX13_clashesBy 54 = .ok (.isub, 1) := by decide +kernel
theorem dX13_clashesBy_55 : decode cX13_clashesBy 55 = .ok (.iaload, 1) := by decide +kernel
theorem dX13_clashesBy_56 : decode cX13_clashesBy 56 = .ok (.invokestatic 362, 3) := by decide +kernel
theorem dX13_clashesBy_59 : decode cX13_clashesBy 59 = .ok (.ifCond .eq 9, 3) := by decide +kernel
theorem dX13_clashesBy_62 : decode cX13_clashesBy 62 = .ok (.iload 4, 2) := by decide +kernel
theorem dX13_clashesBy_64 : decode cX13_clashesBy 64 = .ok (.iconst 1, 1) := by decide +kernel
theorem dX13_clashesBy_65 : decode cX13_clashesBy 65 = .ok (.iadd, 1) := by decide +kernel
theorem dX13_clashesBy_66 : decode cX13_clashesBy 66 = .ok (.istore 4, 2) := by decide +kernel
theorem dX13_clashesBy_68 : decode cX13_clashesBy 68 = .ok (.iinc 5 1, 3) := by decide +kernel
theorem dX13_clashesBy_71 : decode cX13_clashesBy 71 = .ok (.goto (-65), 3) := by decide +kernel
theorem dX13_clashesBy_74 : decode cX13_clashesBy 74 = .ok (.iload 4, 2) := by decide +kernel
theorem dX13_clashesBy_76 : decode cX13_clashesBy 76 = .ok (.ireturn, 1) := by decide +kernel
theorem dX13_canon_0 : decode cX13_canon 0 = .ok (.iload_n 1, 1) := by decide +kernel
theorem dX13_canon_1 : decode cX13_canon 1 = .ok (.iconst 0, 1) := by decide +kernel
theorem dX13_canon_2 : decode cX13_canon 2 = .ok (.bipush 7, 2) := by decide +kernel
theorem dX13_canon_4 : decode cX13_canon 4 = .ok (.invokestatic 114, 3) := by decide +kernel
theorem dX13_canon_7 : decode cX13_canon 7 = .ok (.ifCond .eq 13, 3) := by decide +kernel
theorem dX13_canon_10 : decode cX13_canon 10 = .ok (.iload_n 2, 1) := by decide +kernel
theorem dX13_canon_11 : decode cX13_canon 11 = .ok (.iconst 0, 1) := by decide +kernel
theorem dX13_canon_12 : decode cX13_canon 12 = .ok (.bipush 7, 2) := by decide +kernel
theorem dX13_canon_14 : decode cX13_canon 14 = .ok (.invokestatic 114, 3) := by decide +kernel
theorem dX13_canon_17 : decode cX13_canon 17 = .ok (.ifCond .ne 5, 3) := by decide +kernel
theorem dX13_canon_20 : decode cX13_canon 20 = .ok (.iconst (-1), 1) := by decide +kernel
theorem dX13_canon_21 : decode cX13_canon 21 = .ok (.ireturn, 1) := by decide +kernel
theorem dX13_canon_22 : decode cX13_canon 22 = .ok (.iload_n 3, 1) := by decide +kernel
theorem dX13_canon_23 : decode cX13_canon 23 = .ok (.iconst 0, 1) := by decide +kernel
theorem dX13_canon_24 : decode cX13_canon 24 = .ok (.bipush 59, 2) := by decide +kernel
theorem dX13_canon_26 : decode cX13_canon 26 = .ok (.invokestatic 114, 3) := by decide +kernel
theorem dX13_canon_29 : decode cX13_canon 29 = .ok (.ifCond .eq 11, 3) := by decide +kernel
theorem dX13_canon_32 : decode cX13_canon 32 = .ok (.aload_n 0, 1) := by decide +kernel
theorem dX13_canon_33 : decode cX13_canon 33 = .ok (.iload_n 1, 1) := by decide +kernel
theorem dX13_canon_34 : decode cX13_canon 34 = .ok (.iload_n 2, 1) := by decide +kernel
theorem dX13_canon_35 : decode cX13_canon 35 = .ok (.iload_n 3, 1) := by decide +kernel
theorem dX13_canon_36 : decode cX13_canon 36 = .ok (.invokevirtual 365, 3) := by decide +kernel
theorem dX13_canon_39 : decode cX13_canon 39 = .ok (.ireturn, 1) := by decide +kernel
theorem dX13_canon_40 : decode cX13_canon 40 = .ok (.iload_n 3, 1) := by decide +kernel
theorem dX13_canon_41 : decode cX13_canon 41 = .ok (.bipush 100, 2) := by decide +kernel
theorem dX13_canon_43 : decode cX13_canon 43 = .ok (.bipush 101, 2) := by decide +kernel
theorem dX13_canon_45 : decode cX13_canon 45 = .ok (.invokestatic 114, 3) := by decide +kernel
theorem dX13_canon_48 : decode cX13_canon 48 = .ok (.ifCond .ne 5, 3) := by decide +kernel
theorem dX13_canon_51 : decode cX13_canon 51 = .ok (.iconst (-1), 1) := by decide +kernel
theorem dX13_canon_52 : decode cX13_canon 52 = .ok (.ireturn, 1) := by decide +kernel
theorem dX13_canon_53 : decode cX13_canon 53 = .ok (.iconst 0, 1) := by decide +kernel
theorem dX13_canon_54 : decode cX13_canon 54 = .ok (.istore 4, 2) := by decide +kernel
theorem dX13_canon_56 : decode cX13_canon 56 = .ok (.iconst 1, 1) := by decide +kernel
theorem dX13_canon_57 : decode cX13_canon 57 = .ok (.istore 5, 2) := by decide +kernel
theorem dX13_canon_59 : decode cX13_canon 59 = .ok (.iload 5, 2) := by decide +kernel
theorem dX13_canon_61 : decode cX13_canon 61 = .ok (.bipush 60, 2) := by decide +kernel
theorem dX13_canon_63 : decode cX13_canon 63 = .ok (.if_icmp .ge 32, 3) := by decide +kernel
theorem dX13_canon_66 : decode cX13_canon 66 = .ok (.aload_n 0, 1) := by decide +kernel
theorem dX13_canon_67 : decode cX13_canon 67 = .ok (.iload_n 1, 1) := by decide +kernel
theorem dX13_canon_68 : decode cX13_canon 68 = .ok (.iload_n 2, 1) := by decide +kernel
theorem dX13_canon_69 : decode cX13_canon 69 = .ok (.iload 5, 2) := by decide +kernel
theorem dX13_canon_71 : decode cX13_canon 71 = .ok (.invokevirtual 365, 3) := by decide +kernel
theorem dX13_canon_74 : decode cX13_canon 74 = .ok (.aload_n 0, 1) := by decide +kernel
theorem dX13_canon_75 : decode cX13_canon 75 = .ok (.iload_n 1, 1) := by decide +kernel
theorem dX13_canon_76 : decode cX13_canon 76 = .ok (.iload_n 2, 1) := by decide +kernel
theorem dX13_canon_77 : decode cX13_canon 77 = .ok (.iload 4, 2) := by decide +kernel
theorem dX13_canon_79 : decode cX13_canon 79 = .ok (.invokevirtual 365, 3) := by decide +kernel
theorem dX13_canon_82 : decode cX13_canon 82 = .ok (.if_icmp .ge 7, 3) := by decide +kernel
theorem dX13_canon_85 : decode cX13_canon 85 = .ok (.iload 5, 2) := by decide +kernel
theorem dX13_canon_87 : decode cX13_canon 87 = .ok (.istore 4, 2) := by decide +kernel
theorem dX13_canon_89 : decode cX13_canon 89 = .ok (.iinc 5 1, 3) := by decide +kernel
theorem dX13_canon_92 : decode cX13_canon 92 = .ok (.goto (-33), 3) := by decide +kernel
theorem dX13_canon_95 : decode cX13_canon 95 = .ok (.iload_n 3, 1) := by decide +kernel
theorem dX13_canon_96 : decode cX13_canon 96 = .ok (.bipush 100, 2) := by decide +kernel
theorem dX13_canon_98 : decode cX13_canon 98 = .ok (.if_icmp .ne 8, 3) := by decide +kernel
theorem dX13_canon_101 : decode cX13_canon 101 = .ok (.iload 4, 2) := by decide +kernel
theorem dX13_canon_103 : decode cX13_canon 103 = .ok (.goto 11, 3) := by decide +kernel
theorem dX13_canon_106 : decode cX13_canon 106 = .ok (.aload_n 0, 1) := by decide +kernel
theorem dX13_canon_107 : decode cX13_canon 107 = .ok (.iload_n 1, 1) := by decide +kernel
theorem dX13_canon_108 : decode cX13_canon 108 = .ok (.iload_n 2, 1) := by decide +kernel
theorem dX13_canon_109 : decode cX13_canon 109 = .ok (.iload 4, 2) := by decide +kernel
theorem dX13_canon_111 : decode cX13_canon 111 = .ok (.invokevirtual 365, 3) := by decide +kernel
theorem dX13_canon_114 : decode cX13_canon 114 = .ok (.ireturn, 1) := by decide +kernel
theorem dX13_laysTune_0 : decode cX13_laysTune 0 = .ok (.iconst 0, 1) := by decide +kernel
theorem dX13_laysTune_1 : decode cX13_laysTune 1 = .ok (.istore_n 3, 1) := by decide +kernel
theorem dX13_laysTune_2 : decode cX13_laysTune 2 = .ok (.iconst 0, 1) := by decide +kernel
theorem dX13_laysTune_3 : decode cX13_laysTune 3 = .ok (.istore 4, 2) := by decide +kernel
theorem dX13_laysTune_5 : decode cX13_laysTune 5 = .ok (.iload 4, 2) := by decide +kernel
theorem dX13_laysTune_7 : decode cX13_laysTune 7 = .ok (.aload_n 0, 1) := by decide +kernel
theorem dX13_laysTune_8 : decode cX13_laysTune 8 = .ok (.getfield 31, 3) := by decide +kernel
theorem dX13_laysTune_11 : decode cX13_laysTune 11 = .ok (.iload_n 1, 1) := by decide +kernel
theorem dX13_laysTune_12 : decode cX13_laysTune 12 = .ok (.iaload, 1) := by decide +kernel
theorem dX13_laysTune_13 : decode cX13_laysTune 13 = .ok (.if_icmp .ge 61, 3) := by decide +kernel
theorem dX13_laysTune_16 : decode cX13_laysTune 16 = .ok (.aload_n 0, 1) := by decide +kernel
theorem dX13_laysTune_17 : decode cX13_laysTune 17 = .ok (.getfield 28, 3) := by decide +kernel
theorem dX13_laysTune_20 : decode cX13_laysTune 20 = .ok (.bipush 60, 2) := by decide +kernel
theorem dX13_laysTune_22 : decode cX13_laysTune 22 = .ok (.iload_n 1, 1) := by decide +kernel
theorem dX13_laysTune_23 : decode cX13_laysTune 23 = .ok (.imul, 1) := by decide +kernel
theorem dX13_laysTune_24 : decode cX13_laysTune 24 = .ok (.iload 4, 2) := by decide +kernel
theorem dX13_laysTune_26 : decode cX13_laysTune 26 = .ok (.iadd, 1) := by decide +kernel
theorem dX13_laysTune_27 : decode cX13_laysTune 27 = .ok (.iaload, 1) := by decide +kernel
theorem dX13_laysTune_28 : decode cX13_laysTune 28 = .ok (.ifCond .eq 40, 3) := by decide +kernel
theorem dX13_laysTune_31 : decode cX13_laysTune 31 = .ok (.aload_n 0, 1) := by decide +kernel
theorem dX13_laysTune_32 : decode cX13_laysTune 32 = .ok (.getfield 19, 3) := by decide +kernel
theorem dX13_laysTune_35 : decode cX13_laysTune 35 = .ok (.bipush 60, 2) := by decide +kernel
theorem dX13_laysTune_37 : decode cX13_laysTune 37 = .ok (.iload_n 1, 1) := by decide +kernel
theorem dX13_laysTune_38 : decode cX13_laysTune 38 = .ok (.imul, 1) := by decide +kernel
theorem dX13_laysTune_39 : decode cX13_laysTune 39 = .ok (.iload 4, 2) := by decide +kernel
theorem dX13_laysTune_41 : decode cX13_laysTune 41 = .ok (.iadd, 1) := by decide +kernel
theorem dX13_laysTune_42 : decode cX13_laysTune 42 = .ok (.iaload, 1) := by decide +kernel
theorem dX13_laysTune_43 : decode cX13_laysTune 43 = .ok (.ifCond .ne 6, 3) := by decide +kernel
theorem dX13_laysTune_46 : decode cX13_laysTune 46 = .ok (.goto 22, 3) := by decide +kernel
theorem dX13_laysTune_49 : decode cX13_laysTune 49 = .ok (.aload_n 2, 1) := by decide +kernel
theorem dX13_laysTune_50 : decode cX13_laysTune 50 = .ok (.iload_n 3, 1) := by decide +kernel
theorem dX13_laysTune_51 : decode cX13_laysTune 51 = .ok (.aload_n 0, 1) := by decide +kernel
theorem dX13_laysTune_52 : decode cX13_laysTune 52 = .ok (.getfield 19, 3) := by decide +kernel
theorem dX13_laysTune_55 : decode cX13_laysTune 55 = .ok (.bipush 60, 2) := by decide +kernel
theorem dX13_laysTune_57 : decode cX13_laysTune 57 = .ok (.iload_n 1, 1) := by decide +kernel
theorem dX13_laysTune_58 : decode cX13_laysTune 58 = .ok (.imul, 1) := by decide +kernel
theorem dX13_laysTune_59 : decode cX13_laysTune 59 = .ok (.iload 4, 2) := by decide +kernel
theorem dX13_laysTune_61 : decode cX13_laysTune 61 = .ok (.iadd, 1) := by decide +kernel
theorem dX13_laysTune_62 : decode cX13_laysTune 62 = .ok (.iaload, 1) := by decide +kernel
theorem dX13_laysTune_63 : decode cX13_laysTune 63 = .ok (.iastore, 1) := by decide +kernel
theorem dX13_laysTune_64 : decode cX13_laysTune 64 = .ok (.iload_n 3, 1) := by decide +kernel
theorem dX13_laysTune_65 : decode cX13_laysTune 65 = .ok (.iconst 1, 1) := by decide +kernel
theorem dX13_laysTune_66 : decode cX13_laysTune 66 = .ok (.iadd, 1) := by decide +kernel
theorem dX13_laysTune_67 : decode cX13_laysTune 67 = .ok (.istore_n 3, 1) := by decide +kernel
theorem dX13_laysTune_68 : decode cX13_laysTune 68 = .ok (.iinc 4 1, 3) := by decide +kernel
theorem dX13_laysTune_71 : decode cX13_laysTune 71 = .ok (.goto (-66), 3) := by decide +kernel
theorem dX13_laysTune_74 : decode cX13_laysTune 74 = .ok (.iload_n 3, 1) := by decide +kernel
theorem dX13_laysTune_75 : decode cX13_laysTune 75 = .ok (.ireturn, 1) := by decide +kernel
theorem dX13_longestRow_0 : decode cX13_longestRow 0 = .ok (.iconst 0, 1) := by decide +kernel
theorem dX13_longestRow_1 : decode cX13_longestRow 1 = .ok (.istore_n 3, 1) := by decide +kernel
theorem dX13_longestRow_2 : decode cX13_longestRow 2 = .ok (.iconst 0, 1) := by decide +kernel
theorem dX13_longestRow_3 : decode cX13_longestRow 3 = .ok (.istore 4, 2) := by decide +kernel
theorem dX13_longestRow_5 : decode cX13_longestRow 5 = .ok (.iload 4, 2) := by decide +kernel
theorem dX13_longestRow_7 : decode cX13_longestRow 7 = .ok (.iload_n 1, 1) := by decide +kernel
theorem dX13_longestRow_8 : decode cX13_longestRow 8 = .ok (.if_icmp .ge 127, 3) := by decide +kernel
theorem dX13_longestRow_11 : decode cX13_longestRow 11 = .ok (.iconst 0, 1) := by decide +kernel
theorem dX13_longestRow_12 : decode cX13_longestRow 12 = .ok (.istore 5, 2) := by decide +kernel
theorem dX13_longestRow_14 : decode cX13_longestRow 14 = .ok (.iload 5, 2) := by decide +kernel
theorem dX13_longestRow_16 : decode cX13_longestRow 16 = .ok (.iload_n 2, 1) := by decide +kernel
theorem dX13_longestRow_17 : decode cX13_longestRow 17 = .ok (.if_icmp .ge 112, 3) := by decide +kernel
theorem dX13_longestRow_20 : decode cX13_longestRow 20 = .ok (.iconst 1, 1) := by decide +kernel
theorem dX13_longestRow_21 : decode cX13_longestRow 21 = .ok (.istore 6, 2) := by decide +kernel
theorem dX13_longestRow_23 : decode cX13_longestRow 23 = .ok (.iload 4, 2) := by decide +kernel
theorem dX13_longestRow_25 : decode cX13_longestRow 25 = .ok (.iload 6, 2) := by decide +kernel
theorem dX13_longestRow_27 : decode cX13_longestRow 27 = .ok (.iadd, 1) := by decide +kernel
theorem dX13_longestRow_28 : decode cX13_longestRow 28 = .ok (.iload_n 1, 1) := by decide +kernel
theorem dX13_longestRow_29 : decode cX13_longestRow 29 = .ok (.if_icmp .ge 70, 3) := by decide +kernel
theorem dX13_longestRow_32 : decode cX13_longestRow 32 = .ok (.iload 5, 2) := by decide +kernel
theorem dX13_longestRow_34 : decode cX13_longestRow 34 = .ok (.iload 6, 2) := by decide +kernel
theorem dX13_longestRow_36 : decode cX13_longestRow 36 = .ok (.iadd, 1) := by decide +kernel
theorem dX13_longestRow_37 : decode cX13_longestRow 37 = .ok (.iload_n 2, 1) := by decide +kernel
theorem dX13_longestRow_38 : decode cX13_longestRow 38 = .ok (.if_icmp .ge 61, 3) := by decide +kernel
theorem dX13_longestRow_41 : decode cX13_longestRow 41 = .ok (.aload_n 0, 1) := by decide +kernel
theorem dX13_longestRow_42 : decode cX13_longestRow 42 = .ok (.getfield 98, 3) := by decide +kernel
theorem dX13_longestRow_45 : decode cX13_longestRow 45 = .ok (.iload 4, 2) := by decide +kernel
theorem dX13_longestRow_47 : decode cX13_longestRow 47 = .ok (.iload 6, 2) := by decide +kernel
theorem dX13_longestRow_49 : decode cX13_longestRow 49 = .ok (.iadd, 1) := by decide +kernel
theorem dX13_longestRow_50 : decode cX13_longestRow 50 = .ok (.iaload, 1) := by decide +kernel
theorem dX13_longestRow_51 : decode cX13_longestRow 51 = .ok (.aload_n 0, 1) := by decide +kernel
theorem dX13_longestRow_52 : decode cX13_longestRow 52 = .ok (.getfield 98, 3) := by decide +kernel
theorem dX13_longestRow_55 : decode cX13_longestRow 55 = .ok (.iload 4, 2) := by decide +kernel
theorem dX13_longestRow_57 : decode cX13_longestRow 57 = .ok (.iload 6, 2) := by decide +kernel
theorem dX13_longestRow_59 : decode cX13_longestRow 59 = .ok (.iadd, 1) := by decide +kernel
theorem dX13_longestRow_60 : decode cX13_longestRow 60 = .ok (.iconst 1, 1) := by decide +kernel
theorem dX13_longestRow_61 : decode cX13_longestRow 61 = .ok (.isub, 1) := by decide +kernel
theorem dX13_longestRow_62 : decode cX13_longestRow 62 = .ok (.iaload, 1) := by decide +kernel
theorem dX13_longestRow_63 : decode cX13_longestRow 63 = .ok (.isub, 1) := by decide +kernel
theorem dX13_longestRow_64 : decode cX13_longestRow 64 = .ok (.aload_n 0, 1) := by decide +kernel
theorem dX13_longestRow_65 : decode cX13_longestRow 65 = .ok (.getfield 101, 3) := by decide +kernel
theorem dX13_longestRow_68 : decode cX13_longestRow 68 = .ok (.iload 5, 2) := by decide +kernel
theorem dX13_longestRow_70 : decode cX13_longestRow 70 = .ok (.iload 6, 2) := by decide +kernel
theorem dX13_longestRow_72 : decode cX13_longestRow 72 = .ok (.iadd, 1) := by decide +kernel
theorem dX13_longestRow_73 : decode cX13_longestRow 73 = .ok (.iaload, 1) := by decide +kernel
theorem dX13_longestRow_74 : decode cX13_longestRow 74 = .ok (.aload_n 0, 1) := by decide +kernel
theorem dX13_longestRow_75 : decode cX13_longestRow 75 = .ok (.getfield 101, 3) := by decide +kernel
theorem dX13_longestRow_78 : decode cX13_longestRow 78 = .ok (.iload 5, 2) := by decide +kernel
theorem dX13_longestRow_80 : decode cX13_longestRow 80 = .ok (.iload 6, 2) := by decide +kernel
theorem dX13_longestRow_82 : decode cX13_longestRow 82 = .ok (.iadd, 1) := by decide +kernel
theorem dX13_longestRow_83 : decode cX13_longestRow 83 = .ok (.iconst 1, 1) := by decide +kernel
theorem dX13_longestRow_84 : decode cX13_longestRow 84 = .ok (.isub, 1) := by decide +kernel
theorem dX13_longestRow_85 : decode cX13_longestRow 85 = .ok (.iaload, 1) := by decide +kernel
theorem dX13_longestRow_86 : decode cX13_longestRow 86 = .ok (.isub, 1) := by decide +kernel
theorem dX13_longestRow_87 : decode cX13_longestRow 87 = .ok (.if_icmp .ne 12, 3) := by decide +kernel
theorem dX13_longestRow_90 : decode cX13_longestRow 90 = .ok (.iload 6, 2) := by decide +kernel
theorem dX13_longestRow_92 : decode cX13_longestRow 92 = .ok (.iconst 1, 1) := by decide +kernel
theorem dX13_longestRow_93 : decode cX13_longestRow 93 = .ok (.iadd, 1) := by decide +kernel
theorem dX13_longestRow_94 : decode cX13_longestRow 94 = .ok (.istore 6, 2) := by decide +kernel
theorem dX13_longestRow_96 : decode cX13_longestRow 96 = .ok (.goto (-73), 3) := by decide +kernel
theorem dX13_longestRow_99 : decode cX13_longestRow 99 = .ok (.iload 6, 2) := by decide +kernel
theorem dX13_longestRow_101 : decode cX13_longestRow 101 = .ok (.iload_n 3, 1) := by decide +kernel
theorem dX13_longestRow_102 : decode cX13_longestRow 102 = .ok (.if_icmp .gt 6, 3) := by decide +kernel
theorem dX13_longestRow_105 : decode cX13_longestRow 105 = .ok (.goto 18, 3) := by decide +kernel
theorem dX13_longestRow_108 : decode cX13_longestRow 108 = .ok (.iload 6, 2) := by decide +kernel
theorem dX13_longestRow_110 : decode cX13_longestRow 110 = .ok (.istore_n 3, 1) := by decide +kernel
theorem dX13_longestRow_111 : decode cX13_longestRow 111 = .ok (.aload_n 0, 1) := by decide +kernel
theorem dX13_longestRow_112 : decode cX13_longestRow 112 = .ok (.iload 4, 2) := by decide +kernel
theorem dX13_longestRow_114 : decode cX13_longestRow 114 = .ok (.putfield 368, 3) := by decide +kernel
theorem dX13_longestRow_117 : decode cX13_longestRow 117 = .ok (.aload_n 0, 1) := by decide +kernel
theorem dX13_longestRow_118 : decode cX13_longestRow 118 = .ok (.iload 5, 2) := by decide +kernel
theorem dX13_longestRow_120 : decode cX13_longestRow 120 = .ok (.putfield 371, 3) := by decide +kernel
theorem dX13_longestRow_123 : decode cX13_longestRow 123 = .ok (.iinc 5 1, 3) := by decide +kernel
theorem dX13_longestRow_126 : decode cX13_longestRow 126 = .ok (.goto (-112), 3) := by decide +kernel
theorem dX13_longestRow_129 : decode cX13_longestRow 129 = .ok (.iinc 4 1, 3) := by decide +kernel
theorem dX13_longestRow_132 : decode cX13_longestRow 132 = .ok (.goto (-127), 3) := by decide +kernel
theorem dX13_longestRow_135 : decode cX13_longestRow 135 = .ok (.iload_n 3, 1) := by decide +kernel
theorem dX13_longestRow_136 : decode cX13_longestRow 136 = .ok (.ireturn, 1) := by decide +kernel
theorem dX13_returns_0 : decode cX13_returns 0 = .ok (.iload_n 1, 1) := by decide +kernel
theorem dX13_returns_1 : decode cX13_returns 1 = .ok (.iconst 0, 1) := by decide +kernel
theorem dX13_returns_2 : decode cX13_returns 2 = .ok (.bipush 7, 2) := by decide +kernel
theorem dX13_returns_4 : decode cX13_returns 4 = .ok (.invokestatic 114, 3) := by decide +kernel
theorem dX13_returns_7 : decode cX13_returns 7 = .ok (.ifCond .eq 22, 3) := by decide +kernel
theorem dX13_returns_10 : decode cX13_returns 10 = .ok (.iload_n 2, 1) := by decide +kernel
theorem dX13_returns_11 : decode cX13_returns 11 = .ok (.iconst 0, 1) := by decide +kernel
theorem dX13_returns_12 : decode cX13_returns 12 = .ok (.bipush 7, 2) := by decide +kernel
theorem dX13_returns_14 : decode cX13_returns 14 = .ok (.invokestatic 114, 3) := by decide +kernel
theorem dX13_returns_17 : decode cX13_returns 17 = .ok (.ifCond .eq 12, 3) := by decide +kernel
theorem dX13_returns_20 : decode cX13_returns 20 = .ok (.iload_n 3, 1) := by decide +kernel
theorem dX13_returns_21 : decode cX13_returns 21 = .ok (.iconst 0, 1) := by decide +kernel
theorem dX13_returns_22 : decode cX13_returns 22 = .ok (.iconst 3, 1) := by decide +kernel
theorem dX13_returns_23 : decode cX13_returns 23 = .ok (.invokestatic 114, 3) := by decide +kernel
theorem dX13_returns_26 : decode cX13_returns 26 = .ok (.ifCond .ne 7, 3) := by decide +kernel
theorem dX13_returns_29 : decode cX13_returns 29 = .ok (.sipush (-1000), 3) := by decide +kernel
theorem dX13_returns_32 : decode cX13_returns 32 = .ok (.ireturn, 1) := by decide +kernel
theorem dX13_returns_33 : decode cX13_returns 33 = .ok (.aload_n 0, 1) := by decide +kernel
theorem dX13_returns_34 : decode cX13_returns 34 = .ok (.aload_n 0, 1) := by decide +kernel
theorem dX13_returns_35 : decode cX13_returns 35 = .ok (.iload_n 1, 1) := by decide +kernel
theorem dX13_returns_36 : decode cX13_returns 36 = .ok (.aload_n 0, 1) := by decide +kernel
theorem dX13_returns_37 : decode cX13_returns 37 = .ok (.getfield 98, 3) := by decide +kernel
theorem dX13_returns_40 : decode cX13_returns 40 = .ok (.invokevirtual 374, 3) := by decide +kernel
theorem dX13_returns_43 : decode cX13_returns 43 = .ok (.aload_n 0, 1) := by decide +kernel
theorem dX13_returns_44 : decode cX13_returns 44 = .ok (.iload_n 2, 1) := by decide +kernel
theorem dX13_returns_45 : decode cX13_returns 45 = .ok (.aload_n 0, 1) := by decide +kernel
theorem dX13_returns_46 : decode cX13_returns 46 = .ok (.getfield 101, 3) := by decide +kernel
theorem dX13_returns_49 : decode cX13_returns 49 = .ok (.invokevirtual 374, 3) := by decide +kernel
theorem dX13_returns_52 : decode cX13_returns 52 = .ok (.invokevirtual 378, 3) := by decide +kernel
theorem dX13_returns_55 : decode cX13_returns 55 = .ok (.istore 4, 2) := by decide +kernel
theorem dX13_returns_57 : decode cX13_returns 57 = .ok (.iload_n 3, 1) := by decide +kernel
theorem dX13_returns_58 : decode cX13_returns 58 = .ok (.ifCond .ne 6, 3) := by decide +kernel
theorem dX13_returns_61 : decode cX13_returns 61 = .ok (.iload 4, 2) := by decide +kernel
theorem dX13_returns_63 : decode cX13_returns 63 = .ok (.ireturn, 1) := by decide +kernel
theorem dX13_returns_64 : decode cX13_returns 64 = .ok (.iload 4, 2) := by decide +kernel
theorem dX13_returns_66 : decode cX13_returns 66 = .ok (.ifCond .ne 7, 3) := by decide +kernel
theorem dX13_returns_69 : decode cX13_returns 69 = .ok (.sipush (-2000), 3) := by decide +kernel
theorem dX13_returns_72 : decode cX13_returns 72 = .ok (.ireturn, 1) := by decide +kernel
theorem dX13_returns_73 : decode cX13_returns 73 = .ok (.iload_n 3, 1) := by decide +kernel
theorem dX13_returns_74 : decode cX13_returns 74 = .ok (.iconst 1, 1) := by decide +kernel
theorem dX13_returns_75 : decode cX13_returns 75 = .ok (.if_icmp .ne 10, 3) := by decide +kernel
theorem dX13_returns_78 : decode cX13_returns 78 = .ok (.aload_n 0, 1) := by decide +kernel
theorem dX13_returns_79 : decode cX13_returns 79 = .ok (.getfield 368, 3) := by decide +kernel
theorem dX13_returns_82 : decode cX13_returns 82 = .ok (.goto 34, 3) := by decide +kernel
theorem dX13_returns_85 : decode cX13_returns 85 = .ok (.iload_n 3, 1) := by decide +kernel
theorem dX13_returns_86 : decode cX13_returns 86 = .ok (.iconst 2, 1) := by decide +kernel
theorem dX13_returns_87 : decode cX13_returns 87 = .ok (.if_icmp .ne 10, 3) := by decide +kernel
theorem dX13_returns_90 : decode cX13_returns 90 = .ok (.aload_n 0, 1) := by decide +kernel
theorem dX13_returns_91 : decode cX13_returns 91 = .ok (.getfield 371, 3) := by decide +kernel
theorem dX13_returns_94 : decode cX13_returns 94 = .ok (.goto 22, 3) := by decide +kernel
theorem dX13_returns_97 : decode cX13_returns 97 = .ok (.aload_n 0, 1) := by decide +kernel
theorem dX13_returns_98 : decode cX13_returns 98 = .ok (.getfield 101, 3) := by decide +kernel
theorem dX13_returns_101 : decode cX13_returns 101 = .ok (.aload_n 0, 1) := by decide +kernel
theorem dX13_returns_102 : decode cX13_returns 102 = .ok (.getfield 371, 3) := by decide +kernel
theorem dX13_returns_105 : decode cX13_returns 105 = .ok (.iaload, 1) := by decide +kernel
theorem dX13_returns_106 : decode cX13_returns 106 = .ok (.aload_n 0, 1) := by decide +kernel
theorem dX13_returns_107 : decode cX13_returns 107 = .ok (.getfield 98, 3) := by decide +kernel
theorem dX13_returns_110 : decode cX13_returns 110 = .ok (.aload_n 0, 1) := by decide +kernel
theorem dX13_returns_111 : decode cX13_returns 111 = .ok (.getfield 368, 3) := by decide +kernel
theorem dX13_returns_114 : decode cX13_returns 114 = .ok (.iaload, 1) := by decide +kernel
theorem dX13_returns_115 : decode cX13_returns 115 = .ok (.isub, 1) := by decide +kernel
theorem dX13_returns_116 : decode cX13_returns 116 = .ok (.ireturn, 1) := by decide +kernel
theorem dX13_backwards_0 : decode cX13_backwards 0 = .ok (.iload_n 1, 1) := by decide +kernel
theorem dX13_backwards_1 : decode cX13_backwards 1 = .ok (.iconst 0, 1) := by decide +kernel
theorem dX13_backwards_2 : decode cX13_backwards 2 = .ok (.bipush 7, 2) := by decide +kernel
theorem dX13_backwards_4 : decode cX13_backwards 4 = .ok (.invokestatic 114, 3) := by decide +kernel
theorem dX13_backwards_7 : decode cX13_backwards 7 = .ok (.ifCond .eq 13, 3) := by decide +kernel
theorem dX13_backwards_10 : decode cX13_backwards 10 = .ok (.iload_n 2, 1) := by decide +kernel
theorem dX13_backwards_11 : decode cX13_backwards 11 = .ok (.iconst 0, 1) := by decide +kernel
theorem dX13_backwards_12 : decode cX13_backwards 12 = .ok (.bipush 7, 2) := by decide +kernel
theorem dX13_backwards_14 : decode cX13_backwards 14 = .ok (.invokestatic 114, 3) := by decide +kernel
theorem dX13_backwards_17 : decode cX13_backwards 17 = .ok (.ifCond .ne 5, 3) := by decide +kernel
theorem dX13_backwards_20 : decode cX13_backwards 20 = .ok (.iconst (-1), 1) := by decide +kernel
theorem dX13_backwards_21 : decode cX13_backwards 21 = .ok (.ireturn, 1) := by decide +kernel
theorem dX13_backwards_22 : decode cX13_backwards 22 = .ok (.aload_n 0, 1) := by decide +kernel
theorem dX13_backwards_23 : decode cX13_backwards 23 = .ok (.iload_n 1, 1) := by decide +kernel
theorem dX13_backwards_24 : decode cX13_backwards 24 = .ok (.aload_n 0, 1) := by decide +kernel
theorem dX13_backwards_25 : decode cX13_backwards 25 = .ok (.getfield 98, 3) := by decide +kernel
theorem dX13_backwards_28 : decode cX13_backwards 28 = .ok (.invokevirtual 374, 3) := by decide +kernel
theorem dX13_backwards_31 : decode cX13_backwards 31 = .ok (.istore_n 3, 1) := by decide +kernel
theorem dX13_backwards_32 : decode cX13_backwards 32 = .ok (.aload_n 0, 1) := by decide +kernel
theorem dX13_backwards_33 : decode cX13_backwards 33 = .ok (.iload_n 2, 1) := by decide +kernel
theorem dX13_backwards_34 : decode cX13_backwards 34 = .ok (.aload_n 0, 1) := by decide +kernel
theorem dX13_backwards_35 : decode cX13_backwards 35 = .ok (.getfield 101, 3) := by decide +kernel
theorem dX13_backwards_38 : decode cX13_backwards 38 = .ok (.invokevirtual 374, 3) := by decide +kernel
theorem dX13_backwards_41 : decode cX13_backwards 41 = .ok (.iload_n 3, 1) := by decide +kernel
theorem dX13_backwards_42 : decode cX13_backwards 42 = .ok (.if_icmp .eq 5, 3) := by decide +kernel
theorem dX13_backwards_45 : decode cX13_backwards 45 = .ok (.iconst 0, 1) := by decide +kernel
theorem dX13_backwards_46 : decode cX13_backwards 46 = .ok (.ireturn, 1) := by decide +kernel
theorem dX13_backwards_47 : decode cX13_backwards 47 = .ok (.iconst 0, 1) := by decide +kernel
theorem dX13_backwards_48 : decode cX13_backwards 48 = .ok (.istore 4, 2) := by decide +kernel
theorem dX13_backwards_50 : decode cX13_backwards 50 = .ok (.iload 4, 2) := by decide +kernel
theorem dX13_backwards_52 : decode cX13_backwards 52 = .ok (.iload_n 3, 1) := by decide +kernel
theorem dX13_backwards_53 : decode cX13_backwards 53 = .ok (.if_icmp .ge 32, 3) := by decide +kernel
theorem dX13_backwards_56 : decode cX13_backwards 56 = .ok (.aload_n 0, 1) := by decide +kernel
theorem dX13_backwards_57 : decode cX13_backwards 57 = .ok (.getfield 98, 3) := by decide +kernel
theorem dX13_backwards_60 : decode cX13_backwards 60 = .ok (.iload 4, 2) := by decide +kernel
theorem dX13_backwards_62 : decode cX13_backwards 62 = .ok (.iaload, 1) := by decide +kernel
theorem dX13_backwards_63 : decode cX13_backwards 63 = .ok (.aload_n 0, 1) := by decide +kernel
theorem dX13_backwards_64 : decode cX13_backwards 64 = .ok (.getfield 101, 3) := by decide +kernel
theorem dX13_backwards_67 : decode cX13_backwards 67 = .ok (.iload_n 3, 1) := by decide +kernel
theorem dX13_backwards_68 : decode cX13_backwards 68 = .ok (.iconst 1, 1) := by decide +kernel
theorem dX13_backwards_69 : decode cX13_backwards 69 = .ok (.isub, 1) := by decide +kernel
theorem dX13_backwards_70 : decode cX13_backwards 70 = .ok (.iload 4, 2) := by decide +kernel
theorem dX13_backwards_72 : decode cX13_backwards 72 = .ok (.isub, 1) := by decide +kernel
theorem dX13_backwards_73 : decode cX13_backwards 73 = .ok (.iaload, 1) := by decide +kernel
theorem dX13_backwards_74 : decode cX13_backwards 74 = .ok (.if_icmp .eq 5, 3) := by decide +kernel
theorem dX13_backwards_77 : decode cX13_backwards 77 = .ok (.iconst 0, 1) := by decide +kernel
theorem dX13_backwards_78 : decode cX13_backwards 78 = .ok (.ireturn, 1) := by decide +kernel
theorem dX13_backwards_79 : decode cX13_backwards 79 = .ok (.iinc 4 1, 3) := by decide +kernel
theorem dX13_backwards_82 : decode cX13_backwards 82 = .ok (.goto (-32), 3) := by decide +kernel
theorem dX13_backwards_85 : decode cX13_backwards 85 = .ok (.iconst 1, 1) := by decide +kernel
theorem dX13_backwards_86 : decode cX13_backwards 86 = .ok (.ireturn, 1) := by decide +kernel
theorem dX13_range_0 : decode cX13_range 0 = .ok (.iload_n 1, 1) := by decide +kernel
theorem dX13_range_1 : decode cX13_range 1 = .ok (.iconst 0, 1) := by decide +kernel
theorem dX13_range_2 : decode cX13_range 2 = .ok (.bipush 7, 2) := by decide +kernel
theorem dX13_range_4 : decode cX13_range 4 = .ok (.invokestatic 114, 3) := by decide +kernel
theorem dX13_range_7 : decode cX13_range 7 = .ok (.ifCond .ne 5, 3) := by decide +kernel
theorem dX13_range_10 : decode cX13_range 10 = .ok (.iconst (-1), 1) := by decide +kernel
theorem dX13_range_11 : decode cX13_range 11 = .ok (.ireturn, 1) := by decide +kernel
theorem dX13_range_12 : decode cX13_range 12 = .ok (.aload_n 0, 1) := by decide +kernel
theorem dX13_range_13 : decode cX13_range 13 = .ok (.iload_n 1, 1) := by decide +kernel
theorem dX13_range_14 : decode cX13_range 14 = .ok (.aload_n 0, 1) := by decide +kernel
theorem dX13_range_15 : decode cX13_range 15 = .ok (.getfield 98, 3) := by decide +kernel
theorem dX13_range_18 : decode cX13_range 18 = .ok (.invokevirtual 374, 3) := by decide +kernel
theorem dX13_range_21 : decode cX13_range 21 = .ok (.istore_n 2, 1) := by decide +kernel
theorem dX13_range_22 : decode cX13_range 22 = .ok (.ldc_w 328, 3) := by decide +kernel
theorem dX13_range_25 : decode cX13_range 25 = .ok (.istore_n 3, 1) := by decide +kernel
theorem dX13_range_26 : decode cX13_range 26 = .ok (.iconst 0, 1) := by decide +kernel
theorem dX13_range_27 : decode cX13_range 27 = .ok (.istore 4, 2) := by decide +kernel
theorem dX13_range_29 : decode cX13_range 29 = .ok (.iconst 0, 1) := by decide +kernel
theorem dX13_range_30 : decode cX13_range 30 = .ok (.istore 5, 2) := by decide +kernel
theorem dX13_range_32 : decode cX13_range 32 = .ok (.iload 5, 2) := by decide +kernel
theorem dX13_range_34 : decode cX13_range 34 = .ok (.iload_n 2, 1) := by decide +kernel
theorem dX13_range_35 : decode cX13_range 35 = .ok (.if_icmp .ge 35, 3) := by decide +kernel
theorem dX13_range_38 : decode cX13_range 38 = .ok (.iload_n 3, 1) := by decide +kernel
theorem dX13_range_39 : decode cX13_range 39 = .ok (.aload_n 0, 1) := by decide +kernel
theorem dX13_range_40 : decode cX13_range 40 = .ok (.getfield 98, 3) := by decide +kernel
theorem dX13_range_43 : decode cX13_range 43 = .ok (.iload 5, 2) := by decide +kernel
theorem dX13_range_45 : decode cX13_range 45 = .ok (.iaload, 1) := by decide +kernel
theorem dX13_range_46 : decode cX13_range 46 = .ok (.invokestatic 282, 3) := by decide +kernel
theorem dX13_range_49 : decode cX13_range 49 = .ok (.istore_n 3, 1) := by decide +kernel
theorem dX13_range_50 : decode cX13_range 50 = .ok (.iload 4, 2) := by decide +kernel
theorem dX13_range_52 : decode cX13_range 52 = .ok (.aload_n 0, 1) := by decide +kernel
theorem dX13_range_53 : decode cX13_range 53 = .ok (.getfield 98, 3) := by decide +kernel
theorem dX13_range_56 : decode cX13_range 56 = .ok (.iload 5, 2) := by decide +kernel
theorem dX13_range_58 : decode cX13_range 58 = .ok (.iaload, 1) := by decide +kernel
theorem dX13_range_59 : decode cX13_range 59 = .ok (.invokestatic 294, 3) := by decide +kernel
theorem dX13_range_62 : decode cX13_range 62 = .ok (.istore 4, 2) := by decide +kernel
theorem dX13_range_64 : decode cX13_range 64 = .ok (.iinc 5 1, 3) := by decide +kernel
theorem dX13_range_67 : decode cX13_range 67 = .ok (.goto (-35), 3) := by decide +kernel
theorem dX13_range_70 : decode cX13_range 70 = .ok (.iload_n 2, 1) := by decide +kernel
theorem dX13_range_71 : decode cX13_range 71 = .ok (.ifCond .ne 8, 3) := by decide +kernel
theorem dX13_range_74 : decode cX13_range 74 = .ok (.bipush (-2), 2) := by decide +kernel
theorem dX13_range_76 : decode cX13_range 76 = .ok (.goto 7, 3) := by decide +kernel
theorem dX13_range_79 : decode cX13_range 79 = .ok (.iload 4, 2) := by decide +kernel
theorem dX13_range_81 : decode cX13_range 81 = .ok (.iload_n 3, 1) := by decide +kernel
theorem dX13_range_82 : decode cX13_range 82 = .ok (.isub, 1) := by decide +kernel
theorem dX13_range_83 : decode cX13_range 83 = .ok (.ireturn, 1) := by decide +kernel
theorem dX13_alone_0 : decode cX13_alone 0 = .ok (.aload_n 0, 1) := by decide +kernel
theorem dX13_alone_1 : decode cX13_alone 1 = .ok (.iload_n 1, 1) := by decide +kernel
theorem dX13_alone_2 : decode cX13_alone 2 = .ok (.invokevirtual 118, 3) := by decide +kernel
theorem dX13_alone_5 : decode cX13_alone 5 = .ok (.ifCond .ne 5, 3) := by decide +kernel
theorem dX13_alone_8 : decode cX13_alone 8 = .ok (.iconst (-1), 1) := by decide +kernel
theorem dX13_alone_9 : decode cX13_alone 9 = .ok (.ireturn, 1) := by decide +kernel
theorem dX13_alone_10 : decode cX13_alone 10 = .ok (.bipush 60, 2) := by decide +kernel
theorem dX13_alone_12 : decode cX13_alone 12 = .ok (.aload_n 0, 1) := by decide +kernel
theorem dX13_alone_13 : decode cX13_alone 13 = .ok (.getfield 7, 3) := by decide +kernel
theorem dX13_alone_16 : decode cX13_alone 16 = .ok (.bipush 8, 2) := by decide +kernel
theorem dX13_alone_18 : decode cX13_alone 18 = .ok (.iload_n 1, 1) := by decide +kernel
theorem dX13_alone_19 : decode cX13_alone 19 = .ok (.iadd, 1) := by decide +kernel
theorem dX13_alone_20 : decode cX13_alone 20 = .ok (.iaload, 1) := by decide +kernel
theorem dX13_alone_21 : decode cX13_alone 21 = .ok (.iadd, 1) := by decide +kernel
theorem dX13_alone_22 : decode cX13_alone 22 = .ok (.istore_n 2, 1) := by decide +kernel
theorem dX13_alone_23 : decode cX13_alone 23 = .ok (.aload_n 0, 1) := by decide +kernel
theorem dX13_alone_24 : decode cX13_alone 24 = .ok (.getfield 31, 3) := by decide +kernel
theorem dX13_alone_27 : decode cX13_alone 27 = .ok (.iload_n 1, 1) := by decide +kernel
theorem dX13_alone_28 : decode cX13_alone 28 = .ok (.iaload, 1) := by decide +kernel
theorem dX13_alone_29 : decode cX13_alone 29 = .ok (.aload_n 0, 1) := by decide +kernel
theorem dX13_alone_30 : decode cX13_alone 30 = .ok (.getfield 111, 3) := by decide +kernel
theorem dX13_alone_33 : decode cX13_alone 33 = .ok (.imul, 1) := by decide +kernel
theorem dX13_alone_34 : decode cX13_alone 34 = .ok (.iload_n 2, 1) := by decide +kernel
theorem dX13_alone_35 : decode cX13_alone 35 = .ok (.iadd, 1) := by decide +kernel
theorem dX13_alone_36 : decode cX13_alone 36 = .ok (.iconst 1, 1) := by decide +kernel
theorem dX13_alone_37 : decode cX13_alone 37 = .ok (.isub, 1) := by decide +kernel
theorem dX13_alone_38 : decode cX13_alone 38 = .ok (.iload_n 2, 1) := by decide +kernel
theorem dX13_alone_39 : decode cX13_alone 39 = .ok (.idiv, 1) := by decide +kernel
theorem dX13_alone_40 : decode cX13_alone 40 = .ok (.ireturn, 1) := by decide +kernel
theorem dX13_together_0 : decode cX13_together 0 = .ok (.aload_n 0, 1) := by decide +kernel
theorem dX13_together_1 : decode cX13_together 1 = .ok (.iload_n 1, 1) := by decide +kernel
theorem dX13_together_2 : decode cX13_together 2 = .ok (.invokevirtual 118, 3) := by decide +kernel
theorem dX13_together_5 : decode cX13_together 5 = .ok (.ifCond .eq 27, 3) := by decide +kernel
theorem dX13_together_8 : decode cX13_together 8 = .ok (.aload_n 0, 1) := by decide +kernel
theorem dX13_together_9 : decode cX13_together 9 = .ok (.iload_n 2, 1) := by decide +kernel
theorem dX13_together_10 : decode cX13_together 10 = .ok (.invokevirtual 118, 3) := by decide +kernel
theorem dX13_together_13 : decode cX13_together 13 = .ok (.ifCond .eq 19, 3) := by decide +kernel
theorem dX13_together_16 : decode cX13_together 16 = .ok (.iload_n 1, 1) := by decide +kernel
theorem dX13_together_17 : decode cX13_together 17 = .ok (.iload_n 2, 1) := by decide +kernel
theorem dX13_together_18 : decode cX13_together 18 = .ok (.if_icmp .eq 14, 3) := by decide +kernel
theorem dX13_together_21 : decode cX13_together 21 = .ok (.iload_n 3, 1) := by decide +kernel
theorem dX13_together_22 : decode cX13_together 22 = .ok (.iconst 1, 1) := by decide +kernel
theorem dX13_together_23 : decode cX13_together 23 = .ok (.sipush 240, 3) := by decide +kernel
theorem dX13_together_26 : decode cX13_together 26 = .ok (.invokestatic 114, 3) := by decide +kernel
theorem dX13_together_29 : decode cX13_together 29 = .ok (.ifCond .ne 5, 3) := by decide +kernel
theorem dX13_together_32 : decode cX13_together 32 = .ok (.iconst (-1), 1) := by decide +kernel
theorem dX13_together_33 : decode cX13_together 33 = .ok (.ireturn, 1) := by decide +kernel
theorem dX13_together_34 : decode cX13_together 34 = .ok (.aload_n 0, 1) := by decide +kernel
theorem dX13_together_35 : decode cX13_together 35 = .ok (.getfield 7, 3) := by decide +kernel
theorem dX13_together_38 : decode cX13_together 38 = .ok (.aload_n 0, 1) := by decide +kernel
theorem dX13_together_39 : decode cX13_together 39 = .ok (.getfield 13, 3) := by decide +kernel
theorem dX13_together_42 : decode cX13_together 42 = .ok (.invokestatic 349, 3) := by decide +kernel
theorem dX13_together_45 : decode cX13_together 45 = .ok (.aload_n 0, 1) := by decide +kernel
theorem dX13_together_46 : decode cX13_together 46 = .ok (.invokevirtual 339, 3) := by decide +kernel
theorem dX13_together_49 : decode cX13_together 49 = .ok (.iconst 0, 1) := by decide +kernel
theorem dX13_together_50 : decode cX13_together 50 = .ok (.istore 4, 2) := by decide +kernel
theorem dX13_together_52 : decode cX13_together 52 = .ok (.iconst 0, 1) := by decide +kernel
theorem dX13_together_53 : decode cX13_together 53 = .ok (.istore 5, 2) := by decide +kernel
theorem dX13_together_55 : decode cX13_together 55 = .ok (.iload 5, 2) := by decide +kernel
theorem dX13_together_57 : decode cX13_together 57 = .ok (.iload_n 3, 1) := by decide +kernel
theorem dX13_together_58 : decode cX13_together 58 = .ok (.if_icmp .ge 53, 3) := by decide +kernel
theorem dX13_together_61 : decode cX13_together 61 = .ok (.aload_n 0, 1) := by decide +kernel
theorem dX13_together_62 : decode cX13_together 62 = .ok (.getfield 7, 3) := by decide +kernel
theorem dX13_together_65 : decode cX13_together 65 = .ok (.bipush 80, 2) := by decide +kernel
theorem dX13_together_67 : decode cX13_together 67 = .ok (.iaload, 1) := by decide +kernel
theorem dX13_together_68 : decode cX13_together 68 = .ok (.ldc_w 342, 3) := by decide +kernel
theorem dX13_together_71 : decode cX13_together 71 = .ok (.if_icmp .ge 40, 3) := by decide +kernel
theorem dX13_together_74 : decode cX13_together 74 = .ok (.aload_n 0, 1) := by decide +kernel
theorem dX13_together_75 : decode cX13_together 75 = .ok (.invokevirtual 343, 3) := by decide +kernel
theorem dX13_together_78 : decode cX13_together 78 = .ok (.aload_n 0, 1) := by decide +kernel
theorem dX13_together_79 : decode cX13_together 79 = .ok (.getfield 7, 3) := by decide +kernel
theorem dX13_together_82 : decode cX13_together 82 = .ok (.bipush 40, 2) := by decide +kernel
theorem dX13_together_84 : decode cX13_together 84 = .ok (.iload_n 1, 1) := by decide +kernel
theorem dX13_together_85 : decode cX13_together 85 = .ok (.iadd, 1) := by decide +kernel
theorem dX13_together_86 : decode cX13_together 86 = .ok (.iaload, 1) := by decide +kernel
theorem dX13_together_87 : decode cX13_together 87 = .ok (.aload_n 0, 1) := by decide +kernel
theorem dX13_together_88 : decode cX13_together 88 = .ok (.getfield 7, 3) := by decide +kernel
theorem dX13_together_91 : decode cX13_together 91 = .ok (.bipush 40, 2) := by decide +kernel
theorem dX13_together_93 : decode cX13_together 93 = .ok (.iload_n 2, 1) := by decide +kernel
theorem dX13_together_94 : decode cX13_together 94 = .ok (.iadd, 1) := by decide +kernel
theorem dX13_together_95 : decode cX13_together 95 = .ok (.iaload, 1) := by decide +kernel
theorem dX13_together_96 : decode cX13_together 96 = .ok (.if_icmp .ne 9, 3) := by decide +kernel
theorem dX13_together_99 : decode cX13_together 99 = .ok (.iload 4, 2) := by decide +kernel
theorem dX13_together_101 : decode cX13_together 101 = .ok (.iconst 1, 1) := by decide +kernel
theorem dX13_together_102 : decode cX13_together 102 = .ok (.iadd, 1) := by decide +kernel
theorem dX13_together_103 : decode cX13_together 103 = .ok (.istore 4, 2) := by decide +kernel
theorem dX13_together_105 : decode cX13_together 105 = .ok (.iinc 5 1, 3) := by decide +kernel
theorem dX13_together_108 : decode cX13_together 108 = .ok (.goto (-53), 3) := by decide +kernel
theorem dX13_together_111 : decode cX13_together 111 = .ok (.aload_n 0, 1) := by decide +kernel
theorem dX13_together_112 : decode cX13_together 112 = .ok (.getfield 13, 3) := by decide +kernel
theorem dX13_together_115 : decode cX13_together 115 = .ok (.aload_n 0, 1) := by decide +kernel
theorem dX13_together_116 : decode cX13_together 116 = .ok (.getfield 7, 3) := by decide +kernel
theorem dX13_together_119 : decode cX13_together 119 = .ok (.invokestatic 349, 3) := by decide +kernel
theorem dX13_together_122 : decode cX13_together 122 = .ok (.iload 4, 2) := by decide +kernel
theorem dX13_together_124 : decode cX13_together 124 = .ok (.ireturn, 1) := by decide +kernel
theorem dX13_attacks_0 : decode cX13_attacks 0 = .ok (.iload_n 1, 1) := by decide +kernel
theorem dX13_attacks_1 : decode cX13_attacks 1 = .ok (.iconst 0, 1) := by decide +kernel
theorem dX13_attacks_2 : decode cX13_attacks 2 = .ok (.bipush 59, 2) := by decide +kernel
theorem dX13_attacks_4 : decode cX13_attacks 4 = .ok (.invokestatic 114, 3) := by decide +kernel
theorem dX13_attacks_7 : decode cX13_attacks 7 = .ok (.ifCond .ne 5, 3) := by decide +kernel
theorem dX13_attacks_10 : decode cX13_attacks 10 = .ok (.iconst (-1), 1) := by decide +kernel
theorem dX13_attacks_11 : decode cX13_attacks 11 = .ok (.ireturn, 1) := by decide +kernel
theorem dX13_attacks_12 : decode cX13_attacks 12 = .ok (.iconst 0, 1) := by decide +kernel
theorem dX13_attacks_13 : decode cX13_attacks 13 = .ok (.istore_n 2, 1) := by decide +kernel
theorem dX13_attacks_14 : decode cX13_attacks 14 = .ok (.iconst 0, 1) := by decide +kernel
theorem dX13_attacks_15 : decode cX13_attacks 15 = .ok (.istore_n 3, 1) := by decide +kernel
theorem dX13_attacks_16 : decode cX13_attacks 16 = .ok (.iload_n 3, 1) := by decide +kernel
theorem dX13_attacks_17 : decode cX13_attacks 17 = .ok (.bipush 8, 2) := by decide +kernel
theorem dX13_attacks_19 : decode cX13_attacks 19 = .ok (.if_icmp .ge 60, 3) := by decide +kernel
theorem dX13_attacks_22 : decode cX13_attacks 22 = .ok (.aload_n 0, 1) := by decide +kernel
theorem dX13_attacks_23 : decode cX13_attacks 23 = .ok (.iload_n 3, 1) := by decide +kernel
theorem dX13_attacks_24 : decode cX13_attacks 24 = .ok (.invokevirtual 118, 3) := by decide +kernel
theorem dX13_attacks_27 : decode cX13_attacks 27 = .ok (.ifCond .eq 46, 3) := by decide +kernel
theorem dX13_attacks_30 : decode cX13_attacks 30 = .ok (.iload_n 1, 1) := by decide +kernel
theorem dX13_attacks_31 : decode cX13_attacks 31 = .ok (.aload_n 0, 1) := by decide +kernel
theorem dX13_attacks_32 : decode cX13_attacks 32 = .ok (.getfield 31, 3) := by decide +kernel
theorem dX13_attacks_35 : decode cX13_attacks 35 = .ok (.iload_n 3, 1) := by decide +kernel
theorem dX13_attacks_36 : decode cX13_attacks 36 = .ok (.iaload, 1) := by decide +kernel
theorem dX13_attacks_37 : decode cX13_attacks 37 = .ok (.if_icmp .ge 36, 3) := by decide +kernel
theorem dX13_attacks_40 : decode cX13_attacks 40 = .ok (.aload_n 0, 1) := by decide +kernel
theorem dX13_attacks_41 : decode cX13_attacks 41 = .ok (.getfield 28, 3) := by decide +kernel
theorem dX13_attacks_44 : decode cX13_attacks 44 = .ok (.bipush 60, 2) := by decide +kernel
theorem dX13_attacks_46 : decode cX13_attacks 46 = .ok (.iload_n 3, 1) := by decide +kernel
theorem dX13_attacks_47 : decode cX13_attacks 47 = .ok (.imul, 1) := by decide +kernel
theorem dX13_attacks_48 : decode cX13_attacks 48 = .ok (.iload_n 1, 1) := by decide +kernel
theorem dX13_attacks_49 : decode cX13_attacks 49 = .ok (.iadd, 1) := by decide +kernel
theorem dX13_attacks_50 : decode cX13_attacks 50 = .ok (.iaload, 1) := by decide +kernel
theorem dX13_attacks_51 : decode cX13_attacks 51 = .ok (.iconst 1, 1) := by decide +kernel
theorem dX13_attacks_52 : decode cX13_attacks 52 = .ok (.if_icmp .ne 21, 3) := by decide +kernel
theorem dX13_attacks_55 : decode cX13_attacks 55 = .ok (.aload_n 0, 1) := by decide +kernel
theorem dX13_attacks_56 : decode cX13_attacks 56 = .ok (.getfield 19, 3) := by decide +kernel
theorem dX13_attacks_59 : decode cX13_attacks 59 = .ok (.bipush 60, 2) := by decide +kernel
theorem dX13_attacks_61 : decode cX13_attacks 61 = .ok (.iload_n 3, 1) := by decide +kernel
theorem dX13_attacks_62 : decode cX13_attacks 62 = .ok (.imul, 1) := by decide +kernel
theorem dX13_attacks_63 : decode cX13_attacks 63 = .ok (.iload_n 1, 1) := by decide +kernel
theorem dX13_attacks_64 : decode cX13_attacks 64 = .ok (.iadd, 1) := by decide +kernel
theorem dX13_attacks_65 : decode cX13_attacks 65 = .ok (.iaload, 1) := by decide +kernel
theorem dX13_attacks_66 : decode cX13_attacks 66 = .ok (.ifCond .le 7, 3) := by decide +kernel
theorem dX13_attacks_69 : decode cX13_attacks 69 = .ok (.iload_n 2, 1) := by decide +kernel
theorem dX13_attacks_70 : decode cX13_attacks 70 = .ok (.iconst 1, 1) := by decide +kernel
theorem dX13_attacks_71 : decode cX13_attacks 71 = .ok (.iadd, 1) := by decide +kernel
theorem dX13_attacks_72 : decode cX13_attacks 72 = .ok (.istore_n 2, 1) := by decide +kernel
theorem dX13_attacks_73 : decode cX13_attacks 73 = .ok (.iinc 3 1, 3) := by decide +kernel
theorem dX13_attacks_76 : decode cX13_attacks 76 = .ok (.goto (-60), 3) := by decide +kernel
theorem dX13_attacks_79 : decode cX13_attacks 79 = .ok (.iload_n 2, 1) := by decide +kernel
theorem dX13_attacks_80 : decode cX13_attacks 80 = .ok (.ireturn, 1) := by decide +kernel
theorem dX13_key_0 : decode cX13_key 0 = .ok (.iload_n 1, 1) := by decide +kernel
theorem dX13_key_1 : decode cX13_key 1 = .ok (.iconst 0, 1) := by decide +kernel
theorem dX13_key_2 : decode cX13_key 2 = .ok (.bipush 7, 2) := by decide +kernel
theorem dX13_key_4 : decode cX13_key 4 = .ok (.invokestatic 114, 3) := by decide +kernel
theorem dX13_key_7 : decode cX13_key 7 = .ok (.ifCond .eq 12, 3) := by decide +kernel
theorem dX13_key_10 : decode cX13_key 10 = .ok (.iload_n 2, 1) := by decide +kernel
theorem dX13_key_11 : decode cX13_key 11 = .ok (.iconst 0, 1) := by decide +kernel
theorem dX13_key_12 : decode cX13_key 12 = .ok (.iconst 1, 1) := by decide +kernel
theorem dX13_key_13 : decode cX13_key 13 = .ok (.invokestatic 114, 3) := by decide +kernel
theorem dX13_key_16 : decode cX13_key 16 = .ok (.ifCond .ne 5, 3) := by decide +kernel
theorem dX13_key_19 : decode cX13_key 19 = .ok (.iconst (-1), 1) := by decide +kernel
theorem dX13_key_20 : decode cX13_key 20 = .ok (.ireturn, 1) := by decide +kernel
theorem dX13_key_21 : decode cX13_key 21 = .ok (.bipush (-2), 2) := by decide +kernel
theorem dX13_key_23 : decode cX13_key 23 = .ok (.istore_n 3, 1) := by decide +kernel
theorem dX13_key_24 : decode cX13_key 24 = .ok (.iconst 0, 1) := by decide +kernel
theorem dX13_key_25 : decode cX13_key 25 = .ok (.istore 4, 2) := by decide +kernel
theorem dX13_key_27 : decode cX13_key 27 = .ok (.iconst 1, 1) := by decide +kernel
theorem dX13_key_28 : decode cX13_key 28 = .ok (.istore 5, 2) := by decide +kernel
theorem dX13_key_30 : decode cX13_key 30 = .ok (.iload 5, 2) := by decide +kernel
theorem dX13_key_32 : decode cX13_key 32 = .ok (.bipush 7, 2) := by decide +kernel
theorem dX13_key_34 : decode cX13_key 34 = .ok (.if_icmp .gt 76, 3) := by decide +kernel
theorem dX13_key_37 : decode cX13_key 37 = .ok (.iconst 0, 1) := by decide +kernel
theorem dX13_key_38 : decode cX13_key 38 = .ok (.istore 6, 2) := by decide +kernel
theorem dX13_key_40 : decode cX13_key 40 = .ok (.iconst 0, 1) := by decide +kernel
theorem dX13_key_41 : decode cX13_key 41 = .ok (.istore 7, 2) := by decide +kernel
theorem dX13_key_43 : decode cX13_key 43 = .ok (.iload 7, 2) := by decide +kernel
theorem dX13_key_45 : decode cX13_key 45 = .ok (.aload_n 0, 1) := by decide +kernel
theorem dX13_key_46 : decode cX13_key 46 = .ok (.getfield 31, 3) := by decide +kernel
theorem dX13_key_49 : decode cX13_key 49 = .ok (.iload_n 1, 1) := by decide +kernel
theorem dX13_key_50 : decode cX13_key 50 = .ok (.iaload, 1) := by decide +kernel
theorem dX13_key_51 : decode cX13_key 51 = .ok (.if_icmp .ge 36, 3) := by decide +kernel
theorem dX13_key_54 : decode cX13_key 54 = .ok (.iload 6, 2) := by decide +kernel
theorem dX13_key_56 : decode cX13_key 56 = .ok (.aload_n 0, 1) := by decide +kernel
theorem dX13_key_57 : decode cX13_key 57 = .ok (.getfield 19, 3) := by decide +kernel
theorem dX13_key_60 : decode cX13_key 60 = .ok (.bipush 60, 2) := by decide +kernel
theorem dX13_key_62 : decode cX13_key 62 = .ok (.iload_n 1, 1) := by decide +kernel
theorem dX13_key_63 : decode cX13_key 63 = .ok (.imul, 1) := by decide +kernel
theorem dX13_key_64 : decode cX13_key 64 = .ok (.iload 7, 2) := by decide +kernel
theorem dX13_key_66 : decode cX13_key 66 = .ok (.iadd, 1) := by decide +kernel
theorem dX13_key_67 : decode cX13_key 67 = .ok (.iaload, 1) := by decide +kernel
theorem dX13_key_68 : decode cX13_key 68 = .ok (.iload 5, 2) := by decide +kernel
theorem dX13_key_70 : decode cX13_key 70 = .ok (.if_icmp .ne 7, 3) := by decide +kernel
theorem dX13_key_73 : decode cX13_key 73 = .ok (.iconst 1, 1) := by decide +kernel
theorem dX13_key_74 : decode cX13_key 74 = .ok (.goto 4, 3) := by decide +kernel
theorem dX13_key_77 : decode cX13_key 77 = .ok (.iconst 0, 1) := by decide +kernel
theorem dX13_key_78 : decode cX13_key 78 = .ok (.iadd, 1) := by decide +kernel
theorem dX13_key_79 : decode cX13_key 79 = .ok (.istore 6, 2) := by decide +kernel
theorem dX13_key_81 : decode cX13_key 81 = .ok (.iinc 7 1, 3) := by decide +kernel
theorem dX13_key_84 : decode cX13_key 84 = .ok (.goto (-41), 3) := by decide +kernel
theorem dX13_key_87 : decode cX13_key 87 = .ok (.iload 6, 2) := by decide +kernel
theorem dX13_key_89 : decode cX13_key 89 = .ok (.iload 4, 2) := by decide +kernel
theorem dX13_key_91 : decode cX13_key 91 = .ok (.if_icmp .gt 6, 3) := by decide +kernel
theorem dX13_key_94 : decode cX13_key 94 = .ok (.goto 10, 3) := by decide +kernel
theorem dX13_key_97 : decode cX13_key 97 = .ok (.iload 6, 2) := by decide +kernel
theorem dX13_key_99 : decode cX13_key 99 = .ok (.istore 4, 2) := by decide +kernel
theorem dX13_key_101 : decode cX13_key 101 = .ok (.iload 5, 2) := by decide +kernel
theorem dX13_key_103 : decode cX13_key 103 = .ok (.istore_n 3, 1) := by decide +kernel
theorem dX13_key_104 : decode cX13_key 104 = .ok (.iinc 5 1, 3) := by decide +kernel
theorem dX13_key_107 : decode cX13_key 107 = .ok (.goto (-77), 3) := by decide +kernel
theorem dX13_key_110 : decode cX13_key 110 = .ok (.iload_n 2, 1) := by decide +kernel
theorem dX13_key_111 : decode cX13_key 111 = .ok (.ifCond .ne 7, 3) := by decide +kernel
theorem dX13_key_114 : decode cX13_key 114 = .ok (.iload_n 3, 1) := by decide +kernel
theorem dX13_key_115 : decode cX13_key 115 = .ok (.goto 5, 3) := by decide +kernel
theorem dX13_key_118 : decode cX13_key 118 = .ok (.iload 4, 2) := by decide +kernel
theorem dX13_key_120 : decode cX13_key 120 = .ok (.ireturn, 1) := by decide +kernel
theorem dX13_tune_0 : decode cX13_tune 0 = .ok (.iload_n 1, 1) := by decide +kernel
theorem dX13_tune_1 : decode cX13_tune 1 = .ok (.iconst 0, 1) := by decide +kernel
theorem dX13_tune_2 : decode cX13_tune 2 = .ok (.bipush 7, 2) := by decide +kernel
theorem dX13_tune_4 : decode cX13_tune 4 = .ok (.invokestatic 114, 3) := by decide +kernel
theorem dX13_tune_7 : decode cX13_tune 7 = .ok (.ifCond .eq 7, 3) := by decide +kernel
theorem dX13_tune_10 : decode cX13_tune 10 = .ok (.iload_n 2, 1) := by decide +kernel
theorem dX13_tune_11 : decode cX13_tune 11 = .ok (.ifCond .ge 5, 3) := by decide +kernel
theorem dX13_tune_14 : decode cX13_tune 14 = .ok (.iconst (-1), 1) := by decide +kernel
theorem dX13_tune_15 : decode cX13_tune 15 = .ok (.ireturn, 1) := by decide +kernel
theorem dX13_tune_16 : decode cX13_tune 16 = .ok (.iload_n 2, 1) := by decide +kernel
theorem dX13_tune_17 : decode cX13_tune 17 = .ok (.aload_n 0, 1) := by decide +kernel
theorem dX13_tune_18 : decode cX13_tune 18 = .ok (.iload_n 1, 1) := by decide +kernel
theorem dX13_tune_19 : decode cX13_tune 19 = .ok (.aload_n 0, 1) := by decide +kernel
theorem dX13_tune_20 : decode cX13_tune 20 = .ok (.getfield 98, 3) := by decide +kernel
theorem dX13_tune_23 : decode cX13_tune 23 = .ok (.invokevirtual 374, 3) := by decide +kernel
theorem dX13_tune_26 : decode cX13_tune 26 = .ok (.if_icmp .ge 12, 3) := by decide +kernel
theorem dX13_tune_29 : decode cX13_tune 29 = .ok (.aload_n 0, 1) := by decide +kernel
theorem dX13_tune_30 : decode cX13_tune 30 = .ok (.getfield 98, 3) := by decide +kernel
theorem dX13_tune_33 : decode cX13_tune 33 = .ok (.iload_n 2, 1) := by decide +kernel
theorem dX13_tune_34 : decode cX13_tune 34 = .ok (.iaload, 1) := by decide +kernel
theorem dX13_tune_35 : decode cX13_tune 35 = .ok (.goto 5, 3) := by decide +kernel
theorem dX13_tune_38 : decode cX13_tune 38 = .ok (.bipush (-2), 2) := by decide +kernel
theorem dX13_tune_40 : decode cX13_tune 40 = .ok (.ireturn, 1) := by decide +kernel
theorem dX13_endsSound_0 : decode cX13_endsSound 0 = .ok (.bipush 60, 2) := by decide +kernel
theorem dX13_endsSound_2 : decode cX13_endsSound 2 = .ok (.iload_n 1, 1) := by decide +kernel
theorem dX13_endsSound_3 : decode cX13_endsSound 3 = .ok (.imul, 1) := by decide +kernel
theorem dX13_endsSound_4 : decode cX13_endsSound 4 = .ok (.iload_n 2, 1) := by decide +kernel
theorem dX13_endsSound_5 : decode cX13_endsSound 5 = .ok (.iadd, 1) := by decide +kernel
theorem dX13_endsSound_6 : decode cX13_endsSound 6 = .ok (.istore_n 3, 1) := by decide +kernel
theorem dX13_endsSound_7 : decode cX13_endsSound 7 = .ok (.aload_n 0, 1) := by decide +kernel
theorem dX13_endsSound_8 : decode cX13_endsSound 8 = .ok (.getfield 19, 3) := by decide +kernel
theorem dX13_endsSound_11 : decode cX13_endsSound 11 = .ok (.iload_n 3, 1) := by decide +kernel
theorem dX13_endsSound_12 : decode cX13_endsSound 12 = .ok (.iaload, 1) := by decide +kernel
theorem dX13_endsSound_13 : decode cX13_endsSound 13 = .ok (.ifCond .le 31, 3) := by decide +kernel
theorem dX13_endsSound_16 : decode cX13_endsSound 16 = .ok (.iload_n 2, 1) := by decide +kernel
theorem dX13_endsSound_17 : decode cX13_endsSound 17 = .ok (.iconst 1, 1) := by decide +kernel
theorem dX13_endsSound_18 : decode cX13_endsSound 18 = .ok (.iadd, 1) := by decide +kernel
theorem dX13_endsSound_19 : decode cX13_endsSound 19 = .ok (.aload_n 0, 1) := by decide +kernel
theorem dX13_endsSound_20 : decode cX13_endsSound 20 = .ok (.getfield 31, 3) := by decide +kernel
theorem dX13_endsSound_23 : decode cX13_endsSound 23 = .ok (.iload_n 1, 1) := by decide +kernel
theorem dX13_endsSound_24 : decode cX13_endsSound 24 = .ok (.iaload, 1) := by decide +kernel
theorem dX13_endsSound_25 : decode cX13_endsSound 25 = .ok (.if_icmp .eq 15, 3) := by decide +kernel
theorem dX13_endsSound_28 : decode cX13_endsSound 28 = .ok (.aload_n 0, 1) := by decide +kernel
theorem dX13_endsSound_29 : decode cX13_endsSound 29 = .ok (.getfield 28, 3) := by decide +kernel
theorem dX13_endsSound_32 : decode cX13_endsSound 32 = .ok (.iload_n 3, 1) := by decide +kernel
theorem dX13_endsSound_33 : decode cX13_endsSound 33 = .ok (.iconst 1, 1) := by decide +kernel
theorem dX13_endsSound_34 : decode cX13_endsSound 34 = .ok (.iadd, 1) := by decide +kernel
theorem dX13_endsSound_35 : decode cX13_endsSound 35 = .ok (.iaload, 1) := by decide +kernel
theorem dX13_endsSound_36 : decode cX13_endsSound 36 = .ok (.iconst 1, 1) := by decide +kernel
theorem dX13_endsSound_37 : decode cX13_endsSound 37 = .ok (.if_icmp .ne 7, 3) := by decide +kernel
theorem dX13_endsSound_40 : decode cX13_endsSound 40 = .ok (.iconst 1, 1) := by decide +kernel
theorem dX13_endsSound_41 : decode cX13_endsSound 41 = .ok (.goto 4, 3) := by decide +kernel
theorem dX13_endsSound_44 : decode cX13_endsSound 44 = .ok (.iconst 0, 1) := by decide +kernel
theorem dX13_endsSound_45 : decode cX13_endsSound 45 = .ok (.ireturn, 1) := by decide +kernel
theorem dX13_sungBetween_0 : decode cX13_sungBetween 0 = .ok (.iconst 0, 1) := by decide +kernel
theorem dX13_sungBetween_1 : decode cX13_sungBetween 1 = .ok (.istore 4, 2) := by decide +kernel
theorem dX13_sungBetween_3 : decode cX13_sungBetween 3 = .ok (.iload_n 2, 1) := by decide +kernel
theorem dX13_sungBetween_4 : decode cX13_sungBetween 4 = .ok (.istore 5, 2) := by decide +kernel
theorem dX13_sungBetween_6 : decode cX13_sungBetween 6 = .ok (.iload 5, 2) := by decide +kernel
theorem dX13_sungBetween_8 : decode cX13_sungBetween 8 = .ok (.iload_n 3, 1) := by decide +kernel
theorem dX13_sungBetween_9 : decode cX13_sungBetween 9 = .ok (.if_icmp .ge 30, 3) := by decide +kernel
theorem dX13_sungBetween_12 : decode cX13_sungBetween 12 = .ok (.aload_n 0, 1) := by decide +kernel
theorem dX13_sungBetween_13 : decode cX13_sungBetween 13 = .ok (.getfield 19, 3) := by decide +kernel
theorem dX13_sungBetween_16 : decode cX13_sungBetween 16 = .ok (.bipush 60, 2) := by decide +kernel
theorem dX13_sungBetween_18 : decode cX13_sungBetween 18 = .ok (.iload_n 1, 1) := by decide +kernel
theorem dX13_sungBetween_19 : decode cX13_sungBetween 19 = .ok (.imul, 1) := by decide +kernel
theorem dX13_sungBetween_20 : decode cX13_sungBetween 20 = .ok (.iload 5, 2) := by decide +kernel
theorem dX13_sungBetween_22 : decode cX13_sungBetween 22 = .ok (.iadd, 1) := by decide +kernel
theorem dX13_sungBetween_23 : decode cX13_sungBetween 23 = .ok (.iaload, 1) := by decide +kernel
theorem dX13_sungBetween_24 : decode cX13_sungBetween 24 = .ok (.ifCond .le 9, 3) := by decide +kernel
theorem dX13_sungBetween_27 : decode cX13_sungBetween 27 = .ok (.iload 4, 2) := by decide +kernel
theorem dX13_sungBetween_29 : decode cX13_sungBetween 29 = .ok (.iconst 1, 1) := by decide +kernel
theorem dX13_sungBetween_30 : decode cX13_sungBetween 30 = .ok (.iadd, 1) := by decide +kernel
theorem dX13_sungBetween_31 : decode cX13_sungBetween 31 = .ok (.istore 4, 2) := by decide +kernel
theorem dX13_sungBetween_33 : decode cX13_sungBetween 33 = .ok (.iinc 5 1, 3) := by decide +kernel
theorem dX13_sungBetween_36 : decode cX13_sungBetween 36 = .ok (.goto (-30), 3) := by decide +kernel
theorem dX13_sungBetween_39 : decode cX13_sungBetween 39 = .ok (.iload 4, 2) := by decide +kernel
theorem dX13_sungBetween_41 : decode cX13_sungBetween 41 = .ok (.ireturn, 1) := by decide +kernel
theorem dX13_laysBreaths_0 : decode cX13_laysBreaths 0 = .ok (.aload_n 0, 1) := by decide +kernel
theorem dX13_laysBreaths_1 : decode cX13_laysBreaths 1 = .ok (.getfield 31, 3) := by decide +kernel
theorem dX13_laysBreaths_4 : decode cX13_laysBreaths 4 = .ok (.iload_n 1, 1) := by decide +kernel
theorem dX13_laysBreaths_5 : decode cX13_laysBreaths 5 = .ok (.iaload, 1) := by decide +kernel
theorem dX13_laysBreaths_6 : decode cX13_laysBreaths 6 = .ok (.istore_n 3, 1) := by decide +kernel
theorem dX13_laysBreaths_7 : decode cX13_laysBreaths 7 = .ok (.iload_n 3, 1) := by decide +kernel
theorem dX13_laysBreaths_8 : decode cX13_laysBreaths 8 = .ok (.ifCond .lt 111, 3) := by decide +kernel
theorem dX13_laysBreaths_11 : decode cX13_laysBreaths 11 = .ok (.aload_n 0, 1) := by decide +kernel
theorem dX13_laysBreaths_12 : decode cX13_laysBreaths 12 = .ok (.getfield 104, 3) := by decide +kernel
theorem dX13_laysBreaths_15 : decode cX13_laysBreaths 15 = .ok (.iload_n 3, 1) := by decide +kernel
theorem dX13_laysBreaths_16 : decode cX13_laysBreaths 16 = .ok (.aload_n 0, 1) := by decide +kernel
theorem dX13_laysBreaths_17 : decode cX13_laysBreaths 17 = .ok (.iload_n 1, 1) := by decide +kernel
theorem dX13_laysBreaths_18 : decode cX13_laysBreaths 18 = .ok (.iload_n 3, 1) := by decide +kernel
theorem dX13_laysBreaths_19 : decode cX13_laysBreaths 19 = .ok (.aload_n 0, 1) := by decide +kernel
theorem dX13_laysBreaths_20 : decode cX13_laysBreaths 20 = .ok (.getfield 31, 3) := by decide +kernel
theorem dX13_laysBreaths_23 : decode cX13_laysBreaths 23 = .ok (.iload_n 1, 1) := by decide +kernel
theorem dX13_laysBreaths_24 : decode cX13_laysBreaths 24 = .ok (.iaload, 1) := by decide +kernel
theorem dX13_laysBreaths_25 : decode cX13_laysBreaths 25 = .ok (.invokevirtual 381, 3) := by decide +kernel
theorem dX13_laysBreaths_28 : decode cX13_laysBreaths 28 = .ok (.iload_n 2, 1) := by decide +kernel
theorem dX13_laysBreaths_29 : decode cX13_laysBreaths 29 = .ok (.if_icmp .gt 7, 3) := by decide +kernel
theorem dX13_laysBreaths_32 : decode cX13_laysBreaths 32 = .ok (.iconst 0, 1) := by decide +kernel
theorem dX13_laysBreaths_33 : decode cX13_laysBreaths 33 = .ok (.goto 6, 3) := by decide +kernel
theorem dX13_laysBreaths_36 : decode cX13_laysBreaths 36 = .ok (.ldc_w 328, 3) := by decide +kernel
theorem dX13_laysBreaths_39 : decode cX13_laysBreaths 39 = .ok (.iastore, 1) := by decide +kernel
theorem dX13_laysBreaths_40 : decode cX13_laysBreaths 40 = .ok (.iload_n 3, 1) := by decide +kernel
theorem dX13_laysBreaths_41 : decode cX13_laysBreaths 41 = .ok (.iconst 1, 1) := by decide +kernel
theorem dX13_laysBreaths_42 : decode cX13_laysBreaths 42 = .ok (.iadd, 1) := by decide +kernel
theorem dX13_laysBreaths_43 : decode cX13_laysBreaths 43 = .ok (.istore 4, 2) := by decide +kernel
theorem dX13_laysBreaths_45 : decode cX13_laysBreaths 45 = .ok (.iload 4, 2) := by decide +kernel
theorem dX13_laysBreaths_47 : decode cX13_laysBreaths 47 = .ok (.aload_n 0, 1) := by decide +kernel
theorem dX13_laysBreaths_48 : decode cX13_laysBreaths 48 = .ok (.getfield 31, 3) := by decide +kernel
theorem dX13_laysBreaths_51 : decode cX13_laysBreaths 51 = .ok (.iload_n 1, 1) := by decide +kernel
theorem dX13_laysBreaths_52 : decode cX13_laysBreaths 52 = .ok (.iaload, 1) := by decide +kernel
theorem dX13_laysBreaths_53 : decode cX13_laysBreaths 53 = .ok (.if_icmp .gt 60, 3) := by decide +kernel
theorem dX13_laysBreaths_56 : decode cX13_laysBreaths 56 = .ok (.aload_n 0, 1) := by decide +kernel
theorem dX13_laysBreaths_57 : decode cX13_laysBreaths 57 = .ok (.iload_n 1, 1) := by decide +kernel
theorem dX13_laysBreaths_58 : decode cX13_laysBreaths 58 = .ok (.iload 4, 2) := by decide +kernel
theorem dX13_laysBreaths_60 : decode cX13_laysBreaths 60 = .ok (.iconst 1, 1) := by decide +kernel
theorem dX13_laysBreaths_61 : decode cX13_laysBreaths 61 = .ok (.isub, 1) := by decide +kernel
theorem dX13_laysBreaths_62 : decode cX13_laysBreaths 62 = .ok (.invokevirtual 384, 3) := by decide +kernel
theorem dX13_laysBreaths_65 : decode cX13_laysBreaths 65 = .ok (.ifCond .eq 42, 3) := by decide +kernel
theorem dX13_laysBreaths_68 : decode cX13_laysBreaths 68 = .ok (.aload_n 0, 1) := by decide +kernel
theorem dX13_laysBreaths_69 : decode cX13_laysBreaths 69 = .ok (.iload_n 1, 1) := by decide +kernel
theorem dX13_laysBreaths_70 : decode cX13_laysBreaths 70 = .ok (.iload_n 3, 1) := by decide +kernel
theorem dX13_laysBreaths_71 : decode cX13_laysBreaths 71 = .ok (.iload 4, 2) := by decide +kernel
theorem dX13_laysBreaths_73 : decode cX13_laysBreaths 73 = .ok (.invokevirtual 381, 3) := by decide +kernel
theorem dX13_laysBreaths_76 : decode cX13_laysBreaths 76 = .ok (.iload_n 2, 1) := by decide +kernel
theorem dX13_laysBreaths_77 : decode cX13_laysBreaths 77 = .ok (.if_icmp .le 6, 3) := by decide +kernel
theorem dX13_laysBreaths_80 : decode cX13_laysBreaths 80 = .ok (.goto 27, 3) := by decide +kernel
theorem dX13_laysBreaths_83 : decode cX13_laysBreaths 83 = .ok (.aload_n 0, 1) := by decide +kernel
theorem dX13_laysBreaths_84 : decode cX13_laysBreaths 84 = .ok (.getfield 104, 3) := by decide +kernel
theorem dX13_laysBreaths_87 : decode cX13_laysBreaths 87 = .ok (.iload_n 3, 1) := by decide +kernel
theorem dX13_laysBreaths_88 : decode cX13_laysBreaths 88 = .ok (.aload_n 0, 1) := by decide +kernel
theorem dX13_laysBreaths_89 : decode cX13_laysBreaths 89 = .ok (.getfield 104, 3) := by decide +kernel
theorem dX13_laysBreaths_92 : decode cX13_laysBreaths 92 = .ok (.iload_n 3, 1) := by decide +kernel
theorem dX13_laysBreaths_93 : decode cX13_laysBreaths 93 = .ok (.iaload, 1) := by decide +kernel
theorem dX13_laysBreaths_94 : decode cX13_laysBreaths 94 = .ok (.aload_n 0, 1) := by decide +kernel
theorem dX13_laysBreaths_95 : decode cX13_laysBreaths 95 = .ok (.getfield 104, 3) := by decide +kernel
theorem dX13_laysBreaths_98 : decode cX13_laysBreaths 98 = .ok (.iload 4, 2) := by decide +kernel
theorem dX13_laysBreaths_100 : decode cX13_laysBreaths 100 = .ok (.iaload, 1) := by decide +kernel
theorem dX13_laysBreaths_101 : decode cX13_laysBreaths 101 = .ok (.iconst 1, 1) := by decide +kernel
theorem dX13_laysBreaths_102 : decode cX13_laysBreaths 102 = .ok (.iadd, 1) := by decide +kernel
theorem dX13_laysBreaths_103 : decode cX13_laysBreaths 103 = .ok (.invokestatic 282, 3) := by decide +kernel
theorem dX13_laysBreaths_106 : decode cX13_laysBreaths 106 = .ok (.iastore, 1) := by decide +kernel
theorem dX13_laysBreaths_107 : decode cX13_laysBreaths 107 = .ok (.iinc 4 1, 3) := by decide +kernel
theorem dX13_laysBreaths_110 : decode cX13_laysBreaths 110 = .ok (.goto (-65), 3) := by decide +kernel
theorem dX13_laysBreaths_113 : decode cX13_laysBreaths 113 = .ok (.iinc 3 (-1), 3) := by decide +kernel
theorem dX13_laysBreaths_116 : decode cX13_laysBreaths 116 = .ok (.goto (-109), 3) := by decide +kernel
theorem dX13_laysBreaths_119 : decode cX13_laysBreaths 119 = .ok (.return_, 1) := by decide +kernel
theorem dX13_breaths_0 : decode cX13_breaths 0 = .ok (.iload_n 1, 1) := by decide +kernel
theorem dX13_breaths_1 : decode cX13_breaths 1 = .ok (.iconst 0, 1) := by decide +kernel
theorem dX13_breaths_2 : decode cX13_breaths 2 = .ok (.bipush 7, 2) := by decide +kernel
theorem dX13_breaths_4 : decode cX13_breaths 4 = .ok (.invokestatic 114, 3) := by decide +kernel
theorem dX13_breaths_7 : decode cX13_breaths 7 = .ok (.ifCond .eq 29, 3) := by decide +kernel
theorem dX13_breaths_10 : decode cX13_breaths 10 = .ok (.iload_n 2, 1) := by decide +kernel
theorem dX13_breaths_11 : decode cX13_breaths 11 = .ok (.iconst 1, 1) := by decide +kernel
theorem dX13_breaths_12 : decode cX13_breaths 12 = .ok (.bipush 20, 2) := by decide +kernel
theorem dX13_breaths_14 : decode cX13_breaths 14 = .ok (.invokestatic 114, 3) := by decide +kernel
theorem dX13_breaths_17 : decode cX13_breaths 17 = .ok (.ifCond .eq 19, 3) := by decide +kernel
theorem dX13_breaths_20 : decode cX13_breaths 20 = .ok (.iload_n 3, 1) := by decide +kernel
theorem dX13_breaths_21 : decode cX13_breaths 21 = .ok (.bipush 100, 2) := by decide +kernel
theorem dX13_breaths_23 : decode cX13_breaths 23 = .ok (.if_icmp .eq 15, 3) := by decide +kernel
theorem dX13_breaths_26 : decode cX13_breaths 26 = .ok (.iload_n 3, 1) := by decide +kernel
theorem dX13_breaths_27 : decode cX13_breaths 27 = .ok (.iconst 0, 1) := by decide +kernel
theorem dX13_breaths_28 : decode cX13_breaths 28 = .ok (.bipush 59, 2) := by decide +kernel
theorem dX13_breaths_30 : decode cX13_breaths 30 = .ok (.invokestatic 114, 3) := by decide +kernel
theorem dX13_breaths_33 : decode cX13_breaths 33 = .ok (.ifCond .ne 5, 3) := by decide +kernel
theorem dX13_breaths_36 : decode cX13_breaths 36 = .ok (.iconst (-1), 1) := by decide +kernel
theorem dX13_breaths_37 : decode cX13_breaths 37 = .ok (.ireturn, 1) := by decide +kernel
theorem dX13_breaths_38 : decode cX13_breaths 38 = .ok (.aload_n 0, 1) := by decide +kernel
theorem dX13_breaths_39 : decode cX13_breaths 39 = .ok (.iload_n 1, 1) := by decide +kernel
theorem dX13_breaths_40 : decode cX13_breaths 40 = .ok (.iload_n 2, 1) := by decide +kernel
theorem dX13_breaths_41 : decode cX13_breaths 41 = .ok (.invokevirtual 387, 3) := by decide +kernel
theorem dX13_breaths_44 : decode cX13_breaths 44 = .ok (.aload_n 0, 1) := by decide +kernel
theorem dX13_breaths_45 : decode cX13_breaths 45 = .ok (.getfield 104, 3) := by decide +kernel
theorem dX13_breaths_48 : decode cX13_breaths 48 = .ok (.iconst 0, 1) := by decide +kernel
theorem dX13_breaths_49 : decode cX13_breaths 49 = .ok (.iaload, 1) := by decide +kernel
theorem dX13_breaths_50 : decode cX13_breaths 50 = .ok (.ldc_w 328, 3) := by decide +kernel
theorem dX13_breaths_53 : decode cX13_breaths 53 = .ok (.if_icmp .lt 6, 3) := by decide +kernel
theorem dX13_breaths_56 : decode cX13_breaths 56 = .ok (.bipush (-2), 2) := by decide +kernel
theorem dX13_breaths_58 : decode cX13_breaths 58 = .ok (.ireturn, 1) := by decide +kernel
theorem dX13_breaths_59 : decode cX13_breaths 59 = .ok (.iload_n 3, 1) := by decide +kernel
theorem dX13_breaths_60 : decode cX13_breaths 60 = .ok (.bipush 100, 2) := by decide +kernel
theorem dX13_breaths_62 : decode cX13_breaths 62 = .ok (.if_icmp .ne 10, 3) := by decide +kernel
theorem dX13_breaths_65 : decode cX13_breaths 65 = .ok (.aload_n 0, 1) := by decide +kernel
theorem dX13_breaths_66 : decode cX13_breaths 66 = .ok (.getfield 104, 3) := by decide +kernel
theorem dX13_breaths_69 : decode cX13_breaths 69 = .ok (.iconst 0, 1) := by decide +kernel
theorem dX13_breaths_70 : decode cX13_breaths 70 = .ok (.iaload, 1) := by decide +kernel
theorem dX13_breaths_71 : decode cX13_breaths 71 = .ok (.ireturn, 1) := by decide +kernel
theorem dX13_breaths_72 : decode cX13_breaths 72 = .ok (.iload_n 3, 1) := by decide +kernel
theorem dX13_breaths_73 : decode cX13_breaths 73 = .ok (.aload_n 0, 1) := by decide +kernel
theorem dX13_breaths_74 : decode cX13_breaths 74 = .ok (.getfield 104, 3) := by decide +kernel
theorem dX13_breaths_77 : decode cX13_breaths 77 = .ok (.iconst 0, 1) := by decide +kernel
theorem dX13_breaths_78 : decode cX13_breaths 78 = .ok (.iaload, 1) := by decide +kernel
theorem dX13_breaths_79 : decode cX13_breaths 79 = .ok (.if_icmp .lt 6, 3) := by decide +kernel
theorem dX13_breaths_82 : decode cX13_breaths 82 = .ok (.bipush (-4), 2) := by decide +kernel
theorem dX13_breaths_84 : decode cX13_breaths 84 = .ok (.ireturn, 1) := by decide +kernel
theorem dX13_breaths_85 : decode cX13_breaths 85 = .ok (.iconst 0, 1) := by decide +kernel
theorem dX13_breaths_86 : decode cX13_breaths 86 = .ok (.istore 4, 2) := by decide +kernel
theorem dX13_breaths_88 : decode cX13_breaths 88 = .ok (.iconst 0, 1) := by decide +kernel
theorem dX13_breaths_89 : decode cX13_breaths 89 = .ok (.istore 5, 2) := by decide +kernel
theorem dX13_breaths_91 : decode cX13_breaths 91 = .ok (.iload 5, 2) := by decide +kernel
theorem dX13_breaths_93 : decode cX13_breaths 93 = .ok (.iload_n 3, 1) := by decide +kernel
theorem dX13_breaths_94 : decode cX13_breaths 94 = .ok (.if_icmp .gt 72, 3) := by decide +kernel
theorem dX13_breaths_97 : decode cX13_breaths 97 = .ok (.iload 4, 2) := by decide +kernel
theorem dX13_breaths_99 : decode cX13_breaths 99 = .ok (.iconst 1, 1) := by decide +kernel
theorem dX13_breaths_100 : decode cX13_breaths 100 = .ok (.iadd, 1) := by decide +kernel
theorem dX13_breaths_101 : decode cX13_breaths 101 = .ok (.istore 6, 2) := by decide +kernel
theorem dX13_breaths_103 : decode cX13_breaths 103 = .ok (.aload_n 0, 1) := by decide +kernel
theorem dX13_breaths_104 : decode cX13_breaths 104 = .ok (.iload_n 1, 1) := by decide +kernel
theorem dX13_breaths_105 : decode cX13_breaths 105 = .ok (.iload 6, 2) := by decide +kernel
theorem dX13_breaths_107 : decode cX13_breaths 107 = .ok (.iconst 1, 1) := by decide +kernel
theorem dX13_breaths_108 : decode cX13_breaths 108 = .ok (.isub, 1) := by decide +kernel
theorem dX13_breaths_109 : decode cX13_breaths 109 = .ok (.invokevirtual 384, 3) := by decide +kernel
theorem dX13_breaths_112 : decode cX13_breaths 112 = .ok (.ifCond .eq 35, 3) := by decide +kernel
theorem dX13_breaths_115 : decode cX13_breaths 115 = .ok (.aload_n 0, 1) := by decide +kernel
theorem dX13_breaths_116 : decode cX13_breaths 116 = .ok (.iload_n 1, 1) := by decide +kernel
theorem dX13_breaths_117 : decode cX13_breaths 117 = .ok (.iload 4, 2) := by decide +kernel
theorem dX13_breaths_119 : decode cX13_breaths 119 = .ok (.iload 6, 2) := by decide +kernel
theorem dX13_breaths_121 : decode cX13_breaths 121 = .ok (.invokevirtual 381, 3) := by decide +kernel
theorem dX13_breaths_124 : decode cX13_breaths 124 = .ok (.iload_n 2, 1) := by decide +kernel
theorem dX13_breaths_125 : decode cX13_breaths 125 = .ok (.if_icmp .gt 22, 3) := by decide +kernel
theorem dX13_breaths_128 : decode cX13_breaths 128 = .ok (.aload_n 0, 1) := by decide +kernel
theorem dX13_breaths_129 : decode cX13_breaths 129 = .ok (.getfield 104, 3) := by decide +kernel
theorem dX13_breaths_132 : decode cX13_breaths 132 = .ok (.iload 6, 2) := by decide +kernel
theorem dX13_breaths_134 : decode cX13_breaths 134 = .ok (.iaload, 1) := by decide +kernel
theorem dX13_breaths_135 : decode cX13_breaths 135 = .ok (.iconst 1, 1) := by decide +kernel
theorem dX13_breaths_136 : decode cX13_breaths 136 = .ok (.iadd, 1) := by decide +kernel
theorem dX13_breaths_137 : decode cX13_breaths 137 = .ok (.aload_n 0, 1) := by decide +kernel
theorem dX13_breaths_138 : decode cX13_breaths 138 = .ok (.getfield 104, 3) := by decide +kernel
theorem dX13_breaths_141 : decode cX13_breaths 141 = .ok (.iload 4, 2) := by decide +kernel
theorem dX13_breaths_143 : decode cX13_breaths 143 = .ok (.iaload, 1) := by decide +kernel
theorem dX13_breaths_144 : decode cX13_breaths 144 = .ok (.if_icmp .eq 12, 3) := by decide +kernel
theorem dX13_breaths_147 : decode cX13_breaths 147 = .ok (.iload 6, 2) := by decide +kernel
theorem dX13_breaths_149 : decode cX13_breaths 149 = .ok (.iconst 1, 1) := by decide +kernel
theorem dX13_breaths_150 : decode cX13_breaths 150 = .ok (.iadd, 1) := by decide +kernel
theorem dX13_breaths_151 : decode cX13_breaths 151 = .ok (.istore 6, 2) := by decide +kernel
theorem dX13_breaths_153 : decode cX13_breaths 153 = .ok (.goto (-50), 3) := by decide +kernel
theorem dX13_breaths_156 : decode cX13_breaths 156 = .ok (.iload 6, 2) := by decide +kernel
theorem dX13_breaths_158 : decode cX13_breaths 158 = .ok (.istore 4, 2) := by decide +kernel
theorem dX13_breaths_160 : decode cX13_breaths 160 = .ok (.iinc 5 1, 3) := by decide +kernel
theorem dX13_breaths_163 : decode cX13_breaths 163 = .ok (.goto (-72), 3) := by decide +kernel
theorem dX13_breaths_166 : decode cX13_breaths 166 = .ok (.iload 4, 2) := by decide +kernel
theorem dX13_breaths_168 : decode cX13_breaths 168 = .ok (.ireturn, 1) := by decide +kernel
theorem dX13_showsAt_0 : decode cX13_showsAt 0 = .ok (.bipush 60, 2) := by decide +kernel
theorem dX13_showsAt_2 : decode cX13_showsAt 2 = .ok (.aload_n 0, 1) := by decide +kernel
theorem dX13_showsAt_3 : decode cX13_showsAt 3 = .ok (.getfield 7, 3) := by decide +kernel
theorem dX13_showsAt_6 : decode cX13_showsAt 6 = .ok (.bipush 8, 2) := by decide +kernel
theorem dX13_showsAt_8 : decode cX13_showsAt 8 = .ok (.iload_n 1, 1) := by decide +kernel
theorem dX13_showsAt_9 : decode cX13_showsAt 9 = .ok (.iadd, 1) := by decide +kernel
theorem dX13_showsAt_10 : decode cX13_showsAt 10 = .ok (.iaload, 1) := by decide +kernel
theorem dX13_showsAt_11 : decode cX13_showsAt 11 = .ok (.iadd, 1) := by decide +kernel
theorem dX13_showsAt_12 : decode cX13_showsAt 12 = .ok (.iload_n 2, 1) := by decide +kernel
theorem dX13_showsAt_13 : decode cX13_showsAt 13 = .ok (.imul, 1) := by decide +kernel
theorem dX13_showsAt_14 : decode cX13_showsAt 14 = .ok (.bipush 60, 2) := by decide +kernel
theorem dX13_showsAt_16 : decode cX13_showsAt 16 = .ok (.idiv, 1) := by decide +kernel
theorem dX13_showsAt_17 : decode cX13_showsAt 17 = .ok (.ireturn, 1) := by decide +kernel
theorem dX13_clock_0 : decode cX13_clock 0 = .ok (.aload_n 0, 1) := by decide +kernel
theorem dX13_clock_1 : decode cX13_clock 1 = .ok (.iload_n 1, 1) := by decide +kernel
theorem dX13_clock_2 : decode cX13_clock 2 = .ok (.invokevirtual 118, 3) := by decide +kernel
theorem dX13_clock_5 : decode cX13_clock 5 = .ok (.ifCond .eq 27, 3) := by decide +kernel
theorem dX13_clock_8 : decode cX13_clock 8 = .ok (.iload_n 2, 1) := by decide +kernel
theorem dX13_clock_9 : decode cX13_clock 9 = .ok (.iconst 0, 1) := by decide +kernel
theorem dX13_clock_10 : decode cX13_clock 10 = .ok (.ldc_w 390, 3) := by decide +kernel
theorem dX13_clock_13 : decode cX13_clock 13 = .ok (.invokestatic 114, 3) := by decide +kernel
theorem dX13_clock_16 : decode cX13_clock 16 = .ok (.ifCond .eq 16, 3) := by decide +kernel
theorem dX13_clock_19 : decode cX13_clock 19 = .ok (.aload_n 0, 1) := by decide +kernel
theorem dX13_clock_20 : decode cX13_clock 20 = .ok (.iload_n 1, 1) := by decide +kernel
theorem dX13_clock_21 : decode cX13_clock 21 = .ok (.iload_n 2, 1) := by decide +kernel
theorem dX13_clock_22 : decode cX13_clock 22 = .ok (.invokevirtual 391, 3) := by decide +kernel
theorem dX13_clock_25 : decode cX13_clock 25 = .ok (.ldc_w 394, 3) := by decide +kernel
theorem dX13_clock_28 : decode cX13_clock 28 = .ok (.irem, 1) := by decide +kernel
theorem dX13_clock_29 : decode cX13_clock 29 = .ok (.goto 4, 3) := by decide +kernel
theorem dX13_clock_32 : decode cX13_clock 32 = .ok (.iconst (-1), 1) := by decide +kernel
theorem dX13_clock_33 : decode cX13_clock 33 = .ok (.ireturn, 1) := by decide +kernel
theorem dX13_gcd_0 : decode cX13_gcd 0 = .ok (.iload_n 0, 1) := by decide +kernel
theorem dX13_gcd_1 : decode cX13_gcd 1 = .ok (.istore_n 2, 1) := by decide +kernel
theorem dX13_gcd_2 : decode cX13_gcd 2 = .ok (.iload_n 1, 1) := by decide +kernel
theorem dX13_gcd_3 : decode cX13_gcd 3 = .ok (.istore_n 3, 1) := by decide +kernel
theorem dX13_gcd_4 : decode cX13_gcd 4 = .ok (.iload_n 3, 1) := by decide +kernel
theorem dX13_gcd_5 : decode cX13_gcd 5 = .ok (.ifCond .eq 16, 3) := by decide +kernel
theorem dX13_gcd_8 : decode cX13_gcd 8 = .ok (.iload_n 2, 1) := by decide +kernel
theorem dX13_gcd_9 : decode cX13_gcd 9 = .ok (.iload_n 3, 1) := by decide +kernel
theorem dX13_gcd_10 : decode cX13_gcd 10 = .ok (.irem, 1) := by decide +kernel
theorem dX13_gcd_11 : decode cX13_gcd 11 = .ok (.istore 4, 2) := by decide +kernel
theorem dX13_gcd_13 : decode cX13_gcd 13 = .ok (.iload_n 3, 1) := by decide +kernel
theorem dX13_gcd_14 : decode cX13_gcd 14 = .ok (.istore_n 2, 1) := by decide +kernel
theorem dX13_gcd_15 : decode cX13_gcd 15 = .ok (.iload 4, 2) := by decide +kernel
theorem dX13_gcd_17 : decode cX13_gcd 17 = .ok (.istore_n 3, 1) := by decide +kernel
theorem dX13_gcd_18 : decode cX13_gcd 18 = .ok (.goto (-14), 3) := by decide +kernel
theorem dX13_gcd_21 : decode cX13_gcd 21 = .ok (.iload_n 2, 1) := by decide +kernel
theorem dX13_gcd_22 : decode cX13_gcd 22 = .ok (.ireturn, 1) := by decide +kernel
theorem dX13_meet_0 : decode cX13_meet 0 = .ok (.aload_n 0, 1) := by decide +kernel
theorem dX13_meet_1 : decode cX13_meet 1 = .ok (.iload_n 1, 1) := by decide +kernel
theorem dX13_meet_2 : decode cX13_meet 2 = .ok (.invokevirtual 118, 3) := by decide +kernel
theorem dX13_meet_5 : decode cX13_meet 5 = .ok (.ifCond .eq 16, 3) := by decide +kernel
theorem dX13_meet_8 : decode cX13_meet 8 = .ok (.aload_n 0, 1) := by decide +kernel
theorem dX13_meet_9 : decode cX13_meet 9 = .ok (.iload_n 2, 1) := by decide +kernel
theorem dX13_meet_10 : decode cX13_meet 10 = .ok (.invokevirtual 118, 3) := by decide +kernel
theorem dX13_meet_13 : decode cX13_meet 13 = .ok (.ifCond .eq 8, 3) := by decide +kernel
theorem dX13_meet_16 : decode cX13_meet 16 = .ok (.iload_n 1, 1) := by decide +kernel
theorem dX13_meet_17 : decode cX13_meet 17 = .ok (.iload_n 2, 1) := by decide +kernel
theorem dX13_meet_18 : decode cX13_meet 18 = .ok (.if_icmp .ne 5, 3) := by decide +kernel
theorem dX13_meet_21 : decode cX13_meet 21 = .ok (.iconst (-1), 1) := by decide +kernel
theorem dX13_meet_22 : decode cX13_meet 22 = .ok (.ireturn, 1) := by decide +kernel
theorem dX13_meet_23 : decode cX13_meet 23 = .ok (.aload_n 0, 1) := by decide +kernel
theorem dX13_meet_24 : decode cX13_meet 24 = .ok (.getfield 7, 3) := by decide +kernel
theorem dX13_meet_27 : decode cX13_meet 27 = .ok (.bipush 8, 2) := by decide +kernel
theorem dX13_meet_29 : decode cX13_meet 29 = .ok (.iload_n 1, 1) := by decide +kernel
theorem dX13_meet_30 : decode cX13_meet 30 = .ok (.iadd, 1) := by decide +kernel
theorem dX13_meet_31 : decode cX13_meet 31 = .ok (.iaload, 1) := by decide +kernel
theorem dX13_meet_32 : decode cX13_meet 32 = .ok (.aload_n 0, 1) := by decide +kernel
theorem dX13_meet_33 : decode cX13_meet 33 = .ok (.getfield 7, 3) := by decide +kernel
theorem dX13_meet_36 : decode cX13_meet 36 = .ok (.bipush 8, 2) := by decide +kernel
theorem dX13_meet_38 : decode cX13_meet 38 = .ok (.iload_n 2, 1) := by decide +kernel
theorem dX13_meet_39 : decode cX13_meet 39 = .ok (.iadd, 1) := by decide +kernel
theorem dX13_meet_40 : decode cX13_meet 40 = .ok (.iaload, 1) := by decide +kernel
theorem dX13_meet_41 : decode cX13_meet 41 = .ok (.isub, 1) := by decide +kernel
theorem dX13_meet_42 : decode cX13_meet 42 = .ok (.invokestatic 134, 3) := by decide +kernel
theorem dX13_meet_45 : decode cX13_meet 45 = .ok (.istore_n 3, 1) := by decide +kernel
theorem dX13_meet_46 : decode cX13_meet 46 = .ok (.ldc_w 395, 3) := by decide +kernel
theorem dX13_meet_49 : decode cX13_meet 49 = .ok (.ldc_w 395, 3) := by decide +kernel
theorem dX13_meet_52 : decode cX13_meet 52 = .ok (.iload_n 3, 1) := by decide +kernel
theorem dX13_meet_53 : decode cX13_meet 53 = .ok (.invokestatic 396, 3) := by decide +kernel
theorem dX13_meet_56 : decode cX13_meet 56 = .ok (.idiv, 1) := by decide +kernel
theorem dX13_meet_57 : decode cX13_meet 57 = .ok (.ireturn, 1) := by decide +kernel
theorem dX13_agree_0 : decode cX13_agree 0 = .ok (.iload_n 1, 1) := by decide +kernel
theorem dX13_agree_1 : decode cX13_agree 1 = .ok (.iconst 0, 1) := by decide +kernel
theorem dX13_agree_2 : decode cX13_agree 2 = .ok (.ldc_w 390, 3) := by decide +kernel
theorem dX13_agree_5 : decode cX13_agree 5 = .ok (.invokestatic 114, 3) := by decide +kernel
theorem dX13_agree_8 : decode cX13_agree 8 = .ok (.ifCond .eq 23, 3) := by decide +kernel
theorem dX13_agree_11 : decode cX13_agree 11 = .ok (.iload_n 2, 1) := by decide +kernel
theorem dX13_agree_12 : decode cX13_agree 12 = .ok (.iconst 0, 1) := by decide +kernel
theorem dX13_agree_13 : decode cX13_agree 13 = .ok (.sipush 9999, 3) := by decide +kernel
theorem dX13_agree_16 : decode cX13_agree 16 = .ok (.invokestatic 114, 3) := by decide +kernel
theorem dX13_agree_19 : decode cX13_agree 19 = .ok (.ifCond .eq 12, 3) := by decide +kernel
theorem dX13_agree_22 : decode cX13_agree 22 = .ok (.iload_n 3, 1) := by decide +kernel
theorem dX13_agree_23 : decode cX13_agree 23 = .ok (.iconst 0, 1) := by decide +kernel
theorem dX13_agree_24 : decode cX13_agree 24 = .ok (.iconst 1, 1) := by decide +kernel
theorem dX13_agree_25 : decode cX13_agree 25 = .ok (.invokestatic 114, 3) := by decide +kernel
theorem dX13_agree_28 : decode cX13_agree 28 = .ok (.ifCond .ne 5, 3) := by decide +kernel
theorem dX13_agree_31 : decode cX13_agree 31 = .ok (.iconst (-1), 1) := by decide +kernel
theorem dX13_agree_32 : decode cX13_agree 32 = .ok (.ireturn, 1) := by decide +kernel
theorem dX13_agree_33 : decode cX13_agree 33 = .ok (.iconst 0, 1) := by decide +kernel
theorem dX13_agree_34 : decode cX13_agree 34 = .ok (.istore 4, 2) := by decide +kernel
theorem dX13_agree_36 : decode cX13_agree 36 = .ok (.iconst 1, 1) := by decide +kernel
theorem dX13_agree_37 : decode cX13_agree 37 = .ok (.istore 5, 2) := by decide +kernel
theorem dX13_agree_39 : decode cX13_agree 39 = .ok (.iload 5, 2) := by decide +kernel
theorem dX13_agree_41 : decode cX13_agree 41 = .ok (.sipush 256, 3) := by decide +kernel
theorem dX13_agree_44 : decode cX13_agree 44 = .ok (.if_icmp .ge 115, 3) := by decide +kernel
theorem dX13_agree_47 : decode cX13_agree 47 = .ok (.iload 5, 2) := by decide +kernel
theorem dX13_agree_49 : decode cX13_agree 49 = .ok (.aload_n 0, 1) := by decide +kernel
theorem dX13_agree_50 : decode cX13_agree 50 = .ok (.invokevirtual 126, 3) := by decide +kernel
theorem dX13_agree_53 : decode cX13_agree 53 = .ok (.iconst (-1), 1) := by decide +kernel
theorem dX13_agree_54 : decode cX13_agree 54 = .ok (.ixor, 1) := by decide +kernel
theorem dX13_agree_55 : decode cX13_agree 55 = .ok (.iand, 1) := by decide +kernel
theorem dX13_agree_56 : decode cX13_agree 56 = .ok (.ifCond .ne 97, 3) := by decide +kernel
theorem dX13_agree_59 : decode cX13_agree 59 = .ok (.iload 5, 2) := by decide +kernel
theorem dX13_agree_61 : decode cX13_agree 61 = .ok (.invokestatic 130, 3) := by decide +kernel
theorem dX13_agree_64 : decode cX13_agree 64 = .ok (.iload 4, 2) := by decide +kernel
theorem dX13_agree_66 : decode cX13_agree 66 = .ok (.invokestatic 130, 3) := by decide +kernel
theorem dX13_agree_69 : decode cX13_agree 69 = .ok (.if_icmp .gt 6, 3) := by decide +kernel
theorem dX13_agree_72 : decode cX13_agree 72 = .ok (.goto 81, 3) := by decide +kernel
theorem dX13_agree_75 : decode cX13_agree 75 = .ok (.ldc_w 328, 3) := by decide +kernel
theorem dX13_agree_78 : decode cX13_agree 78 = .ok (.istore 6, 2) := by decide +kernel
theorem dX13_agree_80 : decode cX13_agree 80 = .ok (.iconst (-1), 1) := by decide +kernel
theorem dX13_agree_81 : decode cX13_agree 81 = .ok (.istore 7, 2) := by decide +kernel
theorem dX13_agree_83 : decode cX13_agree 83 = .ok (.iconst 0, 1) := by decide +kernel
theorem dX13_agree_84 : decode cX13_agree 84 = .ok (.istore 8, 2) := by decide +kernel
theorem dX13_agree_86 : decode cX13_agree 86 = .ok (.iload 8, 2) := by decide +kernel
theorem dX13_agree_88 : decode cX13_agree 88 = .ok (.bipush 8, 2) := by decide +kernel
theorem dX13_agree_90 : decode cX13_agree 90 = .ok (.if_icmp .ge 50, 3) := by decide +kernel
theorem dX13_agree_93 : decode cX13_agree 93 = .ok (.iload 5, 2) := by decide +kernel
theorem dX13_agree_95 : decode cX13_agree 95 = .ok (.iload 8, 2) := by decide +kernel
theorem dX13_agree_97 : decode cX13_agree 97 = .ok (.invokestatic 137, 3) := by decide +kernel
theorem dX13_agree_100 : decode cX13_agree 100 = .ok (.ifCond .ne 6, 3) := by decide +kernel
theorem dX13_agree_103 : decode cX13_agree 103 = .ok (.goto 31, 3) := by decide +kernel
theorem dX13_agree_106 : decode cX13_agree 106 = .ok (.iload 6, 2) := by decide +kernel
theorem dX13_agree_108 : decode cX13_agree 108 = .ok (.aload_n 0, 1) := by decide +kernel
theorem dX13_agree_109 : decode cX13_agree 109 = .ok (.iload 8, 2) := by decide +kernel
theorem dX13_agree_111 : decode cX13_agree 111 = .ok (.iload_n 1, 1) := by decide +kernel
theorem dX13_agree_112 : decode cX13_agree 112 = .ok (.invokevirtual 391, 3) := by decide +kernel
theorem dX13_agree_115 : decode cX13_agree 115 = .ok (.invokestatic 282, 3) := by decide +kernel
theorem dX13_agree_118 : decode cX13_agree 118 = .ok (.istore 6, 2) := by decide +kernel
theorem dX13_agree_120 : decode cX13_agree 120 = .ok (.iload 7, 2) := by decide +kernel
theorem dX13_agree_122 : decode cX13_agree 122 = .ok (.aload_n 0, 1) := by decide +kernel
theorem dX13_agree_123 : decode cX13_agree 123 = .ok (.iload 8, 2) := by decide +kernel
theorem dX13_agree_125 : decode cX13_agree 125 = .ok (.iload_n 1, 1) := by decide +kernel
theorem dX13_agree_126 : decode cX13_agree 126 = .ok (.invokevirtual 391, 3) := by decide +kernel
theorem dX13_agree_129 : decode cX13_agree 129 = .ok (.invokestatic 294, 3) := by decide +kernel
theorem dX13_agree_132 : decode cX13_agree 132 = .ok (.istore 7, 2) := by decide +kernel
theorem dX13_agree_134 : decode cX13_agree 134 = .ok (.iinc 8 1, 3) := by decide +kernel
theorem dX13_agree_137 : decode cX13_agree 137 = .ok (.goto (-51), 3) := by decide +kernel
theorem dX13_agree_140 : decode cX13_agree 140 = .ok (.iload 7, 2) := by decide +kernel
theorem dX13_agree_142 : decode cX13_agree 142 = .ok (.iload 6, 2) := by decide +kernel
theorem dX13_agree_144 : decode cX13_agree 144 = .ok (.isub, 1) := by decide +kernel
theorem dX13_agree_145 : decode cX13_agree 145 = .ok (.iload_n 2, 1) := by decide +kernel
theorem dX13_agree_146 : decode cX13_agree 146 = .ok (.if_icmp .gt 7, 3) := by decide +kernel
theorem dX13_agree_149 : decode cX13_agree 149 = .ok (.iload 5, 2) := by decide +kernel
theorem dX13_agree_151 : decode cX13_agree 151 = .ok (.istore 4, 2) := by decide +kernel
theorem dX13_agree_153 : decode cX13_agree 153 = .ok (.iinc 5 1, 3) := by decide +kernel
theorem dX13_agree_156 : decode cX13_agree 156 = .ok (.goto (-117), 3) := by decide +kernel
theorem dX13_agree_159 : decode cX13_agree 159 = .ok (.iload_n 3, 1) := by decide +kernel
theorem dX13_agree_160 : decode cX13_agree 160 = .ok (.ifCond .ne 11, 3) := by decide +kernel
theorem dX13_agree_163 : decode cX13_agree 163 = .ok (.iload 4, 2) := by decide +kernel
theorem dX13_agree_165 : decode cX13_agree 165 = .ok (.invokestatic 130, 3) := by decide +kernel
theorem dX13_agree_168 : decode cX13_agree 168 = .ok (.goto 5, 3) := by decide +kernel
theorem dX13_agree_171 : decode cX13_agree 171 = .ok (.iload 4, 2) := by decide +kernel
theorem dX13_agree_173 : decode cX13_agree 173 = .ok (.ireturn, 1) := by decide +kernel
theorem dX13_followersOf_0 : decode cX13_followersOf 0 = .ok (.iconst 1, 1) := by decide +kernel
theorem dX13_followersOf_1 : decode cX13_followersOf 1 = .ok (.iload_n 1, 1) := by decide +kernel
theorem dX13_followersOf_2 : decode cX13_followersOf 2 = .ok (.ishl, 1) := by decide +kernel
theorem dX13_followersOf_3 : decode cX13_followersOf 3 = .ok (.istore_n 2, 1) := by decide +kernel
theorem dX13_followersOf_4 : decode cX13_followersOf 4 = .ok (.iconst 0, 1) := by decide +kernel
theorem dX13_followersOf_5 : decode cX13_followersOf 5 = .ok (.istore_n 3, 1) := by decide +kernel
theorem dX13_followersOf_6 : decode cX13_followersOf 6 = .ok (.iload_n 2, 1) := by decide +kernel
theorem dX13_followersOf_7 : decode cX13_followersOf 7 = .ok (.iload_n 3, 1) := by decide +kernel
theorem dX13_followersOf_8 : decode cX13_followersOf 8 = .ok (.if_icmp .eq 42, 3) := by decide +kernel
theorem dX13_followersOf_11 : decode cX13_followersOf 11 = .ok (.iload_n 2, 1) := by decide +kernel
theorem dX13_followersOf_12 : decode cX13_followersOf 12 = .ok (.istore_n 3, 1) := by decide +kernel
theorem dX13_followersOf_13 : decode cX13_followersOf 13 = .ok (.iconst 0, 1) := by decide +kernel
theorem dX13_followersOf_14 : decode cX13_followersOf 14 = .ok (.istore 4, 2) := by decide +kernel
theorem dX13_followersOf_16 : decode cX13_followersOf 16 = .ok (.iload 4, 2) := by decide +kernel
theorem dX13_followersOf_18 : decode cX13_followersOf 18 = .ok (.bipush 8, 2) := by decide +kernel
theorem dX13_followersOf_20 : decode cX13_followersOf 20 = .ok (.if_icmp .ge 27, 3) := by decide +kernel
theorem dX13_followersOf_23 : decode cX13_followersOf 23 = .ok (.aload_n 0, 1) := by decide +kernel
theorem dX13_followersOf_24 : decode cX13_followersOf 24 = .ok (.iload 4, 2) := by decide +kernel
theorem dX13_followersOf_26 : decode cX13_followersOf 26 = .ok (.invokevirtual 267, 3) := by decide +kernel
theorem dX13_followersOf_29 : decode cX13_followersOf 29 = .ok (.iload_n 3, 1) := by decide +kernel
theorem dX13_followersOf_30 : decode cX13_followersOf 30 = .ok (.iand, 1) := by decide +kernel
theorem dX13_followersOf_31 : decode cX13_followersOf 31 = .ok (.ifCond .eq 10, 3) := by decide +kernel
theorem dX13_followersOf_34 : decode cX13_followersOf 34 = .ok (.iload_n 2, 1) := by decide +kernel
theorem dX13_followersOf_35 : decode cX13_followersOf 35 = .ok (.iconst 1, 1) := by decide +kernel
theorem dX13_followersOf_36 : decode cX13_followersOf 36 = .ok (.iload 4, 2) := by decide +kernel
theorem dX13_followersOf_38 : decode cX13_followersOf 38 = .ok (.ishl, 1) := by decide +kernel
theorem dX13_followersOf_39 : decode cX13_followersOf 39 = .ok (.ior, 1) := by decide +kernel
theorem dX13_followersOf_40 : decode cX13_followersOf 40 = .ok (.istore_n 2, 1) := by decide +kernel
theorem dX13_followersOf_41 : decode cX13_followersOf 41 = .ok (.iinc 4 1, 3) := by decide +kernel
theorem dX13_followersOf_44 : decode cX13_followersOf 44 = .ok (.goto (-28), 3) := by decide +kernel
theorem dX13_followersOf_47 : decode cX13_followersOf 47 = .ok (.goto (-41), 3) := by decide +kernel
theorem dX13_followersOf_50 : decode cX13_followersOf 50 = .ok (.iload_n 2, 1) := by decide +kernel
theorem dX13_followersOf_51 : decode cX13_followersOf 51 = .ok (.ireturn, 1) := by decide +kernel
theorem dX13_leads_0 : decode cX13_leads 0 = .ok (.aload_n 0, 1) := by decide +kernel
theorem dX13_leads_1 : decode cX13_leads 1 = .ok (.iload_n 1, 1) := by decide +kernel
theorem dX13_leads_2 : decode cX13_leads 2 = .ok (.invokevirtual 118, 3) := by decide +kernel
theorem dX13_leads_5 : decode cX13_leads 5 = .ok (.ifCond .eq 17, 3) := by decide +kernel
theorem dX13_leads_8 : decode cX13_leads 8 = .ok (.aload_n 0, 1) := by decide +kernel
theorem dX13_leads_9 : decode cX13_leads 9 = .ok (.iload_n 1, 1) := by decide +kernel
theorem dX13_leads_10 : decode cX13_leads 10 = .ok (.invokevirtual 399, 3) := by decide +kernel
theorem dX13_leads_13 : decode cX13_leads 13 = .ok (.iconst 1, 1) := by decide +kernel
theorem dX13_leads_14 : decode cX13_leads 14 = .ok (.iload_n 1, 1) := by decide +kernel
theorem dX13_leads_15 : decode cX13_leads 15 = .ok (.ishl, 1) := by decide +kernel
theorem dX13_leads_16 : decode cX13_leads 16 = .ok (.iconst (-1), 1) := by decide +kernel
theorem dX13_leads_17 : decode cX13_leads 17 = .ok (.ixor, 1) := by decide +kernel
theorem dX13_leads_18 : decode cX13_leads 18 = .ok (.iand, 1) := by decide +kernel
theorem dX13_leads_19 : decode cX13_leads 19 = .ok (.goto 4, 3) := by decide +kernel
theorem dX13_leads_22 : decode cX13_leads 22 = .ok (.iconst (-1), 1) := by decide +kernel
theorem dX13_leads_23 : decode cX13_leads 23 = .ok (.ireturn, 1) := by decide +kernel
theorem dX13_groupOf_0 : decode cX13_groupOf 0 = .ok (.iconst 0, 1) := by decide +kernel
theorem dX13_groupOf_1 : decode cX13_groupOf 1 = .ok (.istore_n 2, 1) := by decide +kernel
theorem dX13_groupOf_2 : decode cX13_groupOf 2 = .ok (.iconst 0, 1) := by decide +kernel
theorem dX13_groupOf_3 : decode cX13_groupOf 3 = .ok (.istore_n 3, 1) := by decide +kernel
theorem dX13_groupOf_4 : decode cX13_groupOf 4 = .ok (.iload_n 3, 1) := by decide +kernel
theorem dX13_groupOf_5 : decode cX13_groupOf 5 = .ok (.bipush 8, 2) := by decide +kernel
theorem dX13_groupOf_7 : decode cX13_groupOf 7 = .ok (.if_icmp .ge 47, 3) := by decide +kernel
theorem dX13_groupOf_10 : decode cX13_groupOf 10 = .ok (.aload_n 0, 1) := by decide +kernel
theorem dX13_groupOf_11 : decode cX13_groupOf 11 = .ok (.iload_n 3, 1) := by decide +kernel
theorem dX13_groupOf_12 : decode cX13_groupOf 12 = .ok (.invokevirtual 118, 3) := by decide +kernel
theorem dX13_groupOf_15 : decode cX13_groupOf 15 = .ok (.ifCond .eq 33, 3) := by decide +kernel
theorem dX13_groupOf_18 : decode cX13_groupOf 18 = .ok (.aload_n 0, 1) := by decide +kernel
theorem dX13_groupOf_19 : decode cX13_groupOf 19 = .ok (.iload_n 1, 1) := by decide +kernel
theorem dX13_groupOf_20 : decode cX13_groupOf 20 = .ok (.invokevirtual 399, 3) := by decide +kernel
theorem dX13_groupOf_23 : decode cX13_groupOf 23 = .ok (.iload_n 3, 1) := by decide +kernel
theorem dX13_groupOf_24 : decode cX13_groupOf 24 = .ok (.invokestatic 137, 3) := by decide +kernel
theorem dX13_groupOf_27 : decode cX13_groupOf 27 = .ok (.ifCond .eq 21, 3) := by decide +kernel
theorem dX13_groupOf_30 : decode cX13_groupOf 30 = .ok (.aload_n 0, 1) := by decide +kernel
theorem dX13_groupOf_31 : decode cX13_groupOf 31 = .ok (.iload_n 3, 1) := by decide +kernel
theorem dX13_groupOf_32 : decode cX13_groupOf 32 = .ok (.invokevirtual 399, 3) := by decide +kernel
theorem dX13_groupOf_35 : decode cX13_groupOf 35 = .ok (.iload_n 1, 1) := by decide +kernel
theorem dX13_groupOf_36 : decode cX13_groupOf 36 = .ok (.invokestatic 137, 3) := by decide +kernel
theorem dX13_groupOf_39 : decode cX13_groupOf 39 = .ok (.ifCond .eq 9, 3) := by decide +kernel
theorem dX13_groupOf_42 : decode cX13_groupOf 42 = .ok (.iload_n 2, 1) := by decide +kernel
theorem dX13_groupOf_43 : decode cX13_groupOf 43 = .ok (.iconst 1, 1) := by decide +kernel
theorem dX13_groupOf_44 : decode cX13_groupOf 44 = .ok (.iload_n 3, 1) := by decide +kernel
theorem dX13_groupOf_45 : decode cX13_groupOf 45 = .ok (.ishl, 1) := by decide +kernel
theorem dX13_groupOf_46 : decode cX13_groupOf 46 = .ok (.ior, 1) := by decide +kernel
theorem dX13_groupOf_47 : decode cX13_groupOf 47 = .ok (.istore_n 2, 1) := by decide +kernel
theorem dX13_groupOf_48 : decode cX13_groupOf 48 = .ok (.iinc 3 1, 3) := by decide +kernel
theorem dX13_groupOf_51 : decode cX13_groupOf 51 = .ok (.goto (-47), 3) := by decide +kernel
theorem dX13_groupOf_54 : decode cX13_groupOf 54 = .ok (.iload_n 2, 1) := by decide +kernel
theorem dX13_groupOf_55 : decode cX13_groupOf 55 = .ok (.ireturn, 1) := by decide +kernel
theorem dX13_groups_0 : decode cX13_groups 0 = .ok (.iload_n 1, 1) := by decide +kernel
theorem dX13_groups_1 : decode cX13_groups 1 = .ok (.bipush 100, 2) := by decide +kernel
theorem dX13_groups_3 : decode cX13_groups 3 = .ok (.if_icmp .eq 21, 3) := by decide +kernel
theorem dX13_groups_6 : decode cX13_groups 6 = .ok (.aload_n 0, 1) := by decide +kernel
theorem dX13_groups_7 : decode cX13_groups 7 = .ok (.iload_n 1, 1) := by decide +kernel
theorem dX13_groups_8 : decode cX13_groups 8 = .ok (.invokevirtual 118, 3) := by decide +kernel
theorem dX13_groups_11 : decode cX13_groups 11 = .ok (.ifCond .eq 11, 3) := by decide +kernel
theorem dX13_groups_14 : decode cX13_groups 14 = .ok (.aload_n 0, 1) := by decide +kernel
theorem dX13_groups_15 : decode cX13_groups 15 = .ok (.iload_n 1, 1) := by decide +kernel
theorem dX13_groups_16 : decode cX13_groups 16 = .ok (.invokevirtual 402, 3) := by decide +kernel
theorem dX13_groups_19 : decode cX13_groups 19 = .ok (.goto 4, 3) := by decide +kernel
theorem dX13_groups_22 : decode cX13_groups 22 = .ok (.iconst (-1), 1) := by decide +kernel
theorem dX13_groups_23 : decode cX13_groups 23 = .ok (.ireturn, 1) := by decide +kernel
theorem dX13_groups_24 : decode cX13_groups 24 = .ok (.aload_n 0, 1) := by decide +kernel
theorem dX13_groups_25 : decode cX13_groups 25 = .ok (.invokevirtual 126, 3) := by decide +kernel
theorem dX13_groups_28 : decode cX13_groups 28 = .ok (.istore_n 2, 1) := by decide +kernel
theorem dX13_groups_29 : decode cX13_groups 29 = .ok (.iconst 0, 1) := by decide +kernel
theorem dX13_groups_30 : decode cX13_groups 30 = .ok (.istore_n 3, 1) := by decide +kernel
theorem dX13_groups_31 : decode cX13_groups 31 = .ok (.iconst 0, 1) := by decide +kernel
theorem dX13_groups_32 : decode cX13_groups 32 = .ok (.istore 4, 2) := by decide +kernel
theorem dX13_groups_34 : decode cX13_groups 34 = .ok (.iload 4, 2) := by decide +kernel
theorem dX13_groups_36 : decode cX13_groups 36 = .ok (.bipush 8, 2) := by decide +kernel
theorem dX13_groups_38 : decode cX13_groups 38 = .ok (.if_icmp .ge 36, 3) := by decide +kernel
theorem dX13_groups_41 : decode cX13_groups 41 = .ok (.iload_n 2, 1) := by decide +kernel
theorem dX13_groups_42 : decode cX13_groups 42 = .ok (.iload 4, 2) := by decide +kernel
theorem dX13_groups_44 : decode cX13_groups 44 = .ok (.invokestatic 137, 3) := by decide +kernel
theorem dX13_groups_47 : decode cX13_groups 47 = .ok (.ifCond .ne 6, 3) := by decide +kernel
theorem dX13_groups_50 : decode cX13_groups 50 = .ok (.goto 18, 3) := by decide +kernel
theorem dX13_groups_53 : decode cX13_groups 53 = .ok (.iload_n 2, 1) := by decide +kernel
theorem dX13_groups_54 : decode cX13_groups 54 = .ok (.aload_n 0, 1) := by decide +kernel
theorem dX13_groups_55 : decode cX13_groups 55 = .ok (.iload 4, 2) := by decide +kernel
theorem dX13_groups_57 : decode cX13_groups 57 = .ok (.invokevirtual 402, 3) := by decide +kernel
theorem dX13_groups_60 : decode cX13_groups 60 = .ok (.iconst (-1), 1) := by decide +kernel
theorem dX13_groups_61 : decode cX13_groups 61 = .ok (.ixor, 1) := by decide +kernel
theorem dX13_groups_62 : decode cX13_groups 62 = .ok (.iand, 1) := by decide +kernel
theorem dX13_groups_63 : decode cX13_groups 63 = .ok (.istore_n 2, 1) := by decide +kernel
theorem dX13_groups_64 : decode cX13_groups 64 = .ok (.iload_n 3, 1) := by decide +kernel
theorem dX13_groups_65 : decode cX13_groups 65 = .ok (.iconst 1, 1) := by decide +kernel
theorem dX13_groups_66 : decode cX13_groups 66 = .ok (.iadd, 1) := by decide +kernel
theorem dX13_groups_67 : decode cX13_groups 67 = .ok (.istore_n 3, 1) := by decide +kernel
theorem dX13_groups_68 : decode cX13_groups 68 = .ok (.iinc 4 1, 3) := by decide +kernel
theorem dX13_groups_71 : decode cX13_groups 71 = .ok (.goto (-37), 3) := by decide +kernel
theorem dX13_groups_74 : decode cX13_groups 74 = .ok (.iload_n 3, 1) := by decide +kernel
theorem dX13_groups_75 : decode cX13_groups 75 = .ok (.ireturn, 1) := by decide +kernel
theorem dX13_sitsAhead_0 : decode cX13_sitsAhead 0 = .ok (.aload_n 0, 1) := by decide +kernel
theorem dX13_sitsAhead_1 : decode cX13_sitsAhead 1 = .ok (.getfield 7, 3) := by decide +kernel
theorem dX13_sitsAhead_4 : decode cX13_sitsAhead 4 = .ok (.bipush 16, 2) := by decide +kernel
theorem dX13_sitsAhead_6 : decode cX13_sitsAhead 6 = .ok (.iload_n 1, 1) := by decide +kernel
theorem dX13_sitsAhead_7 : decode cX13_sitsAhead 7 = .ok (.iadd, 1) := by decide +kernel
theorem dX13_sitsAhead_8 : decode cX13_sitsAhead 8 = .ok (.iaload, 1) := by decide +kernel
theorem dX13_sitsAhead_9 : decode cX13_sitsAhead 9 = .ok (.aload_n 0, 1) := by decide +kernel
theorem dX13_sitsAhead_10 : decode cX13_sitsAhead 10 = .ok (.getfield 7, 3) := by decide +kernel
theorem dX13_sitsAhead_13 : decode cX13_sitsAhead 13 = .ok (.bipush 16, 2) := by decide +kernel
theorem dX13_sitsAhead_15 : decode cX13_sitsAhead 15 = .ok (.iload_n 2, 1) := by decide +kernel
theorem dX13_sitsAhead_16 : decode cX13_sitsAhead 16 = .ok (.iadd, 1) := by decide +kernel
theorem dX13_sitsAhead_17 : decode cX13_sitsAhead 17 = .ok (.iaload, 1) := by decide +kernel
theorem dX13_sitsAhead_18 : decode cX13_sitsAhead 18 = .ok (.if_icmp .lt 29, 3) := by decide +kernel
theorem dX13_sitsAhead_21 : decode cX13_sitsAhead 21 = .ok (.aload_n 0, 1) := by decide +kernel
theorem dX13_sitsAhead_22 : decode cX13_sitsAhead 22 = .ok (.getfield 7, 3) := by decide +kernel
theorem dX13_sitsAhead_25 : decode cX13_sitsAhead 25 = .ok (.bipush 16, 2) := by decide +kernel
theorem dX13_sitsAhead_27 : decode cX13_sitsAhead 27 = .ok (.iload_n 1, 1) := by decide +kernel
theorem dX13_sitsAhead_28 : decode cX13_sitsAhead 28 = .ok (.iadd, 1) := by decide +kernel
theorem dX13_sitsAhead_29 : decode cX13_sitsAhead 29 = .ok (.iaload, 1) := by decide +kernel
theorem dX13_sitsAhead_30 : decode cX13_sitsAhead 30 = .ok (.aload_n 0, 1) := by decide +kernel
theorem dX13_sitsAhead_31 : decode cX13_sitsAhead 31 = .ok (.getfield 7, 3) := by decide +kernel
theorem dX13_sitsAhead_34 : decode cX13_sitsAhead 34 = .ok (.bipush 16, 2) := by decide +kernel
theorem dX13_sitsAhead_36 : decode cX13_sitsAhead 36 = .ok (.iload_n 2, 1) := by decide +kernel
theorem dX13_sitsAhead_37 : decode cX13_sitsAhead 37 = .ok (.iadd, 1) := by decide +kernel
theorem dX13_sitsAhead_38 : decode cX13_sitsAhead 38 = .ok (.iaload, 1) := by decide +kernel
theorem dX13_sitsAhead_39 : decode cX13_sitsAhead 39 = .ok (.if_icmp .ne 12, 3) := by decide +kernel
theorem dX13_sitsAhead_42 : decode cX13_sitsAhead 42 = .ok (.iload_n 1, 1) := by decide +kernel
theorem dX13_sitsAhead_43 : decode cX13_sitsAhead 43 = .ok (.iload_n 2, 1) := by decide +kernel
theorem dX13_sitsAhead_44 : decode cX13_sitsAhead 44 = .ok (.if_icmp .ge 7, 3) := by decide +kernel
theorem dX13_sitsAhead_47 : decode cX13_sitsAhead 47 = .ok (.iconst 1, 1) := by decide +kernel
theorem dX13_sitsAhead_48 : decode cX13_sitsAhead 48 = .ok (.goto 4, 3) := by decide +kernel
theorem dX13_sitsAhead_51 : decode cX13_sitsAhead 51 = .ok (.iconst 0, 1) := by decide +kernel
theorem dX13_sitsAhead_52 : decode cX13_sitsAhead 52 = .ok (.ireturn, 1) := by decide +kernel
theorem dX13_order_0 : decode cX13_order 0 = .ok (.iload_n 1, 1) := by decide +kernel
theorem dX13_order_1 : decode cX13_order 1 = .ok (.iconst 0, 1) := by decide +kernel
theorem dX13_order_2 : decode cX13_order 2 = .ok (.iconst 1, 1) := by decide +kernel
theorem dX13_order_3 : decode cX13_order 3 = .ok (.invokestatic 114, 3) := by decide +kernel
theorem dX13_order_6 : decode cX13_order 6 = .ok (.ifCond .ne 5, 3) := by decide +kernel
theorem dX13_order_9 : decode cX13_order 9 = .ok (.iconst (-1), 1) := by decide +kernel
theorem dX13_order_10 : decode cX13_order 10 = .ok (.ireturn, 1) := by decide +kernel
theorem dX13_order_11 : decode cX13_order 11 = .ok (.bipush 20, 2) := by decide +kernel
theorem dX13_order_13 : decode cX13_order 13 = .ok (.istore_n 2, 1) := by decide +kernel
theorem dX13_order_14 : decode cX13_order 14 = .ok (.bipush (-20), 2) := by decide +kernel
theorem dX13_order_16 : decode cX13_order 16 = .ok (.istore_n 3, 1) := by decide +kernel
theorem dX13_order_17 : decode cX13_order 17 = .ok (.iconst 0, 1) := by decide +kernel
theorem dX13_order_18 : decode cX13_order 18 = .ok (.istore 4, 2) := by decide +kernel
theorem dX13_order_20 : decode cX13_order 20 = .ok (.iconst 0, 1) := by decide +kernel
theorem dX13_order_21 : decode cX13_order 21 = .ok (.istore 5, 2) := by decide +kernel
theorem dX13_order_23 : decode cX13_order 23 = .ok (.iload 5, 2) := by decide +kernel
theorem dX13_order_25 : decode cX13_order 25 = .ok (.bipush 8, 2) := by decide +kernel
theorem dX13_order_27 : decode cX13_order 27 = .ok (.if_icmp .ge 116, 3) := by decide +kernel
theorem dX13_order_30 : decode cX13_order 30 = .ok (.aload_n 0, 1) := by decide +kernel
theorem dX13_order_31 : decode cX13_order 31 = .ok (.iload 5, 2) := by decide +kernel
theorem dX13_order_33 : decode cX13_order 33 = .ok (.invokevirtual 118, 3) := by decide +kernel
theorem dX13_order_36 : decode cX13_order 36 = .ok (.ifCond .ne 6, 3) := by decide +kernel
theorem dX13_order_39 : decode cX13_order 39 = .ok (.goto 98, 3) := by decide +kernel
theorem dX13_order_42 : decode cX13_order 42 = .ok (.iload_n 2, 1) := by decide +kernel
theorem dX13_order_43 : decode cX13_order 43 = .ok (.aload_n 0, 1) := by decide +kernel
theorem dX13_order_44 : decode cX13_order 44 = .ok (.getfield 7, 3) := by decide +kernel
theorem dX13_order_47 : decode cX13_order 47 = .ok (.bipush 8, 2) := by decide +kernel
theorem dX13_order_49 : decode cX13_order 49 = .ok (.iload 5, 2) := by decide +kernel
theorem dX13_order_51 : decode cX13_order 51 = .ok (.iadd, 1) := by decide +kernel
theorem dX13_order_52 : decode cX13_order 52 = .ok (.iaload, 1) := by decide +kernel
theorem dX13_order_53 : decode cX13_order 53 = .ok (.invokestatic 282, 3) := by decide +kernel
theorem dX13_order_56 : decode cX13_order 56 = .ok (.istore_n 2, 1) := by decide +kernel
theorem dX13_order_57 : decode cX13_order 57 = .ok (.iload_n 3, 1) := by decide +kernel
theorem dX13_order_58 : decode cX13_order 58 = .ok (.aload_n 0, 1) := by decide +kernel
theorem dX13_order_59 : decode cX13_order 59 = .ok (.getfield 7, 3) := by decide +kernel
theorem dX13_order_62 : decode cX13_order 62 = .ok (.bipush 8, 2) := by decide +kernel
theorem dX13_order_64 : decode cX13_order 64 = .ok (.iload 5, 2) := by decide +kernel
theorem dX13_order_66 : decode cX13_order 66 = .ok (.iadd, 1) := by decide +kernel
theorem dX13_order_67 : decode cX13_order 67 = .ok (.iaload, 1) := by decide +kernel
theorem dX13_order_68 : decode cX13_order 68 = .ok (.invokestatic 294, 3) := by decide +kernel
theorem dX13_order_71 : decode cX13_order 71 = .ok (.istore_n 3, 1) := by decide +kernel
theorem dX13_order_72 : decode cX13_order 72 = .ok (.iconst 0, 1) := by decide +kernel
theorem dX13_order_73 : decode cX13_order 73 = .ok (.istore 6, 2) := by decide +kernel
theorem dX13_order_75 : decode cX13_order 75 = .ok (.iload 6, 2) := by decide +kernel
theorem dX13_order_77 : decode cX13_order 77 = .ok (.bipush 8, 2) := by decide +kernel
theorem dX13_order_79 : decode cX13_order 79 = .ok (.if_icmp .ge 58, 3) := by decide +kernel
theorem dX13_order_82 : decode cX13_order 82 = .ok (.aload_n 0, 1) := by decide +kernel
theorem dX13_order_83 : decode cX13_order 83 = .ok (.iload 6, 2) := by decide +kernel
theorem dX13_order_85 : decode cX13_order 85 = .ok (.invokevirtual 118, 3) := by decide +kernel
theorem dX13_order_88 : decode cX13_order 88 = .ok (.ifCond .eq 43, 3) := by decide +kernel
theorem dX13_order_91 : decode cX13_order 91 = .ok (.aload_n 0, 1) := by decide +kernel
theorem dX13_order_92 : decode cX13_order 92 = .ok (.iload 5, 2) := by decide +kernel
theorem dX13_order_94 : decode cX13_order 94 = .ok (.iload 6, 2) := by decide +kernel
theorem dX13_order_96 : decode cX13_order 96 = .ok (.invokevirtual 405, 3) := by decide +kernel
theorem dX13_order_99 : decode cX13_order 99 = .ok (.ifCond .eq 32, 3) := by decide +kernel
theorem dX13_order_102 : decode cX13_order 102 = .ok (.aload_n 0, 1) := by decide +kernel
theorem dX13_order_103 : decode cX13_order 103 = .ok (.getfield 7, 3) := by decide +kernel
theorem dX13_order_106 : decode cX13_order 106 = .ok (.bipush 8, 2) := by decide +kernel
theorem dX13_order_108 : decode cX13_order 108 = .ok (.iload 5, 2) := by decide +kernel
theorem dX13_order_110 : decode cX13_order 110 = .ok (.iadd, 1) := by decide +kernel
theorem dX13_order_111 : decode cX13_order 111 = .ok (.iaload, 1) := by decide +kernel
theorem dX13_order_112 : decode cX13_order 112 = .ok (.aload_n 0, 1) := by decide +kernel
theorem dX13_order_113 : decode cX13_order 113 = .ok (.getfield 7, 3) := by decide +kernel
theorem dX13_order_116 : decode cX13_order 116 = .ok (.bipush 8, 2) := by decide +kernel
theorem dX13_order_118 : decode cX13_order 118 = .ok (.iload 6, 2) := by decide +kernel
theorem dX13_order_120 : decode cX13_order 120 = .ok (.iadd, 1) := by decide +kernel
theorem dX13_order_121 : decode cX13_order 121 = .ok (.iaload, 1) := by decide +kernel
theorem dX13_order_122 : decode cX13_order 122 = .ok (.if_icmp .le 9, 3) := by decide +kernel
theorem dX13_order_125 : decode cX13_order 125 = .ok (.iload 4, 2) := by decide +kernel
theorem dX13_order_127 : decode cX13_order 127 = .ok (.iconst 1, 1) := by decide +kernel
theorem dX13_order_128 : decode cX13_order 128 = .ok (.iadd, 1) := by decide +kernel
theorem dX13_order_129 : decode cX13_order 129 = .ok (.istore 4, 2) := by decide +kernel
theorem dX13_order_131 : decode cX13_order 131 = .ok (.iinc 6 1, 3) := by decide +kernel
theorem dX13_order_134 : decode cX13_order 134 = .ok (.goto (-59), 3) := by decide +kernel
theorem dX13_order_137 : decode cX13_order 137 = .ok (.iinc 5 1, 3) := by decide +kernel
theorem dX13_order_140 : decode cX13_order 140 = .ok (.goto (-117), 3) := by decide +kernel
theorem dX13_order_143 : decode cX13_order 143 = .ok (.iload_n 1, 1) := by decide +kernel
theorem dX13_order_144 : decode cX13_order 144 = .ok (.iconst 1, 1) := by decide +kernel
theorem dX13_order_145 : decode cX13_order 145 = .ok (.if_icmp .ne 8, 3) := by decide +kernel
theorem dX13_order_148 : decode cX13_order 148 = .ok (.iload 4, 2) := by decide +kernel
theorem dX13_order_150 : decode cX13_order 150 = .ok (.goto 10, 3) := by decide +kernel
theorem dX13_order_153 : decode cX13_order 153 = .ok (.iconst 0, 1) := by decide +kernel
theorem dX13_order_154 : decode cX13_order 154 = .ok (.iload_n 3, 1) := by decide +kernel
theorem dX13_order_155 : decode cX13_order 155 = .ok (.iload_n 2, 1) := by decide +kernel
theorem dX13_order_156 : decode cX13_order 156 = .ok (.isub, 1) := by decide +kernel
theorem dX13_order_157 : decode cX13_order 157 = .ok (.invokestatic 294, 3) := by decide +kernel
theorem dX13_order_160 : decode cX13_order 160 = .ok (.ireturn, 1) := by decide +kernel
theorem dX13_seed_0 : decode cX13_seed 0 = .ok (.iload_n 1, 1) := by decide +kernel
theorem dX13_seed_1 : decode cX13_seed 1 = .ok (.iconst 0, 1) := by decide +kernel
theorem dX13_seed_2 : decode cX13_seed 2 = .ok (.ldc_w 408, 3) := by decide +kernel
theorem dX13_seed_5 : decode cX13_seed 5 = .ok (.invokestatic 114, 3) := by decide +kernel
theorem dX13_seed_8 : decode cX13_seed 8 = .ok (.ifCond .ne 5, 3) := by decide +kernel
theorem dX13_seed_11 : decode cX13_seed 11 = .ok (.iconst 0, 1) := by decide +kernel
theorem dX13_seed_12 : decode cX13_seed 12 = .ok (.ireturn, 1) := by decide +kernel
theorem dX13_seed_13 : decode cX13_seed 13 = .ok (.aload_n 0, 1) := by decide +kernel
theorem dX13_seed_14 : decode cX13_seed 14 = .ok (.getfield 7, 3) := by decide +kernel
theorem dX13_seed_17 : decode cX13_seed 17 = .ok (.bipush 81, 2) := by decide +kernel
theorem dX13_seed_19 : decode cX13_seed 19 = .ok (.iload_n 1, 1) := by decide +kernel
theorem dX13_seed_20 : decode cX13_seed 20 = .ok (.iastore, 1) := by decide +kernel
theorem dX13_seed_21 : decode cX13_seed 21 = .ok (.iconst 1, 1) := by decide +kernel
theorem dX13_seed_22 : decode cX13_seed 22 = .ok (.ireturn, 1) := by decide +kernel
theorem dX13_keep_0 : decode cX13_keep 0 = .ok (.aload_n 0, 1) := by decide +kernel
theorem dX13_keep_1 : decode cX13_keep 1 = .ok (.iconst 1, 1) := by decide +kernel
theorem dX13_keep_2 : decode cX13_keep 2 = .ok (.putfield 409, 3) := by decide +kernel
theorem dX13_keep_5 : decode cX13_keep 5 = .ok (.aload_n 0, 1) := by decide +kernel
theorem dX13_keep_6 : decode cX13_keep 6 = .ok (.getfield 7, 3) := by decide +kernel
theorem dX13_keep_9 : decode cX13_keep 9 = .ok (.aload_n 0, 1) := by decide +kernel
theorem dX13_keep_10 : decode cX13_keep 10 = .ok (.getfield 16, 3) := by decide +kernel
theorem dX13_keep_13 : decode cX13_keep 13 = .ok (.invokestatic 349, 3) := by decide +kernel
theorem dX13_keep_16 : decode cX13_keep 16 = .ok (.aload_n 0, 1) := by decide +kernel
theorem dX13_keep_17 : decode cX13_keep 17 = .ok (.getfield 7, 3) := by decide +kernel
theorem dX13_keep_20 : decode cX13_keep 20 = .ok (.bipush 80, 2) := by decide +kernel
theorem dX13_keep_22 : decode cX13_keep 22 = .ok (.iaload, 1) := by decide +kernel
theorem dX13_keep_23 : decode cX13_keep 23 = .ok (.ireturn, 1) := by decide +kernel
theorem dX13_undo_0 : decode cX13_undo 0 = .ok (.aload_n 0, 1) := by decide +kernel
theorem dX13_undo_1 : decode cX13_undo 1 = .ok (.getfield 409, 3) := by decide +kernel
theorem dX13_undo_4 : decode cX13_undo 4 = .ok (.ifCond .ne 5, 3) := by decide +kernel
theorem dX13_undo_7 : decode cX13_undo 7 = .ok (.iconst 0, 1) := by decide +kernel
theorem dX13_undo_8 : decode cX13_undo 8 = .ok (.ireturn, 1) := by decide +kernel
theorem dX13_undo_9 : decode cX13_undo 9 = .ok (.aload_n 0, 1) := by decide +kernel
theorem dX13_undo_10 : decode cX13_undo 10 = .ok (.getfield 16, 3) := by decide +kernel
theorem dX13_undo_13 : decode cX13_undo 13 = .ok (.aload_n 0, 1) := by decide +kernel
theorem dX13_undo_14 : decode cX13_undo 14 = .ok (.getfield 7, 3) := by decide +kernel
theorem dX13_undo_17 : decode cX13_undo 17 = .ok (.invokestatic 349, 3) := by decide +kernel
theorem dX13_undo_20 : decode cX13_undo 20 = .ok (.iconst 0, 1) := by decide +kernel
theorem dX13_undo_21 : decode cX13_undo 21 = .ok (.istore_n 1, 1) := by decide +kernel
theorem dX13_undo_22 : decode cX13_undo 22 = .ok (.iload_n 1, 1) := by decide +kernel
theorem dX13_undo_23 : decode cX13_undo 23 = .ok (.bipush 8, 2) := by decide +kernel
theorem dX13_undo_25 : decode cX13_undo 25 = .ok (.if_icmp .ge 54, 3) := by decide +kernel
theorem dX13_undo_28 : decode cX13_undo 28 = .ok (.aload_n 0, 1) := by decide +kernel
theorem dX13_undo_29 : decode cX13_undo 29 = .ok (.getfield 7, 3) := by decide +kernel
theorem dX13_undo_32 : decode cX13_undo 32 = .ok (.bipush 40, 2) := by decide +kernel
theorem dX13_undo_34 : decode cX13_undo 34 = .ok (.iload_n 1, 1) := by decide +kernel
theorem dX13_undo_35 : decode cX13_undo 35 = .ok (.iadd, 1) := by decide +kernel
theorem dX13_undo_36 : decode cX13_undo 36 = .ok (.aload_n 0, 1) := by decide +kernel
theorem dX13_undo_37 : decode cX13_undo 37 = .ok (.getfield 7, 3) := by decide +kernel
theorem dX13_undo_40 : decode cX13_undo 40 = .ok (.bipush 40, 2) := by decide +kernel
theorem dX13_undo_42 : decode cX13_undo 42 = .ok (.iload_n 1, 1) := by decide +kernel
theorem dX13_undo_43 : decode cX13_undo 43 = .ok (.iadd, 1) := by decide +kernel
theorem dX13_undo_44 : decode cX13_undo 44 = .ok (.iaload, 1) := by decide +kernel
theorem dX13_undo_45 : decode cX13_undo 45 = .ok (.aload_n 0, 1) := by decide +kernel
theorem dX13_undo_46 : decode cX13_undo 46 = .ok (.getfield 31, 3) := by decide +kernel
theorem dX13_undo_49 : decode cX13_undo 49 = .ok (.iload_n 1, 1) := by decide +kernel
theorem dX13_undo_50 : decode cX13_undo 50 = .ok (.iaload, 1) := by decide +kernel
theorem dX13_undo_51 : decode cX13_undo 51 = .ok (.invokestatic 282, 3) := by decide +kernel
theorem dX13_undo_54 : decode cX13_undo 54 = .ok (.iastore, 1) := by decide +kernel
theorem dX13_undo_55 : decode cX13_undo 55 = .ok (.aload_n 0, 1) := by decide +kernel
theorem dX13_undo_56 : decode cX13_undo 56 = .ok (.iload_n 1, 1) := by decide +kernel
theorem dX13_undo_57 : decode cX13_undo 57 = .ok (.invokevirtual 270, 3) := by decide +kernel
theorem dX13_undo_60 : decode cX13_undo 60 = .ok (.ifCond .eq 13, 3) := by decide +kernel
theorem dX13_undo_63 : decode cX13_undo 63 = .ok (.aload_n 0, 1) := by decide +kernel
theorem dX13_undo_64 : decode cX13_undo 64 = .ok (.getfield 7, 3) := by decide +kernel
theorem dX13_undo_67 : decode cX13_undo 67 = .ok (.bipush 72, 2) := by decide +kernel
theorem dX13_undo_69 : decode cX13_undo 69 = .ok (.iload_n 1, 1) := by decide +kernel
theorem dX13_undo_70 : decode cX13_undo 70 = .ok (.iadd, 1) := by decide +kernel
theorem dX13_undo_71 : decode cX13_undo 71 = .ok (.iconst 0, 1) := by decide +kernel
theorem dX13_undo_72 : decode cX13_undo 72 = .ok (.iastore, 1) := by decide +kernel
theorem dX13_undo_73 : decode cX13_undo 73 = .ok (.iinc 1 1, 3) := by decide +kernel
theorem dX13_undo_76 : decode cX13_undo 76 = .ok (.goto (-54), 3) := by decide +kernel
theorem dX13_undo_79 : decode cX13_undo 79 = .ok (.iconst 1, 1) := by decide +kernel
theorem dX13_undo_80 : decode cX13_undo 80 = .ok (.ireturn, 1) := by decide +kernel
theorem dX13_check_0 : decode cX13_check 0 = .ok (.iload_n 1, 1) := by decide +kernel
theorem dX13_check_1 : decode cX13_check 1 = .ok (.iconst 0, 1) := by decide +kernel
theorem dX13_check_2 : decode cX13_check 2 = .ok (.bipush 8, 2) := by decide +kernel
theorem dX13_check_4 : decode cX13_check 4 = .ok (.invokestatic 114, 3) := by decide +kernel
theorem dX13_check_7 : decode cX13_check 7 = .ok (.ifCond .eq 11, 3) := by decide +kernel
theorem dX13_check_10 : decode cX13_check 10 = .ok (.iload_n 1, 1) := by decide +kernel
theorem dX13_check_11 : decode cX13_check 11 = .ok (.aload_n 0, 1) := by decide +kernel
theorem dX13_check_12 : decode cX13_check 12 = .ok (.getfield 144, 3) := by decide +kernel
theorem dX13_check_15 : decode cX13_check 15 = .ok (.if_icmp .le 6, 3) := by decide +kernel
theorem dX13_check_18 : decode cX13_check 18 = .ok (.bipush (-2), 2) := by decide +kernel
theorem dX13_check_20 : decode cX13_check 20 = .ok (.ireturn, 1) := by decide +kernel
theorem dX13_check_21 : decode cX13_check 21 = .ok (.aload_n 0, 1) := by decide +kernel
theorem dX13_check_22 : decode cX13_check 22 = .ok (.iconst 0, 1) := by decide +kernel
theorem dX13_check_23 : decode cX13_check 23 = .ok (.putfield 144, 3) := by decide +kernel
theorem dX13_check_26 : decode cX13_check 26 = .ok (.iconst 0, 1) := by decide +kernel
theorem dX13_check_27 : decode cX13_check 27 = .ok (.istore_n 2, 1) := by decide +kernel
theorem dX13_check_28 : decode cX13_check 28 = .ok (.iload_n 2, 1) := by decide +kernel
theorem dX13_check_29 : decode cX13_check 29 = .ok (.iload_n 1, 1) := by decide +kernel
theorem dX13_check_30 : decode cX13_check 30 = .ok (.if_icmp .ge 40, 3) := by decide +kernel
theorem dX13_check_33 : decode cX13_check 33 = .ok (.aload_n 0, 1) := by decide +kernel
theorem dX13_check_34 : decode cX13_check 34 = .ok (.iload_n 2, 1) := by decide +kernel
theorem dX13_check_35 : decode cX13_check 35 = .ok (.invokevirtual 413, 3) := by decide +kernel
theorem dX13_check_38 : decode cX13_check 38 = .ok (.aload_n 0, 1) := by decide +kernel
theorem dX13_check_39 : decode cX13_check 39 = .ok (.iload_n 2, 1) := by decide +kernel
theorem dX13_check_40 : decode cX13_check 40 = .ok (.invokevirtual 118, 3) := by decide +kernel
theorem dX13_check_43 : decode cX13_check 43 = .ok (.ifCond .eq 15, 3) := by decide +kernel
theorem dX13_check_46 : decode cX13_check 46 = .ok (.aload_n 0, 1) := by decide +kernel
theorem dX13_check_47 : decode cX13_check 47 = .ok (.getfield 7, 3) := by decide +kernel
theorem dX13_check_50 : decode cX13_check 50 = .ok (.bipush 40, 2) := by decide +kernel
theorem dX13_check_52 : decode cX13_check 52 = .ok (.iload_n 2, 1) := by decide +kernel
theorem dX13_check_53 : decode cX13_check 53 = .ok (.iadd, 1) := by decide +kernel
theorem dX13_check_54 : decode cX13_check 54 = .ok (.iaload, 1) := by decide +kernel
theorem dX13_check_55 : decode cX13_check 55 = .ok (.goto 4, 3) := by decide +kernel
theorem dX13_check_58 : decode cX13_check 58 = .ok (.iconst 0, 1) := by decide +kernel
theorem dX13_check_59 : decode cX13_check 59 = .ok (.if_icmp .eq 5, 3) := by decide +kernel
theorem dX13_check_62 : decode cX13_check 62 = .ok (.iload_n 2, 1) := by decide +kernel
theorem dX13_check_63 : decode cX13_check 63 = .ok (.ireturn, 1) := by decide +kernel
theorem dX13_check_64 : decode cX13_check 64 = .ok (.iinc 2 1, 3) := by decide +kernel
theorem dX13_check_67 : decode cX13_check 67 = .ok (.goto (-39), 3) := by decide +kernel
theorem dX13_check_70 : decode cX13_check 70 = .ok (.iconst (-1), 1) := by decide +kernel
theorem dX13_check_71 : decode cX13_check 71 = .ok (.ireturn, 1) := by decide +kernel
theorem dX13_count_0 : decode cX13_count 0 = .ok (.iload_n 1, 1) := by decide +kernel
theorem dX13_count_1 : decode cX13_count 1 = .ok (.tableswitch 102 0 8 #[51, 59, 64, 69, 74, 79, 84, 89, 94], 51) := by decide +kernel
theorem dX13_count_52 : decode cX13_count 52 = .ok (.aload_n 0, 1) := by decide +kernel
theorem dX13_count_53 : decode cX13_count 53 = .ok (.getfield 7, 3) := by decide +kernel
theorem dX13_count_56 : decode cX13_count 56 = .ok (.bipush 80, 2) := by decide +kernel
theorem dX13_count_58 : decode cX13_count 58 = .ok (.iaload, 1) := by decide +kernel
theorem dX13_count_59 : decode cX13_count 59 = .ok (.ireturn, 1) := by decide +kernel
theorem dX13_count_60 : decode cX13_count 60 = .ok (.aload_n 0, 1) := by decide +kernel
theorem dX13_count_61 : decode cX13_count 61 = .ok (.invokevirtual 126, 3) := by decide +kernel
theorem dX13_count_64 : decode cX13_count 64 = .ok (.ireturn, 1) := by decide +kernel
theorem dX13_count_65 : decode cX13_count 65 = .ok (.aload_n 0, 1) := by decide +kernel
theorem dX13_count_66 : decode cX13_count 66 = .ok (.invokevirtual 356, 3) := by decide +kernel
theorem dX13_count_69 : decode cX13_count 69 = .ok (.ireturn, 1) := by decide +kernel
theorem dX13_count_70 : decode cX13_count 70 = .ok (.aload_n 0, 1) := by decide +kernel
theorem dX13_count_71 : decode cX13_count 71 = .ok (.invokevirtual 353, 3) := by decide +kernel
theorem dX13_count_74 : decode cX13_count 74 = .ok (.ireturn, 1) := by decide +kernel
theorem dX13_count_75 : decode cX13_count 75 = .ok (.aload_n 0, 1) := by decide +kernel
theorem dX13_count_76 : decode cX13_count 76 = .ok (.getfield 107, 3) := by decide +kernel
theorem dX13_count_79 : decode cX13_count 79 = .ok (.ireturn, 1) := by decide +kernel
theorem dX13_count_80 : decode cX13_count 80 = .ok (.aload_n 0, 1) := by decide +kernel
theorem dX13_count_81 : decode cX13_count 81 = .ok (.getfield 111, 3) := by decide +kernel
theorem dX13_count_84 : decode cX13_count 84 = .ok (.ireturn, 1) := by decide +kernel
theorem dX13_count_85 : decode cX13_count 85 = .ok (.aload_n 0, 1) := by decide +kernel
theorem dX13_count_86 : decode cX13_count 86 = .ok (.getfield 241, 3) := by decide +kernel
theorem dX13_count_89 : decode cX13_count 89 = .ok (.ireturn, 1) := by decide +kernel
theorem dX13_count_90 : decode cX13_count 90 = .ok (.aload_n 0, 1) := by decide +kernel
theorem dX13_count_91 : decode cX13_count 91 = .ok (.getfield 144, 3) := by decide +kernel
theorem dX13_count_94 : decode cX13_count 94 = .ok (.ireturn, 1) := by decide +kernel
theorem dX13_count_95 : decode cX13_count 95 = .ok (.aload_n 0, 1) := by decide +kernel
theorem dX13_count_96 : decode cX13_count 96 = .ok (.getfield 7, 3) := by decide +kernel
theorem dX13_count_99 : decode cX13_count 99 = .ok (.bipush 81, 2) := by decide +kernel
theorem dX13_count_101 : decode cX13_count 101 = .ok (.iaload, 1) := by decide +kernel
theorem dX13_count_102 : decode cX13_count 102 = .ok (.ireturn, 1) := by decide +kernel
theorem dX13_count_103 : decode cX13_count 103 = .ok (.iload_n 1, 1) := by decide +kernel
theorem dX13_count_104 : decode cX13_count 104 = .ok (.bipush 10, 2) := by decide +kernel
theorem dX13_count_106 : decode cX13_count 106 = .ok (.bipush 17, 2) := by decide +kernel
theorem dX13_count_108 : decode cX13_count 108 = .ok (.invokestatic 114, 3) := by decide +kernel
theorem dX13_count_111 : decode cX13_count 111 = .ok (.ifCond .eq 13, 3) := by decide +kernel
theorem dX13_count_114 : decode cX13_count 114 = .ok (.aload_n 0, 1) := by decide +kernel
theorem dX13_count_115 : decode cX13_count 115 = .ok (.getfield 31, 3) := by decide +kernel
theorem dX13_count_118 : decode cX13_count 118 = .ok (.iload_n 1, 1) := by decide +kernel
theorem dX13_count_119 : decode cX13_count 119 = .ok (.bipush 10, 2) := by decide +kernel
theorem dX13_count_121 : decode cX13_count 121 = .ok (.isub, 1) := by decide +kernel
theorem dX13_count_122 : decode cX13_count 122 = .ok (.iaload, 1) := by decide +kernel
theorem dX13_count_123 : decode cX13_count 123 = .ok (.ireturn, 1) := by decide +kernel
theorem dX13_count_124 : decode cX13_count 124 = .ok (.iload_n 1, 1) := by decide +kernel
theorem dX13_count_125 : decode cX13_count 125 = .ok (.bipush 20, 2) := by decide +kernel
theorem dX13_count_127 : decode cX13_count 127 = .ok (.bipush 27, 2) := by decide +kernel
theorem dX13_count_129 : decode cX13_count 129 = .ok (.invokestatic 114, 3) := by decide +kernel
theorem dX13_count_132 : decode cX13_count 132 = .ok (.ifCond .eq 23, 3) := by decide +kernel
theorem dX13_count_135 : decode cX13_count 135 = .ok (.aload_n 0, 1) := by decide +kernel
theorem dX13_count_136 : decode cX13_count 136 = .ok (.iload_n 1, 1) := by decide +kernel
theorem dX13_count_137 : decode cX13_count 137 = .ok (.bipush 20, 2) := by decide +kernel
theorem dX13_count_139 : decode cX13_count 139 = .ok (.isub, 1) := by decide +kernel
theorem dX13_count_140 : decode cX13_count 140 = .ok (.aload_n 0, 1) := by decide +kernel
theorem dX13_count_141 : decode cX13_count 141 = .ok (.getfield 31, 3) := by decide +kernel
theorem dX13_count_144 : decode cX13_count 144 = .ok (.iload_n 1, 1) := by decide +kernel
theorem dX13_count_145 : decode cX13_count 145 = .ok (.bipush 20, 2) := by decide +kernel
theorem dX13_count_147 : decode cX13_count 147 = .ok (.isub, 1) := by decide +kernel
theorem dX13_count_148 : decode cX13_count 148 = .ok (.iaload, 1) := by decide +kernel
theorem dX13_count_149 : decode cX13_count 149 = .ok (.invokevirtual 279, 3) := by decide +kernel
theorem dX13_count_152 : decode cX13_count 152 = .ok (.goto 4, 3) := by decide +kernel
theorem dX13_count_155 : decode cX13_count 155 = .ok (.iconst (-1), 1) := by decide +kernel
theorem dX13_count_156 : decode cX13_count 156 = .ok (.ireturn, 1) := by decide +kernel
