theorem dX12_tryRow_0 : decode cX12_tryRow 0 = .ok (.iconst 0, 1) := by decide +kernel
theorem dX12_tryRow_1 : decode cX12_tryRow 1 = .ok (.istore_n 3, 1) := by decide +kernel
theorem dX12_tryRow_2 : decode cX12_tryRow 2 = .ok (.iload_n 3, 1) := by decide +kernel
theorem dX12_tryRow_3 : decode cX12_tryRow 3 = .ok (.iconst 5, 1) := by decide +kernel
theorem dX12_tryRow_4 : decode cX12_tryRow 4 = .ok (.if_icmp .ge 21, 3) := by decide +kernel
theorem dX12_tryRow_7 : decode cX12_tryRow 7 = .ok (.aload_n 0, 1) := by decide +kernel
theorem dX12_tryRow_8 : decode cX12_tryRow 8 = .ok (.getfield 73, 3) := by decide +kernel
theorem dX12_tryRow_11 : decode cX12_tryRow 11 = .ok (.iload_n 3, 1) := by decide +kernel
theorem dX12_tryRow_12 : decode cX12_tryRow 12 = .ok (.aload_n 0, 1) := by decide +kernel
theorem dX12_tryRow_13 : decode cX12_tryRow 13 = .ok (.getfield 109, 3) := by decide +kernel
theorem dX12_tryRow_16 : decode cX12_tryRow 16 = .ok (.iload_n 3, 1) := by decide +kernel
theorem dX12_tryRow_17 : decode cX12_tryRow 17 = .ok (.iaload, 1) := by decide +kernel
theorem dX12_tryRow_18 : decode cX12_tryRow 18 = .ok (.iastore, 1) := by decide +kernel
theorem dX12_tryRow_19 : decode cX12_tryRow 19 = .ok (.iinc 3 1, 3) := by decide +kernel
theorem dX12_tryRow_22 : decode cX12_tryRow 22 = .ok (.goto (-20), 3) := by decide +kernel
theorem dX12_tryRow_25 : decode cX12_tryRow 25 = .ok (.iconst 0, 1) := by decide +kernel
theorem dX12_tryRow_26 : decode cX12_tryRow 26 = .ok (.istore_n 3, 1) := by decide +kernel
theorem dX12_tryRow_27 : decode cX12_tryRow 27 = .ok (.iload_n 3, 1) := by decide +kernel
theorem dX12_tryRow_28 : decode cX12_tryRow 28 = .ok (.bipush 30, 2) := by decide +kernel
theorem dX12_tryRow_30 : decode cX12_tryRow 30 = .ok (.if_icmp .ge 45, 3) := by decide +kernel
theorem dX12_tryRow_33 : decode cX12_tryRow 33 = .ok (.aload_n 0, 1) := by decide +kernel
theorem dX12_tryRow_34 : decode cX12_tryRow 34 = .ok (.getfield 79, 3) := by decide +kernel
theorem dX12_tryRow_37 : decode cX12_tryRow 37 = .ok (.iload_n 3, 1) := by decide +kernel
theorem dX12_tryRow_38 : decode cX12_tryRow 38 = .ok (.aload_n 0, 1) := by decide +kernel
theorem dX12_tryRow_39 : decode cX12_tryRow 39 = .ok (.getfield 112, 3) := by decide +kernel
theorem dX12_tryRow_42 : decode cX12_tryRow 42 = .ok (.iload_n 3, 1) := by decide +kernel
theorem dX12_tryRow_43 : decode cX12_tryRow 43 = .ok (.iaload, 1) := by decide +kernel
theorem dX12_tryRow_44 : decode cX12_tryRow 44 = .ok (.iastore, 1) := by decide +kernel
theorem dX12_tryRow_45 : decode cX12_tryRow 45 = .ok (.aload_n 0, 1) := by decide +kernel
theorem dX12_tryRow_46 : decode cX12_tryRow 46 = .ok (.getfield 82, 3) := by decide +kernel
theorem dX12_tryRow_49 : decode cX12_tryRow 49 = .ok (.iload_n 3, 1) := by decide +kernel
theorem dX12_tryRow_50 : decode cX12_tryRow 50 = .ok (.aload_n 0, 1) := by decide +kernel
theorem dX12_tryRow_51 : decode cX12_tryRow 51 = .ok (.getfield 115, 3) := by decide +kernel
theorem dX12_tryRow_54 : decode cX12_tryRow 54 = .ok (.iload_n 3, 1) := by decide +kernel
theorem dX12_tryRow_55 : decode cX12_tryRow 55 = .ok (.baload, 1) := by decide +kernel
theorem dX12_tryRow_56 : decode cX12_tryRow 56 = .ok (.bastore, 1) := by decide +kernel
theorem dX12_tryRow_57 : decode cX12_tryRow 57 = .ok (.aload_n 0, 1) := by decide +kernel
theorem dX12_tryRow_58 : decode cX12_tryRow 58 = .ok (.getfield 85, 3) := by decide +kernel
theorem dX12_tryRow_61 : decode cX12_tryRow 61 = .ok (.iload_n 3, 1) := by decide +kernel
theorem dX12_tryRow_62 : decode cX12_tryRow 62 = .ok (.aload_n 0, 1) := by decide +kernel
theorem dX12_tryRow_63 : decode cX12_tryRow 63 = .ok (.getfield 118, 3) := by decide +kernel
theorem dX12_tryRow_66 : decode cX12_tryRow 66 = .ok (.iload_n 3, 1) := by decide +kernel
theorem dX12_tryRow_67 : decode cX12_tryRow 67 = .ok (.iaload, 1) := by decide +kernel
theorem dX12_tryRow_68 : decode cX12_tryRow 68 = .ok (.iastore, 1) := by decide +kernel
theorem dX12_tryRow_69 : decode cX12_tryRow 69 = .ok (.iinc 3 1, 3) := by decide +kernel
theorem dX12_tryRow_72 : decode cX12_tryRow 72 = .ok (.goto (-45), 3) := by decide +kernel
theorem dX12_tryRow_75 : decode cX12_tryRow 75 = .ok (.iconst 0, 1) := by decide +kernel
theorem dX12_tryRow_76 : decode cX12_tryRow 76 = .ok (.istore_n 3, 1) := by decide +kernel
theorem dX12_tryRow_77 : decode cX12_tryRow 77 = .ok (.iload_n 3, 1) := by decide +kernel
theorem dX12_tryRow_78 : decode cX12_tryRow 78 = .ok (.bipush 90, 2) := by decide +kernel
theorem dX12_tryRow_80 : decode cX12_tryRow 80 = .ok (.if_icmp .ge 33, 3) := by decide +kernel
theorem dX12_tryRow_83 : decode cX12_tryRow 83 = .ok (.aload_n 0, 1) := by decide +kernel
theorem dX12_tryRow_84 : decode cX12_tryRow 84 = .ok (.getfield 91, 3) := by decide +kernel
theorem dX12_tryRow_87 : decode cX12_tryRow 87 = .ok (.iload_n 3, 1) := by decide +kernel
theorem dX12_tryRow_88 : decode cX12_tryRow 88 = .ok (.aload_n 0, 1) := by decide +kernel
theorem dX12_tryRow_89 : decode cX12_tryRow 89 = .ok (.getfield 121, 3) := by decide +kernel
theorem dX12_tryRow_92 : decode cX12_tryRow 92 = .ok (.iload_n 3, 1) := by decide +kernel
theorem dX12_tryRow_93 : decode cX12_tryRow 93 = .ok (.iaload, 1) := by decide +kernel
theorem dX12_tryRow_94 : decode cX12_tryRow 94 = .ok (.iastore, 1) := by decide +kernel
theorem dX12_tryRow_95 : decode cX12_tryRow 95 = .ok (.aload_n 0, 1) := by decide +kernel
theorem dX12_tryRow_96 : decode cX12_tryRow 96 = .ok (.getfield 94, 3) := by decide +kernel
theorem dX12_tryRow_99 : decode cX12_tryRow 99 = .ok (.iload_n 3, 1) := by decide +kernel
theorem dX12_tryRow_100 : decode cX12_tryRow 100 = .ok (.aload_n 0, 1) := by decide +kernel
theorem dX12_tryRow_101 : decode cX12_tryRow 101 = .ok (.getfield 124, 3) := by decide +kernel
theorem dX12_tryRow_104 : decode cX12_tryRow 104 = .ok (.iload_n 3, 1) := by decide +kernel
theorem dX12_tryRow_105 : decode cX12_tryRow 105 = .ok (.iaload, 1) := by decide +kernel
theorem dX12_tryRow_106 : decode cX12_tryRow 106 = .ok (.iastore, 1) := by decide +kernel
theorem dX12_tryRow_107 : decode cX12_tryRow 107 = .ok (.iinc 3 1, 3) := by decide +kernel
theorem dX12_tryRow_110 : decode cX12_tryRow 110 = .ok (.goto (-33), 3) := by decide +kernel
theorem dX12_tryRow_113 : decode cX12_tryRow 113 = .ok (.iconst 0, 1) := by decide +kernel
theorem dX12_tryRow_114 : decode cX12_tryRow 114 = .ok (.istore_n 3, 1) := by decide +kernel
theorem dX12_tryRow_115 : decode cX12_tryRow 115 = .ok (.iload_n 3, 1) := by decide +kernel
theorem dX12_tryRow_116 : decode cX12_tryRow 116 = .ok (.aload_n 0, 1) := by decide +kernel
theorem dX12_tryRow_117 : decode cX12_tryRow 117 = .ok (.getfield 170, 3) := by decide +kernel
theorem dX12_tryRow_120 : decode cX12_tryRow 120 = .ok (.if_icmp .ge 56, 3) := by decide +kernel
theorem dX12_tryRow_123 : decode cX12_tryRow 123 = .ok (.iload_n 2, 1) := by decide +kernel
theorem dX12_tryRow_124 : decode cX12_tryRow 124 = .ok (.iconst 2, 1) := by decide +kernel
theorem dX12_tryRow_125 : decode cX12_tryRow 125 = .ok (.aload_n 0, 1) := by decide +kernel
theorem dX12_tryRow_126 : decode cX12_tryRow 126 = .ok (.getfield 170, 3) := by decide +kernel
theorem dX12_tryRow_129 : decode cX12_tryRow 129 = .ok (.iconst 1, 1) := by decide +kernel
theorem dX12_tryRow_130 : decode cX12_tryRow 130 = .ok (.isub, 1) := by decide +kernel
theorem dX12_tryRow_131 : decode cX12_tryRow 131 = .ok (.iload_n 3, 1) := by decide +kernel
theorem dX12_tryRow_132 : decode cX12_tryRow 132 = .ok (.isub, 1) := by decide +kernel
theorem dX12_tryRow_133 : decode cX12_tryRow 133 = .ok (.imul, 1) := by decide +kernel
theorem dX12_tryRow_134 : decode cX12_tryRow 134 = .ok (.ishr, 1) := by decide +kernel
theorem dX12_tryRow_135 : decode cX12_tryRow 135 = .ok (.iconst 3, 1) := by decide +kernel
theorem dX12_tryRow_136 : decode cX12_tryRow 136 = .ok (.iand, 1) := by decide +kernel
theorem dX12_tryRow_137 : decode cX12_tryRow 137 = .ok (.istore 4, 2) := by decide +kernel
theorem dX12_tryRow_139 : decode cX12_tryRow 139 = .ok (.aload_n 0, 1) := by decide +kernel
theorem dX12_tryRow_140 : decode cX12_tryRow 140 = .ok (.getfield 67, 3) := by decide +kernel
theorem dX12_tryRow_143 : decode cX12_tryRow 143 = .ok (.aload_n 0, 1) := by decide +kernel
theorem dX12_tryRow_144 : decode cX12_tryRow 144 = .ok (.getfield 103, 3) := by decide +kernel
theorem dX12_tryRow_147 : decode cX12_tryRow 147 = .ok (.iload_n 3, 1) := by decide +kernel
theorem dX12_tryRow_148 : decode cX12_tryRow 148 = .ok (.iaload, 1) := by decide +kernel
theorem dX12_tryRow_149 : decode cX12_tryRow 149 = .ok (.iload 4, 2) := by decide +kernel
theorem dX12_tryRow_151 : decode cX12_tryRow 151 = .ok (.ifCond .ne 7, 3) := by decide +kernel
theorem dX12_tryRow_154 : decode cX12_tryRow 154 = .ok (.iconst (-1), 1) := by decide +kernel
theorem dX12_tryRow_155 : decode cX12_tryRow 155 = .ok (.goto 14, 3) := by decide +kernel
theorem dX12_tryRow_158 : decode cX12_tryRow 158 = .ok (.bipush 13, 2) := by decide +kernel
theorem dX12_tryRow_160 : decode cX12_tryRow 160 = .ok (.iload_n 1, 1) := by decide +kernel
theorem dX12_tryRow_161 : decode cX12_tryRow 161 = .ok (.imul, 1) := by decide +kernel
theorem dX12_tryRow_162 : decode cX12_tryRow 162 = .ok (.iconst 4, 1) := by decide +kernel
theorem dX12_tryRow_163 : decode cX12_tryRow 163 = .ok (.iload 4, 2) := by decide +kernel
theorem dX12_tryRow_165 : decode cX12_tryRow 165 = .ok (.iconst 1, 1) := by decide +kernel
theorem dX12_tryRow_166 : decode cX12_tryRow 166 = .ok (.isub, 1) := by decide +kernel
theorem dX12_tryRow_167 : decode cX12_tryRow 167 = .ok (.imul, 1) := by decide +kernel
theorem dX12_tryRow_168 : decode cX12_tryRow 168 = .ok (.iadd, 1) := by decide +kernel
theorem dX12_tryRow_169 : decode cX12_tryRow 169 = .ok (.iastore, 1) := by decide +kernel
theorem dX12_tryRow_170 : decode cX12_tryRow 170 = .ok (.iinc 3 1, 3) := by decide +kernel
theorem dX12_tryRow_173 : decode cX12_tryRow 173 = .ok (.goto (-58), 3) := by decide +kernel
theorem dX12_tryRow_176 : decode cX12_tryRow 176 = .ok (.aload_n 0, 1) := by decide +kernel
theorem dX12_tryRow_177 : decode cX12_tryRow 177 = .ok (.invokevirtual 486, 3) := by decide +kernel
theorem dX12_tryRow_180 : decode cX12_tryRow 180 = .ok (.aload_n 0, 1) := by decide +kernel
theorem dX12_tryRow_181 : decode cX12_tryRow 181 = .ok (.bipush 13, 2) := by decide +kernel
theorem dX12_tryRow_183 : decode cX12_tryRow 183 = .ok (.iload_n 1, 1) := by decide +kernel
theorem dX12_tryRow_184 : decode cX12_tryRow 184 = .ok (.imul, 1) := by decide +kernel
theorem dX12_tryRow_185 : decode cX12_tryRow 185 = .ok (.bipush 13, 2) := by decide +kernel
theorem dX12_tryRow_187 : decode cX12_tryRow 187 = .ok (.iload_n 1, 1) := by decide +kernel
theorem dX12_tryRow_188 : decode cX12_tryRow 188 = .ok (.imul, 1) := by decide +kernel
theorem dX12_tryRow_189 : decode cX12_tryRow 189 = .ok (.bipush 12, 2) := by decide +kernel
theorem dX12_tryRow_191 : decode cX12_tryRow 191 = .ok (.iadd, 1) := by decide +kernel
theorem dX12_tryRow_192 : decode cX12_tryRow 192 = .ok (.invokevirtual 520, 3) := by decide +kernel
theorem dX12_tryRow_195 : decode cX12_tryRow 195 = .ok (.aload_n 0, 1) := by decide +kernel
theorem dX12_tryRow_196 : decode cX12_tryRow 196 = .ok (.iconst 0, 1) := by decide +kernel
theorem dX12_tryRow_197 : decode cX12_tryRow 197 = .ok (.putfield 529, 3) := by decide +kernel
theorem dX12_tryRow_200 : decode cX12_tryRow 200 = .ok (.aload_n 0, 1) := by decide +kernel
theorem dX12_tryRow_201 : decode cX12_tryRow 201 = .ok (.iconst 0, 1) := by decide +kernel
theorem dX12_tryRow_202 : decode cX12_tryRow 202 = .ok (.putfield 532, 3) := by decide +kernel
theorem dX12_tryRow_205 : decode cX12_tryRow 205 = .ok (.iconst 0, 1) := by decide +kernel
theorem dX12_tryRow_206 : decode cX12_tryRow 206 = .ok (.istore_n 3, 1) := by decide +kernel
theorem dX12_tryRow_207 : decode cX12_tryRow 207 = .ok (.iload_n 3, 1) := by decide +kernel
theorem dX12_tryRow_208 : decode cX12_tryRow 208 = .ok (.aload_n 0, 1) := by decide +kernel
theorem dX12_tryRow_209 : decode cX12_tryRow 209 = .ok (.getfield 170, 3) := by decide +kernel
theorem dX12_tryRow_212 : decode cX12_tryRow 212 = .ok (.if_icmp .ge 93, 3) := by decide +kernel
theorem dX12_tryRow_215 : decode cX12_tryRow 215 = .ok (.aload_n 0, 1) := by decide +kernel
theorem dX12_tryRow_216 : decode cX12_tryRow 216 = .ok (.dup, 1) := by decide +kernel
theorem dX12_tryRow_217 : decode cX12_tryRow 217 = .ok (.getfield 529, 3) := by decide +kernel
theorem dX12_tryRow_220 : decode cX12_tryRow 220 = .ok (.aload_n 0, 1) := by decide +kernel
theorem dX12_tryRow_221 : decode cX12_tryRow 221 = .ok (.getfield 79, 3) := by decide +kernel
theorem dX12_tryRow_224 : decode cX12_tryRow 224 = .ok (.aload_n 0, 1) := by decide +kernel
theorem dX12_tryRow_225 : decode cX12_tryRow 225 = .ok (.getfield 103, 3) := by decide +kernel
theorem dX12_tryRow_228 : decode cX12_tryRow 228 = .ok (.iload_n 3, 1) := by decide +kernel
theorem dX12_tryRow_229 : decode cX12_tryRow 229 = .ok (.iaload, 1) := by decide +kernel
theorem dX12_tryRow_230 : decode cX12_tryRow 230 = .ok (.iaload, 1) := by decide +kernel
theorem dX12_tryRow_231 : decode cX12_tryRow 231 = .ok (.iconst 3, 1) := by decide +kernel
theorem dX12_tryRow_232 : decode cX12_tryRow 232 = .ok (.if_icmp .ne 16, 3) := by decide +kernel
theorem dX12_tryRow_235 : decode cX12_tryRow 235 = .ok (.aload_n 0, 1) := by decide +kernel
theorem dX12_tryRow_236 : decode cX12_tryRow 236 = .ok (.aload_n 0, 1) := by decide +kernel
theorem dX12_tryRow_237 : decode cX12_tryRow 237 = .ok (.getfield 103, 3) := by decide +kernel
theorem dX12_tryRow_240 : decode cX12_tryRow 240 = .ok (.iload_n 3, 1) := by decide +kernel
theorem dX12_tryRow_241 : decode cX12_tryRow 241 = .ok (.iaload, 1) := by decide +kernel
theorem dX12_tryRow_242 : decode cX12_tryRow 242 = .ok (.invokevirtual 504, 3) := by decide +kernel
theorem dX12_tryRow_245 : decode cX12_tryRow 245 = .ok (.goto 4, 3) := by decide +kernel
theorem dX12_tryRow_248 : decode cX12_tryRow 248 = .ok (.iconst 0, 1) := by decide +kernel
theorem dX12_tryRow_249 : decode cX12_tryRow 249 = .ok (.iadd, 1) := by decide +kernel
theorem dX12_tryRow_250 : decode cX12_tryRow 250 = .ok (.putfield 529, 3) := by decide +kernel
theorem dX12_tryRow_253 : decode cX12_tryRow 253 = .ok (.aload_n 0, 1) := by decide +kernel
theorem dX12_tryRow_254 : decode cX12_tryRow 254 = .ok (.dup, 1) := by decide +kernel
theorem dX12_tryRow_255 : decode cX12_tryRow 255 = .ok (.getfield 532, 3) := by decide +kernel
theorem dX12_tryRow_258 : decode cX12_tryRow 258 = .ok (.aload_n 0, 1) := by decide +kernel
theorem dX12_tryRow_259 : decode cX12_tryRow 259 = .ok (.getfield 79, 3) := by decide +kernel
theorem dX12_tryRow_262 : decode cX12_tryRow 262 = .ok (.aload_n 0, 1) := by decide +kernel
theorem dX12_tryRow_263 : decode cX12_tryRow 263 = .ok (.getfield 103, 3) := by decide +kernel
theorem dX12_tryRow_266 : decode cX12_tryRow 266 = .ok (.iload_n 3, 1) := by decide +kernel
theorem dX12_tryRow_267 : decode cX12_tryRow 267 = .ok (.iaload, 1) := by decide +kernel
theorem dX12_tryRow_268 : decode cX12_tryRow 268 = .ok (.iaload, 1) := by decide +kernel
theorem dX12_tryRow_269 : decode cX12_tryRow 269 = .ok (.iconst 3, 1) := by decide +kernel
theorem dX12_tryRow_270 : decode cX12_tryRow 270 = .ok (.if_icmp .ge 24, 3) := by decide +kernel
theorem dX12_tryRow_273 : decode cX12_tryRow 273 = .ok (.aload_n 0, 1) := by decide +kernel
theorem dX12_tryRow_274 : decode cX12_tryRow 274 = .ok (.getfield 91, 3) := by decide +kernel
theorem dX12_tryRow_277 : decode cX12_tryRow 277 = .ok (.iconst 3, 1) := by decide +kernel
theorem dX12_tryRow_278 : decode cX12_tryRow 278 = .ok (.aload_n 0, 1) := by decide +kernel
theorem dX12_tryRow_279 : decode cX12_tryRow 279 = .ok (.getfield 103, 3) := by decide +kernel
theorem dX12_tryRow_282 : decode cX12_tryRow 282 = .ok (.iload_n 3, 1) := by decide +kernel
theorem dX12_tryRow_283 : decode cX12_tryRow 283 = .ok (.iaload, 1) := by decide +kernel
theorem dX12_tryRow_284 : decode cX12_tryRow 284 = .ok (.imul, 1) := by decide +kernel
theorem dX12_tryRow_285 : decode cX12_tryRow 285 = .ok (.iaload, 1) := by decide +kernel
theorem dX12_tryRow_286 : decode cX12_tryRow 286 = .ok (.iconst (-1), 1) := by decide +kernel
theorem dX12_tryRow_287 : decode cX12_tryRow 287 = .ok (.if_icmp .eq 7, 3) := by decide +kernel
theorem dX12_tryRow_290 : decode cX12_tryRow 290 = .ok (.iconst 1, 1) := by decide +kernel
theorem dX12_tryRow_291 : decode cX12_tryRow 291 = .ok (.goto 4, 3) := by decide +kernel
theorem dX12_tryRow_294 : decode cX12_tryRow 294 = .ok (.iconst 0, 1) := by decide +kernel
theorem dX12_tryRow_295 : decode cX12_tryRow 295 = .ok (.iadd, 1) := by decide +kernel
theorem dX12_tryRow_296 : decode cX12_tryRow 296 = .ok (.putfield 532, 3) := by decide +kernel
theorem dX12_tryRow_299 : decode cX12_tryRow 299 = .ok (.iinc 3 1, 3) := by decide +kernel
theorem dX12_tryRow_302 : decode cX12_tryRow 302 = .ok (.goto (-95), 3) := by decide +kernel
theorem dX12_tryRow_305 : decode cX12_tryRow 305 = .ok (.return_, 1) := by decide +kernel
theorem dX12_best_0 : decode cX12_best 0 = .ok (.aload_n 0, 1) := by decide +kernel
theorem dX12_best_1 : decode cX12_best 1 = .ok (.iconst 0, 1) := by decide +kernel
theorem dX12_best_2 : decode cX12_best 2 = .ok (.putfield 145, 3) := by decide +kernel
theorem dX12_best_5 : decode cX12_best 5 = .ok (.iload_n 1, 1) := by decide +kernel
theorem dX12_best_6 : decode cX12_best 6 = .ok (.invokestatic 535, 3) := by decide +kernel
theorem dX12_best_9 : decode cX12_best 9 = .ok (.ifCond .ne 5, 3) := by decide +kernel
theorem dX12_best_12 : decode cX12_best 12 = .ok (.iconst (-1), 1) := by decide +kernel
theorem dX12_best_13 : decode cX12_best 13 = .ok (.ireturn, 1) := by decide +kernel
theorem dX12_best_14 : decode cX12_best 14 = .ok (.aload_n 0, 1) := by decide +kernel
theorem dX12_best_15 : decode cX12_best 15 = .ok (.iload_n 1, 1) := by decide +kernel
theorem dX12_best_16 : decode cX12_best 16 = .ok (.invokevirtual 538, 3) := by decide +kernel
theorem dX12_best_19 : decode cX12_best 19 = .ok (.iconst (-1), 1) := by decide +kernel
theorem dX12_best_20 : decode cX12_best 20 = .ok (.istore_n 2, 1) := by decide +kernel
theorem dX12_best_21 : decode cX12_best 21 = .ok (.iconst 0, 1) := by decide +kernel
theorem dX12_best_22 : decode cX12_best 22 = .ok (.istore_n 3, 1) := by decide +kernel
theorem dX12_best_23 : decode cX12_best 23 = .ok (.iload_n 3, 1) := by decide +kernel
theorem dX12_best_24 : decode cX12_best 24 = .ok (.iconst 1, 1) := by decide +kernel
theorem dX12_best_25 : decode cX12_best 25 = .ok (.iconst 2, 1) := by decide +kernel
theorem dX12_best_26 : decode cX12_best 26 = .ok (.aload_n 0, 1) := by decide +kernel
theorem dX12_best_27 : decode cX12_best 27 = .ok (.getfield 170, 3) := by decide +kernel
theorem dX12_best_30 : decode cX12_best 30 = .ok (.imul, 1) := by decide +kernel
theorem dX12_best_31 : decode cX12_best 31 = .ok (.ishl, 1) := by decide +kernel
theorem dX12_best_32 : decode cX12_best 32 = .ok (.if_icmp .ge 95, 3) := by decide +kernel
theorem dX12_best_35 : decode cX12_best 35 = .ok (.aload_n 0, 1) := by decide +kernel
theorem dX12_best_36 : decode cX12_best 36 = .ok (.iload_n 1, 1) := by decide +kernel
theorem dX12_best_37 : decode cX12_best 37 = .ok (.iload_n 3, 1) := by decide +kernel
theorem dX12_best_38 : decode cX12_best 38 = .ok (.invokevirtual 541, 3) := by decide +kernel
theorem dX12_best_41 : decode cX12_best 41 = .ok (.aload_n 0, 1) := by decide +kernel
theorem dX12_best_42 : decode cX12_best 42 = .ok (.getfield 529, 3) := by decide +kernel
theorem dX12_best_45 : decode cX12_best 45 = .ok (.iload_n 2, 1) := by decide +kernel
theorem dX12_best_46 : decode cX12_best 46 = .ok (.if_icmp .gt 22, 3) := by decide +kernel
theorem dX12_best_49 : decode cX12_best 49 = .ok (.aload_n 0, 1) := by decide +kernel
theorem dX12_best_50 : decode cX12_best 50 = .ok (.getfield 529, 3) := by decide +kernel
theorem dX12_best_53 : decode cX12_best 53 = .ok (.iload_n 2, 1) := by decide +kernel
theorem dX12_best_54 : decode cX12_best 54 = .ok (.if_icmp .ne 67, 3) := by decide +kernel
theorem dX12_best_57 : decode cX12_best 57 = .ok (.aload_n 0, 1) := by decide +kernel
theorem dX12_best_58 : decode cX12_best 58 = .ok (.getfield 532, 3) := by decide +kernel
theorem dX12_best_61 : decode cX12_best 61 = .ok (.aload_n 0, 1) := by decide +kernel
theorem dX12_best_62 : decode cX12_best 62 = .ok (.getfield 544, 3) := by decide +kernel
theorem dX12_best_65 : decode cX12_best 65 = .ok (.if_icmp .ge 56, 3) := by decide +kernel
theorem dX12_best_68 : decode cX12_best 68 = .ok (.aload_n 0, 1) := by decide +kernel
theorem dX12_best_69 : decode cX12_best 69 = .ok (.getfield 529, 3) := by decide +kernel
theorem dX12_best_72 : decode cX12_best 72 = .ok (.istore_n 2, 1) := by decide +kernel
theorem dX12_best_73 : decode cX12_best 73 = .ok (.aload_n 0, 1) := by decide +kernel
theorem dX12_best_74 : decode cX12_best 74 = .ok (.aload_n 0, 1) := by decide +kernel
theorem dX12_best_75 : decode cX12_best 75 = .ok (.getfield 532, 3) := by decide +kernel
theorem dX12_best_78 : decode cX12_best 78 = .ok (.putfield 544, 3) := by decide +kernel
theorem dX12_best_81 : decode cX12_best 81 = .ok (.iconst 0, 1) := by decide +kernel
theorem dX12_best_82 : decode cX12_best 82 = .ok (.istore 4, 2) := by decide +kernel
theorem dX12_best_84 : decode cX12_best 84 = .ok (.iload 4, 2) := by decide +kernel
theorem dX12_best_86 : decode cX12_best 86 = .ok (.aload_n 0, 1) := by decide +kernel
theorem dX12_best_87 : decode cX12_best 87 = .ok (.getfield 170, 3) := by decide +kernel
theorem dX12_best_90 : decode cX12_best 90 = .ok (.if_icmp .ge 31, 3) := by decide +kernel
theorem dX12_best_93 : decode cX12_best 93 = .ok (.aload_n 0, 1) := by decide +kernel
theorem dX12_best_94 : decode cX12_best 94 = .ok (.getfield 106, 3) := by decide +kernel
theorem dX12_best_97 : decode cX12_best 97 = .ok (.iload 4, 2) := by decide +kernel
theorem dX12_best_99 : decode cX12_best 99 = .ok (.iload_n 3, 1) := by decide +kernel
theorem dX12_best_100 : decode cX12_best 100 = .ok (.iconst 2, 1) := by decide +kernel
theorem dX12_best_101 : decode cX12_best 101 = .ok (.aload_n 0, 1) := by decide +kernel
theorem dX12_best_102 : decode cX12_best 102 = .ok (.getfield 170, 3) := by decide +kernel
theorem dX12_best_105 : decode cX12_best 105 = .ok (.iconst 1, 1) := by decide +kernel
theorem dX12_best_106 : decode cX12_best 106 = .ok (.isub, 1) := by decide +kernel
theorem dX12_best_107 : decode cX12_best 107 = .ok (.iload 4, 2) := by decide +kernel
theorem dX12_best_109 : decode cX12_best 109 = .ok (.isub, 1) := by decide +kernel
theorem dX12_best_110 : decode cX12_best 110 = .ok (.imul, 1) := by decide +kernel
theorem dX12_best_111 : decode cX12_best 111 = .ok (.ishr, 1) := by decide +kernel
theorem dX12_best_112 : decode cX12_best 112 = .ok (.iconst 3, 1) := by decide +kernel
theorem dX12_best_113 : decode cX12_best 113 = .ok (.iand, 1) := by decide +kernel
theorem dX12_best_114 : decode cX12_best 114 = .ok (.iastore, 1) := by decide +kernel
theorem dX12_best_115 : decode cX12_best 115 = .ok (.iinc 4 1, 3) := by decide +kernel
theorem dX12_best_118 : decode cX12_best 118 = .ok (.goto (-34), 3) := by decide +kernel
theorem dX12_best_121 : decode cX12_best 121 = .ok (.iinc 3 1, 3) := by decide +kernel
theorem dX12_best_124 : decode cX12_best 124 = .ok (.goto (-101), 3) := by decide +kernel
theorem dX12_best_127 : decode cX12_best 127 = .ok (.aload_n 0, 1) := by decide +kernel
theorem dX12_best_128 : decode cX12_best 128 = .ok (.iconst 1, 1) := by decide +kernel
theorem dX12_best_129 : decode cX12_best 129 = .ok (.putfield 547, 3) := by decide +kernel
theorem dX12_best_132 : decode cX12_best 132 = .ok (.aload_n 0, 1) := by decide +kernel
theorem dX12_best_133 : decode cX12_best 133 = .ok (.aload_n 0, 1) := by decide +kernel
theorem dX12_best_134 : decode cX12_best 134 = .ok (.getfield 170, 3) := by decide +kernel
theorem dX12_best_137 : decode cX12_best 137 = .ok (.putfield 550, 3) := by decide +kernel
theorem dX12_best_140 : decode cX12_best 140 = .ok (.iload_n 2, 1) := by decide +kernel
theorem dX12_best_141 : decode cX12_best 141 = .ok (.ireturn, 1) := by decide +kernel
theorem dX12_chosen_0 : decode cX12_chosen 0 = .ok (.aload_n 0, 1) := by decide +kernel
theorem dX12_chosen_1 : decode cX12_chosen 1 = .ok (.iconst 0, 1) := by decide +kernel
theorem dX12_chosen_2 : decode cX12_chosen 2 = .ok (.putfield 145, 3) := by decide +kernel
theorem dX12_chosen_5 : decode cX12_chosen 5 = .ok (.aload_n 0, 1) := by decide +kernel
theorem dX12_chosen_6 : decode cX12_chosen 6 = .ok (.getfield 547, 3) := by decide +kernel
theorem dX12_chosen_9 : decode cX12_chosen 9 = .ok (.ifCond .ne 7, 3) := by decide +kernel
theorem dX12_chosen_12 : decode cX12_chosen 12 = .ok (.iconst (-1), 1) := by decide +kernel
theorem dX12_chosen_13 : decode cX12_chosen 13 = .ok (.goto 41, 3) := by decide +kernel
theorem dX12_chosen_16 : decode cX12_chosen 16 = .ok (.iload_n 1, 1) := by decide +kernel
theorem dX12_chosen_17 : decode cX12_chosen 17 = .ok (.iconst (-1), 1) := by decide +kernel
theorem dX12_chosen_18 : decode cX12_chosen 18 = .ok (.if_icmp .ne 10, 3) := by decide +kernel
theorem dX12_chosen_21 : decode cX12_chosen 21 = .ok (.aload_n 0, 1) := by decide +kernel
theorem dX12_chosen_22 : decode cX12_chosen 22 = .ok (.getfield 544, 3) := by decide +kernel
theorem dX12_chosen_25 : decode cX12_chosen 25 = .ok (.goto 29, 3) := by decide +kernel
theorem dX12_chosen_28 : decode cX12_chosen 28 = .ok (.iload_n 1, 1) := by decide +kernel
theorem dX12_chosen_29 : decode cX12_chosen 29 = .ok (.i2l, 1) := by decide +kernel
theorem dX12_chosen_30 : decode cX12_chosen 30 = .ok (.lconst 0, 1) := by decide +kernel
theorem dX12_chosen_31 : decode cX12_chosen 31 = .ok (.aload_n 0, 1) := by decide +kernel
theorem dX12_chosen_32 : decode cX12_chosen 32 = .ok (.getfield 550, 3) := by decide +kernel
theorem dX12_chosen_35 : decode cX12_chosen 35 = .ok (.i2l, 1) := by decide +kernel
theorem dX12_chosen_36 : decode cX12_chosen 36 = .ok (.lconst 1, 1) := by decide +kernel
theorem dX12_chosen_37 : decode cX12_chosen 37 = .ok (.lsub, 1) := by decide +kernel
theorem dX12_chosen_38 : decode cX12_chosen 38 = .ok (.invokestatic 153, 3) := by decide +kernel
theorem dX12_chosen_41 : decode cX12_chosen 41 = .ok (.ifCond .eq 12, 3) := by decide +kernel
theorem dX12_chosen_44 : decode cX12_chosen 44 = .ok (.aload_n 0, 1) := by decide +kernel
theorem dX12_chosen_45 : decode cX12_chosen 45 = .ok (.getfield 106, 3) := by decide +kernel
theorem dX12_chosen_48 : decode cX12_chosen 48 = .ok (.iload_n 1, 1) := by decide +kernel
theorem dX12_chosen_49 : decode cX12_chosen 49 = .ok (.iaload, 1) := by decide +kernel
theorem dX12_chosen_50 : decode cX12_chosen 50 = .ok (.goto 4, 3) := by decide +kernel
theorem dX12_chosen_53 : decode cX12_chosen 53 = .ok (.iconst (-1), 1) := by decide +kernel
theorem dX12_chosen_54 : decode cX12_chosen 54 = .ok (.ireturn, 1) := by decide +kernel
theorem dX12_bound_0 : decode cX12_bound 0 = .ok (.aload_n 0, 1) := by decide +kernel
theorem dX12_bound_1 : decode cX12_bound 1 = .ok (.iconst 0, 1) := by decide +kernel
theorem dX12_bound_2 : decode cX12_bound 2 = .ok (.putfield 145, 3) := by decide +kernel
theorem dX12_bound_5 : decode cX12_bound 5 = .ok (.iload_n 1, 1) := by decide +kernel
theorem dX12_bound_6 : decode cX12_bound 6 = .ok (.invokestatic 535, 3) := by decide +kernel
theorem dX12_bound_9 : decode cX12_bound 9 = .ok (.ifCond .ne 5, 3) := by decide +kernel
theorem dX12_bound_12 : decode cX12_bound 12 = .ok (.iconst (-1), 1) := by decide +kernel
theorem dX12_bound_13 : decode cX12_bound 13 = .ok (.ireturn, 1) := by decide +kernel
theorem dX12_bound_14 : decode cX12_bound 14 = .ok (.aload_n 0, 1) := by decide +kernel
theorem dX12_bound_15 : decode cX12_bound 15 = .ok (.iload_n 1, 1) := by decide +kernel
theorem dX12_bound_16 : decode cX12_bound 16 = .ok (.invokevirtual 538, 3) := by decide +kernel
theorem dX12_bound_19 : decode cX12_bound 19 = .ok (.iconst 0, 1) := by decide +kernel
theorem dX12_bound_20 : decode cX12_bound 20 = .ok (.istore_n 2, 1) := by decide +kernel
theorem dX12_bound_21 : decode cX12_bound 21 = .ok (.iconst 0, 1) := by decide +kernel
theorem dX12_bound_22 : decode cX12_bound 22 = .ok (.istore_n 3, 1) := by decide +kernel
theorem dX12_bound_23 : decode cX12_bound 23 = .ok (.iload_n 3, 1) := by decide +kernel
theorem dX12_bound_24 : decode cX12_bound 24 = .ok (.aload_n 0, 1) := by decide +kernel
theorem dX12_bound_25 : decode cX12_bound 25 = .ok (.getfield 170, 3) := by decide +kernel
theorem dX12_bound_28 : decode cX12_bound 28 = .ok (.if_icmp .ge 86, 3) := by decide +kernel
theorem dX12_bound_31 : decode cX12_bound 31 = .ok (.iconst 0, 1) := by decide +kernel
theorem dX12_bound_32 : decode cX12_bound 32 = .ok (.istore 4, 2) := by decide +kernel
theorem dX12_bound_34 : decode cX12_bound 34 = .ok (.iconst 1, 1) := by decide +kernel
theorem dX12_bound_35 : decode cX12_bound 35 = .ok (.istore 5, 2) := by decide +kernel
theorem dX12_bound_37 : decode cX12_bound 37 = .ok (.iload 5, 2) := by decide +kernel
theorem dX12_bound_39 : decode cX12_bound 39 = .ok (.iconst 4, 1) := by decide +kernel
theorem dX12_bound_40 : decode cX12_bound 40 = .ok (.if_icmp .ge 46, 3) := by decide +kernel
theorem dX12_bound_43 : decode cX12_bound 43 = .ok (.aload_n 0, 1) := by decide +kernel
theorem dX12_bound_44 : decode cX12_bound 44 = .ok (.iload_n 1, 1) := by decide +kernel
theorem dX12_bound_45 : decode cX12_bound 45 = .ok (.iload 5, 2) := by decide +kernel
theorem dX12_bound_47 : decode cX12_bound 47 = .ok (.iconst 2, 1) := by decide +kernel
theorem dX12_bound_48 : decode cX12_bound 48 = .ok (.aload_n 0, 1) := by decide +kernel
theorem dX12_bound_49 : decode cX12_bound 49 = .ok (.getfield 170, 3) := by decide +kernel
theorem dX12_bound_52 : decode cX12_bound 52 = .ok (.iconst 1, 1) := by decide +kernel
theorem dX12_bound_53 : decode cX12_bound 53 = .ok (.isub, 1) := by decide +kernel
theorem dX12_bound_54 : decode cX12_bound 54 = .ok (.iload_n 3, 1) := by decide +kernel
theorem dX12_bound_55 : decode cX12_bound 55 = .ok (.isub, 1) := by decide +kernel
theorem dX12_bound_56 : decode cX12_bound 56 = .ok (.imul, 1) := by decide +kernel
theorem dX12_bound_57 : decode cX12_bound 57 = .ok (.ishl, 1) := by decide +kernel
theorem dX12_bound_58 : decode cX12_bound 58 = .ok (.invokevirtual 541, 3) := by decide +kernel
theorem dX12_bound_61 : decode cX12_bound 61 = .ok (.iload 4, 2) := by decide +kernel
theorem dX12_bound_63 : decode cX12_bound 63 = .ok (.ifCond .ne 10, 3) := by decide +kernel
theorem dX12_bound_66 : decode cX12_bound 66 = .ok (.aload_n 0, 1) := by decide +kernel
theorem dX12_bound_67 : decode cX12_bound 67 = .ok (.getfield 529, 3) := by decide +kernel
theorem dX12_bound_70 : decode cX12_bound 70 = .ok (.ifCond .le 7, 3) := by decide +kernel
theorem dX12_bound_73 : decode cX12_bound 73 = .ok (.iconst 1, 1) := by decide +kernel
theorem dX12_bound_74 : decode cX12_bound 74 = .ok (.goto 4, 3) := by decide +kernel
theorem dX12_bound_77 : decode cX12_bound 77 = .ok (.iconst 0, 1) := by decide +kernel
theorem dX12_bound_78 : decode cX12_bound 78 = .ok (.istore 4, 2) := by decide +kernel
theorem dX12_bound_80 : decode cX12_bound 80 = .ok (.iinc 5 1, 3) := by decide +kernel
theorem dX12_bound_83 : decode cX12_bound 83 = .ok (.goto (-46), 3) := by decide +kernel
theorem dX12_bound_86 : decode cX12_bound 86 = .ok (.iload_n 2, 1) := by decide +kernel
theorem dX12_bound_87 : decode cX12_bound 87 = .ok (.iload 4, 2) := by decide +kernel
theorem dX12_bound_89 : decode cX12_bound 89 = .ok (.ifCond .eq 16, 3) := by decide +kernel
theorem dX12_bound_92 : decode cX12_bound 92 = .ok (.aload_n 0, 1) := by decide +kernel
theorem dX12_bound_93 : decode cX12_bound 93 = .ok (.aload_n 0, 1) := by decide +kernel
theorem dX12_bound_94 : decode cX12_bound 94 = .ok (.getfield 103, 3) := by decide +kernel
theorem dX12_bound_97 : decode cX12_bound 97 = .ok (.iload_n 3, 1) := by decide +kernel
theorem dX12_bound_98 : decode cX12_bound 98 = .ok (.iaload, 1) := by decide +kernel
theorem dX12_bound_99 : decode cX12_bound 99 = .ok (.invokevirtual 504, 3) := by decide +kernel
theorem dX12_bound_102 : decode cX12_bound 102 = .ok (.goto 4, 3) := by decide +kernel
theorem dX12_bound_105 : decode cX12_bound 105 = .ok (.iconst 0, 1) := by decide +kernel
theorem dX12_bound_106 : decode cX12_bound 106 = .ok (.iadd, 1) := by decide +kernel
theorem dX12_bound_107 : decode cX12_bound 107 = .ok (.istore_n 2, 1) := by decide +kernel
theorem dX12_bound_108 : decode cX12_bound 108 = .ok (.iinc 3 1, 3) := by decide +kernel
theorem dX12_bound_111 : decode cX12_bound 111 = .ok (.goto (-88), 3) := by decide +kernel
theorem dX12_bound_114 : decode cX12_bound 114 = .ok (.iload_n 2, 1) := by decide +kernel
theorem dX12_bound_115 : decode cX12_bound 115 = .ok (.ireturn, 1) := by decide +kernel
theorem dX12_judge_0 : decode cX12_judge 0 = .ok (.aload_n 0, 1) := by decide +kernel
theorem dX12_judge_1 : decode cX12_judge 1 = .ok (.iconst 0, 1) := by decide +kernel
theorem dX12_judge_2 : decode cX12_judge 2 = .ok (.putfield 145, 3) := by decide +kernel
theorem dX12_judge_5 : decode cX12_judge 5 = .ok (.iload_n 1, 1) := by decide +kernel
theorem dX12_judge_6 : decode cX12_judge 6 = .ok (.invokestatic 535, 3) := by decide +kernel
theorem dX12_judge_9 : decode cX12_judge 9 = .ok (.ifCond .eq 22, 3) := by decide +kernel
theorem dX12_judge_12 : decode cX12_judge 12 = .ok (.iload_n 2, 1) := by decide +kernel
theorem dX12_judge_13 : decode cX12_judge 13 = .ok (.i2l, 1) := by decide +kernel
theorem dX12_judge_14 : decode cX12_judge 14 = .ok (.lconst 0, 1) := by decide +kernel
theorem dX12_judge_15 : decode cX12_judge 15 = .ok (.lconst 1, 1) := by decide +kernel
theorem dX12_judge_16 : decode cX12_judge 16 = .ok (.iconst 2, 1) := by decide +kernel
theorem dX12_judge_17 : decode cX12_judge 17 = .ok (.aload_n 0, 1) := by decide +kernel
theorem dX12_judge_18 : decode cX12_judge 18 = .ok (.getfield 170, 3) := by decide +kernel
theorem dX12_judge_21 : decode cX12_judge 21 = .ok (.imul, 1) := by decide +kernel
theorem dX12_judge_22 : decode cX12_judge 22 = .ok (.lshl, 1) := by decide +kernel
theorem dX12_judge_23 : decode cX12_judge 23 = .ok (.lconst 1, 1) := by decide +kernel
theorem dX12_judge_24 : decode cX12_judge 24 = .ok (.lsub, 1) := by decide +kernel
theorem dX12_judge_25 : decode cX12_judge 25 = .ok (.invokestatic 153, 3) := by decide +kernel
theorem dX12_judge_28 : decode cX12_judge 28 = .ok (.ifCond .ne 5, 3) := by decide +kernel
theorem dX12_judge_31 : decode cX12_judge 31 = .ok (.iconst (-1), 1) := by decide +kernel
theorem dX12_judge_32 : decode cX12_judge 32 = .ok (.ireturn, 1) := by decide +kernel
theorem dX12_judge_33 : decode cX12_judge 33 = .ok (.aload_n 0, 1) := by decide +kernel
theorem dX12_judge_34 : decode cX12_judge 34 = .ok (.iload_n 1, 1) := by decide +kernel
theorem dX12_judge_35 : decode cX12_judge 35 = .ok (.invokevirtual 538, 3) := by decide +kernel
theorem dX12_judge_38 : decode cX12_judge 38 = .ok (.iconst 0, 1) := by decide +kernel
theorem dX12_judge_39 : decode cX12_judge 39 = .ok (.istore_n 3, 1) := by decide +kernel
theorem dX12_judge_40 : decode cX12_judge 40 = .ok (.iconst 0, 1) := by decide +kernel
theorem dX12_judge_41 : decode cX12_judge 41 = .ok (.istore 4, 2) := by decide +kernel
theorem dX12_judge_43 : decode cX12_judge 43 = .ok (.iload 4, 2) := by decide +kernel
theorem dX12_judge_45 : decode cX12_judge 45 = .ok (.aload_n 0, 1) := by decide +kernel
theorem dX12_judge_46 : decode cX12_judge 46 = .ok (.getfield 170, 3) := by decide +kernel
theorem dX12_judge_49 : decode cX12_judge 49 = .ok (.if_icmp .ge 22, 3) := by decide +kernel
theorem dX12_judge_52 : decode cX12_judge 52 = .ok (.iload_n 3, 1) := by decide +kernel
theorem dX12_judge_53 : decode cX12_judge 53 = .ok (.iconst 2, 1) := by decide +kernel
theorem dX12_judge_54 : decode cX12_judge 54 = .ok (.ishl, 1) := by decide +kernel
theorem dX12_judge_55 : decode cX12_judge 55 = .ok (.iload_n 2, 1) := by decide +kernel
theorem dX12_judge_56 : decode cX12_judge 56 = .ok (.iconst 2, 1) := by decide +kernel
theorem dX12_judge_57 : decode cX12_judge 57 = .ok (.iload 4, 2) := by decide +kernel
theorem dX12_judge_59 : decode cX12_judge 59 = .ok (.imul, 1) := by decide +kernel
theorem dX12_judge_60 : decode cX12_judge 60 = .ok (.ishr, 1) := by decide +kernel
theorem dX12_judge_61 : decode cX12_judge 61 = .ok (.iconst 3, 1) := by decide +kernel
theorem dX12_judge_62 : decode cX12_judge 62 = .ok (.iand, 1) := by decide +kernel
theorem dX12_judge_63 : decode cX12_judge 63 = .ok (.ior, 1) := by decide +kernel
theorem dX12_judge_64 : decode cX12_judge 64 = .ok (.istore_n 3, 1) := by decide +kernel
theorem dX12_judge_65 : decode cX12_judge 65 = .ok (.iinc 4 1, 3) := by decide +kernel
theorem dX12_judge_68 : decode cX12_judge 68 = .ok (.goto (-25), 3) := by decide +kernel
theorem dX12_judge_71 : decode cX12_judge 71 = .ok (.aload_n 0, 1) := by decide +kernel
theorem dX12_judge_72 : decode cX12_judge 72 = .ok (.iload_n 1, 1) := by decide +kernel
theorem dX12_judge_73 : decode cX12_judge 73 = .ok (.iload_n 3, 1) := by decide +kernel
theorem dX12_judge_74 : decode cX12_judge 74 = .ok (.invokevirtual 541, 3) := by decide +kernel
theorem dX12_judge_77 : decode cX12_judge 77 = .ok (.bipush 10, 2) := by decide +kernel
theorem dX12_judge_79 : decode cX12_judge 79 = .ok (.aload_n 0, 1) := by decide +kernel
theorem dX12_judge_80 : decode cX12_judge 80 = .ok (.getfield 529, 3) := by decide +kernel
theorem dX12_judge_83 : decode cX12_judge 83 = .ok (.imul, 1) := by decide +kernel
theorem dX12_judge_84 : decode cX12_judge 84 = .ok (.aload_n 0, 1) := by decide +kernel
theorem dX12_judge_85 : decode cX12_judge 85 = .ok (.getfield 532, 3) := by decide +kernel
theorem dX12_judge_88 : decode cX12_judge 88 = .ok (.iadd, 1) := by decide +kernel
theorem dX12_judge_89 : decode cX12_judge 89 = .ok (.ireturn, 1) := by decide +kernel
theorem dX12_entry_0 : decode cX12_entry 0 = .ok (.aload_n 0, 1) := by decide +kernel
theorem dX12_entry_1 : decode cX12_entry 1 = .ok (.iconst 0, 1) := by decide +kernel
theorem dX12_entry_2 : decode cX12_entry 2 = .ok (.putfield 145, 3) := by decide +kernel
theorem dX12_entry_5 : decode cX12_entry 5 = .ok (.iload_n 1, 1) := by decide +kernel
theorem dX12_entry_6 : decode cX12_entry 6 = .ok (.invokestatic 466, 3) := by decide +kernel
theorem dX12_entry_9 : decode cX12_entry 9 = .ok (.ifCond .eq 68, 3) := by decide +kernel
theorem dX12_entry_12 : decode cX12_entry 12 = .ok (.iload_n 2, 1) := by decide +kernel
theorem dX12_entry_13 : decode cX12_entry 13 = .ok (.invokestatic 387, 3) := by decide +kernel
theorem dX12_entry_16 : decode cX12_entry 16 = .ok (.ifCond .eq 61, 3) := by decide +kernel
theorem dX12_entry_19 : decode cX12_entry 19 = .ok (.iload_n 3, 1) := by decide +kernel
theorem dX12_entry_20 : decode cX12_entry 20 = .ok (.i2l, 1) := by decide +kernel
theorem dX12_entry_21 : decode cX12_entry 21 = .ok (.lconst 1, 1) := by decide +kernel
theorem dX12_entry_22 : decode cX12_entry 22 = .ok (.ldc2_w 553, 3) := by decide +kernel
theorem dX12_entry_25 : decode cX12_entry 25 = .ok (.invokestatic 153, 3) := by decide +kernel
theorem dX12_entry_28 : decode cX12_entry 28 = .ok (.ifCond .eq 49, 3) := by decide +kernel
theorem dX12_entry_31 : decode cX12_entry 31 = .ok (.iload 4, 2) := by decide +kernel
theorem dX12_entry_33 : decode cX12_entry 33 = .ok (.i2l, 1) := by decide +kernel
theorem dX12_entry_34 : decode cX12_entry 34 = .ok (.lconst 0, 1) := by decide +kernel
theorem dX12_entry_35 : decode cX12_entry 35 = .ok (.iload_n 3, 1) := by decide +kernel
theorem dX12_entry_36 : decode cX12_entry 36 = .ok (.i2l, 1) := by decide +kernel
theorem dX12_entry_37 : decode cX12_entry 37 = .ok (.lconst 1, 1) := by decide +kernel
theorem dX12_entry_38 : decode cX12_entry 38 = .ok (.lsub, 1) := by decide +kernel
theorem dX12_entry_39 : decode cX12_entry 39 = .ok (.invokestatic 153, 3) := by decide +kernel
theorem dX12_entry_42 : decode cX12_entry 42 = .ok (.ifCond .eq 35, 3) := by decide +kernel
theorem dX12_entry_45 : decode cX12_entry 45 = .ok (.iload 5, 2) := by decide +kernel
theorem dX12_entry_47 : decode cX12_entry 47 = .ok (.i2l, 1) := by decide +kernel
theorem dX12_entry_48 : decode cX12_entry 48 = .ok (.lconst 0, 1) := by decide +kernel
theorem dX12_entry_49 : decode cX12_entry 49 = .ok (.ldc2_w 555, 3) := by decide +kernel
theorem dX12_entry_52 : decode cX12_entry 52 = .ok (.invokestatic 153, 3) := by decide +kernel
theorem dX12_entry_55 : decode cX12_entry 55 = .ok (.ifCond .eq 22, 3) := by decide +kernel
theorem dX12_entry_58 : decode cX12_entry 58 = .ok (.iload 6, 2) := by decide +kernel
theorem dX12_entry_60 : decode cX12_entry 60 = .ok (.i2l, 1) := by decide +kernel
theorem dX12_entry_61 : decode cX12_entry 61 = .ok (.lconst 0, 1) := by decide +kernel
theorem dX12_entry_62 : decode cX12_entry 62 = .ok (.lconst 1, 1) := by decide +kernel
theorem dX12_entry_63 : decode cX12_entry 63 = .ok (.invokestatic 153, 3) := by decide +kernel
theorem dX12_entry_66 : decode cX12_entry 66 = .ok (.ifCond .eq 11, 3) := by decide +kernel
theorem dX12_entry_69 : decode cX12_entry 69 = .ok (.iload 7, 2) := by decide +kernel
theorem dX12_entry_71 : decode cX12_entry 71 = .ok (.invokestatic 387, 3) := by decide +kernel
theorem dX12_entry_74 : decode cX12_entry 74 = .ok (.ifCond .ne 9, 3) := by decide +kernel
theorem dX12_entry_77 : decode cX12_entry 77 = .ok (.aload_n 0, 1) := by decide +kernel
theorem dX12_entry_78 : decode cX12_entry 78 = .ok (.iconst (-1), 1) := by decide +kernel
theorem dX12_entry_79 : decode cX12_entry 79 = .ok (.invokevirtual 163, 3) := by decide +kernel
theorem dX12_entry_82 : decode cX12_entry 82 = .ok (.ireturn, 1) := by decide +kernel
theorem dX12_entry_83 : decode cX12_entry 83 = .ok (.aload_n 0, 1) := by decide +kernel
theorem dX12_entry_84 : decode cX12_entry 84 = .ok (.getfield 8, 3) := by decide +kernel
theorem dX12_entry_87 : decode cX12_entry 87 = .ok (.bipush 6, 2) := by decide +kernel
theorem dX12_entry_89 : decode cX12_entry 89 = .ok (.iaload, 1) := by decide +kernel
theorem dX12_entry_90 : decode cX12_entry 90 = .ok (.bipush 60, 2) := by decide +kernel
theorem dX12_entry_92 : decode cX12_entry 92 = .ok (.if_icmp .ne 10, 3) := by decide +kernel
theorem dX12_entry_95 : decode cX12_entry 95 = .ok (.aload_n 0, 1) := by decide +kernel
theorem dX12_entry_96 : decode cX12_entry 96 = .ok (.bipush (-5), 2) := by decide +kernel
theorem dX12_entry_98 : decode cX12_entry 98 = .ok (.invokevirtual 163, 3) := by decide +kernel
theorem dX12_entry_101 : decode cX12_entry 101 = .ok (.ireturn, 1) := by decide +kernel
theorem dX12_entry_102 : decode cX12_entry 102 = .ok (.sipush 23832, 3) := by decide +kernel
theorem dX12_entry_105 : decode cX12_entry 105 = .ok (.bipush 10, 2) := by decide +kernel
theorem dX12_entry_107 : decode cX12_entry 107 = .ok (.aload_n 0, 1) := by decide +kernel
theorem dX12_entry_108 : decode cX12_entry 108 = .ok (.getfield 8, 3) := by decide +kernel
theorem dX12_entry_111 : decode cX12_entry 111 = .ok (.bipush 6, 2) := by decide +kernel
theorem dX12_entry_113 : decode cX12_entry 113 = .ok (.iaload, 1) := by decide +kernel
theorem dX12_entry_114 : decode cX12_entry 114 = .ok (.imul, 1) := by decide +kernel
theorem dX12_entry_115 : decode cX12_entry 115 = .ok (.iadd, 1) := by decide +kernel
theorem dX12_entry_116 : decode cX12_entry 116 = .ok (.istore 8, 2) := by decide +kernel
theorem dX12_entry_118 : decode cX12_entry 118 = .ok (.aload_n 0, 1) := by decide +kernel
theorem dX12_entry_119 : decode cX12_entry 119 = .ok (.iload 8, 2) := by decide +kernel
theorem dX12_entry_121 : decode cX12_entry 121 = .ok (.iload_n 1, 1) := by decide +kernel
theorem dX12_entry_122 : decode cX12_entry 122 = .ok (.iload_n 2, 1) := by decide +kernel
theorem dX12_entry_123 : decode cX12_entry 123 = .ok (.iload_n 3, 1) := by decide +kernel
theorem dX12_entry_124 : decode cX12_entry 124 = .ok (.iload 4, 2) := by decide +kernel
theorem dX12_entry_126 : decode cX12_entry 126 = .ok (.invokevirtual 458, 3) := by decide +kernel
theorem dX12_entry_129 : decode cX12_entry 129 = .ok (.aload_n 0, 1) := by decide +kernel
theorem dX12_entry_130 : decode cX12_entry 130 = .ok (.iload 8, 2) := by decide +kernel
theorem dX12_entry_132 : decode cX12_entry 132 = .ok (.iconst 4, 1) := by decide +kernel
theorem dX12_entry_133 : decode cX12_entry 133 = .ok (.iadd, 1) := by decide +kernel
theorem dX12_entry_134 : decode cX12_entry 134 = .ok (.iload 5, 2) := by decide +kernel
theorem dX12_entry_136 : decode cX12_entry 136 = .ok (.iload 6, 2) := by decide +kernel
theorem dX12_entry_138 : decode cX12_entry 138 = .ok (.iload 7, 2) := by decide +kernel
theorem dX12_entry_140 : decode cX12_entry 140 = .ok (.iconst (-1), 1) := by decide +kernel
theorem dX12_entry_141 : decode cX12_entry 141 = .ok (.invokevirtual 458, 3) := by decide +kernel
theorem dX12_entry_144 : decode cX12_entry 144 = .ok (.aload_n 0, 1) := by decide +kernel
theorem dX12_entry_145 : decode cX12_entry 145 = .ok (.getfield 8, 3) := by decide +kernel
theorem dX12_entry_148 : decode cX12_entry 148 = .ok (.iload 8, 2) := by decide +kernel
theorem dX12_entry_150 : decode cX12_entry 150 = .ok (.bipush 8, 2) := by decide +kernel
theorem dX12_entry_152 : decode cX12_entry 152 = .ok (.iadd, 1) := by decide +kernel
theorem dX12_entry_153 : decode cX12_entry 153 = .ok (.iconst (-1), 1) := by decide +kernel
theorem dX12_entry_154 : decode cX12_entry 154 = .ok (.iastore, 1) := by decide +kernel
theorem dX12_entry_155 : decode cX12_entry 155 = .ok (.aload_n 0, 1) := by decide +kernel
theorem dX12_entry_156 : decode cX12_entry 156 = .ok (.getfield 8, 3) := by decide +kernel
theorem dX12_entry_159 : decode cX12_entry 159 = .ok (.iload 8, 2) := by decide +kernel
theorem dX12_entry_161 : decode cX12_entry 161 = .ok (.bipush 9, 2) := by decide +kernel
theorem dX12_entry_163 : decode cX12_entry 163 = .ok (.iadd, 1) := by decide +kernel
theorem dX12_entry_164 : decode cX12_entry 164 = .ok (.iconst (-1), 1) := by decide +kernel
theorem dX12_entry_165 : decode cX12_entry 165 = .ok (.iastore, 1) := by decide +kernel
theorem dX12_entry_166 : decode cX12_entry 166 = .ok (.aload_n 0, 1) := by decide +kernel
theorem dX12_entry_167 : decode cX12_entry 167 = .ok (.getfield 8, 3) := by decide +kernel
theorem dX12_entry_170 : decode cX12_entry 170 = .ok (.bipush 6, 2) := by decide +kernel
theorem dX12_entry_172 : decode cX12_entry 172 = .ok (.dup2, 1) := by decide +kernel
theorem dX12_entry_173 : decode cX12_entry 173 = .ok (.iaload, 1) := by decide +kernel
theorem dX12_entry_174 : decode cX12_entry 174 = .ok (.iconst 1, 1) := by decide +kernel
theorem dX12_entry_175 : decode cX12_entry 175 = .ok (.iadd, 1) := by decide +kernel
theorem dX12_entry_176 : decode cX12_entry 176 = .ok (.iastore, 1) := by decide +kernel
theorem dX12_entry_177 : decode cX12_entry 177 = .ok (.aload_n 0, 1) := by decide +kernel
theorem dX12_entry_178 : decode cX12_entry 178 = .ok (.aload_n 0, 1) := by decide +kernel
theorem dX12_entry_179 : decode cX12_entry 179 = .ok (.getfield 8, 3) := by decide +kernel
theorem dX12_entry_182 : decode cX12_entry 182 = .ok (.bipush 6, 2) := by decide +kernel
theorem dX12_entry_184 : decode cX12_entry 184 = .ok (.iaload, 1) := by decide +kernel
theorem dX12_entry_185 : decode cX12_entry 185 = .ok (.iconst 1, 1) := by decide +kernel
theorem dX12_entry_186 : decode cX12_entry 186 = .ok (.isub, 1) := by decide +kernel
theorem dX12_entry_187 : decode cX12_entry 187 = .ok (.invokevirtual 163, 3) := by decide +kernel
theorem dX12_entry_190 : decode cX12_entry 190 = .ok (.ireturn, 1) := by decide +kernel
theorem dX12_isEntry_0 : decode cX12_isEntry 0 = .ok (.iload_n 1, 1) := by decide +kernel
theorem dX12_isEntry_1 : decode cX12_isEntry 1 = .ok (.i2l, 1) := by decide +kernel
theorem dX12_isEntry_2 : decode cX12_isEntry 2 = .ok (.lconst 0, 1) := by decide +kernel
theorem dX12_isEntry_3 : decode cX12_isEntry 3 = .ok (.aload_n 0, 1) := by decide +kernel
theorem dX12_isEntry_4 : decode cX12_isEntry 4 = .ok (.getfield 8, 3) := by decide +kernel
theorem dX12_isEntry_7 : decode cX12_isEntry 7 = .ok (.bipush 6, 2) := by decide +kernel
theorem dX12_isEntry_9 : decode cX12_isEntry 9 = .ok (.iaload, 1) := by decide +kernel
theorem dX12_isEntry_10 : decode cX12_isEntry 10 = .ok (.i2l, 1) := by decide +kernel
theorem dX12_isEntry_11 : decode cX12_isEntry 11 = .ok (.lconst 1, 1) := by decide +kernel
theorem dX12_isEntry_12 : decode cX12_isEntry 12 = .ok (.lsub, 1) := by decide +kernel
theorem dX12_isEntry_13 : decode cX12_isEntry 13 = .ok (.invokestatic 153, 3) := by decide +kernel
theorem dX12_isEntry_16 : decode cX12_isEntry 16 = .ok (.ireturn, 1) := by decide +kernel
theorem dX12_entryAt_0 : decode cX12_entryAt 0 = .ok (.aload_n 0, 1) := by decide +kernel
theorem dX12_entryAt_1 : decode cX12_entryAt 1 = .ok (.getfield 8, 3) := by decide +kernel
theorem dX12_entryAt_4 : decode cX12_entryAt 4 = .ok (.sipush 23832, 3) := by decide +kernel
theorem dX12_entryAt_7 : decode cX12_entryAt 7 = .ok (.bipush 10, 2) := by decide +kernel
theorem dX12_entryAt_9 : decode cX12_entryAt 9 = .ok (.iload_n 1, 1) := by decide +kernel
theorem dX12_entryAt_10 : decode cX12_entryAt 10 = .ok (.imul, 1) := by decide +kernel
theorem dX12_entryAt_11 : decode cX12_entryAt 11 = .ok (.iadd, 1) := by decide +kernel
theorem dX12_entryAt_12 : decode cX12_entryAt 12 = .ok (.iload_n 2, 1) := by decide +kernel
theorem dX12_entryAt_13 : decode cX12_entryAt 13 = .ok (.iadd, 1) := by decide +kernel
theorem dX12_entryAt_14 : decode cX12_entryAt 14 = .ok (.iaload, 1) := by decide +kernel
theorem dX12_entryAt_15 : decode cX12_entryAt 15 = .ok (.ireturn, 1) := by decide +kernel
theorem dX12_mark_0 : decode cX12_mark 0 = .ok (.aload_n 0, 1) := by decide +kernel
theorem dX12_mark_1 : decode cX12_mark 1 = .ok (.iconst 0, 1) := by decide +kernel
theorem dX12_mark_2 : decode cX12_mark 2 = .ok (.putfield 145, 3) := by decide +kernel
theorem dX12_mark_5 : decode cX12_mark 5 = .ok (.iload_n 2, 1) := by decide +kernel
theorem dX12_mark_6 : decode cX12_mark 6 = .ok (.i2l, 1) := by decide +kernel
theorem dX12_mark_7 : decode cX12_mark 7 = .ok (.lconst 0, 1) := by decide +kernel
theorem dX12_mark_8 : decode cX12_mark 8 = .ok (.ldc2_w 161, 3) := by decide +kernel
theorem dX12_mark_11 : decode cX12_mark 11 = .ok (.invokestatic 153, 3) := by decide +kernel
theorem dX12_mark_14 : decode cX12_mark 14 = .ok (.ifCond .eq 15, 3) := by decide +kernel
theorem dX12_mark_17 : decode cX12_mark 17 = .ok (.iload_n 3, 1) := by decide +kernel
theorem dX12_mark_18 : decode cX12_mark 18 = .ok (.i2l, 1) := by decide +kernel
theorem dX12_mark_19 : decode cX12_mark 19 = .ok (.lconst 0, 1) := by decide +kernel
theorem dX12_mark_20 : decode cX12_mark 20 = .ok (.ldc2_w 557, 3) := by decide +kernel
theorem dX12_mark_23 : decode cX12_mark 23 = .ok (.invokestatic 153, 3) := by decide +kernel
theorem dX12_mark_26 : decode cX12_mark 26 = .ok (.ifCond .ne 9, 3) := by decide +kernel
theorem dX12_mark_29 : decode cX12_mark 29 = .ok (.aload_n 0, 1) := by decide +kernel
theorem dX12_mark_30 : decode cX12_mark 30 = .ok (.iconst (-1), 1) := by decide +kernel
theorem dX12_mark_31 : decode cX12_mark 31 = .ok (.invokevirtual 163, 3) := by decide +kernel
theorem dX12_mark_34 : decode cX12_mark 34 = .ok (.ireturn, 1) := by decide +kernel
theorem dX12_mark_35 : decode cX12_mark 35 = .ok (.aload_n 0, 1) := by decide +kernel
theorem dX12_mark_36 : decode cX12_mark 36 = .ok (.iload_n 1, 1) := by decide +kernel
theorem dX12_mark_37 : decode cX12_mark 37 = .ok (.invokevirtual 559, 3) := by decide +kernel
theorem dX12_mark_40 : decode cX12_mark 40 = .ok (.ifCond .ne 10, 3) := by decide +kernel
theorem dX12_mark_43 : decode cX12_mark 43 = .ok (.aload_n 0, 1) := by decide +kernel
theorem dX12_mark_44 : decode cX12_mark 44 = .ok (.bipush (-2), 2) := by decide +kernel
theorem dX12_mark_46 : decode cX12_mark 46 = .ok (.invokevirtual 163, 3) := by decide +kernel
theorem dX12_mark_49 : decode cX12_mark 49 = .ok (.ireturn, 1) := by decide +kernel
theorem dX12_mark_50 : decode cX12_mark 50 = .ok (.aload_n 0, 1) := by decide +kernel
theorem dX12_mark_51 : decode cX12_mark 51 = .ok (.iload_n 1, 1) := by decide +kernel
theorem dX12_mark_52 : decode cX12_mark 52 = .ok (.bipush 7, 2) := by decide +kernel
theorem dX12_mark_54 : decode cX12_mark 54 = .ok (.iload_n 2, 1) := by decide +kernel
theorem dX12_mark_55 : decode cX12_mark 55 = .ok (.iadd, 1) := by decide +kernel
theorem dX12_mark_56 : decode cX12_mark 56 = .ok (.invokevirtual 562, 3) := by decide +kernel
theorem dX12_mark_59 : decode cX12_mark 59 = .ok (.iconst (-1), 1) := by decide +kernel
theorem dX12_mark_60 : decode cX12_mark 60 = .ok (.if_icmp .eq 10, 3) := by decide +kernel
theorem dX12_mark_63 : decode cX12_mark 63 = .ok (.aload_n 0, 1) := by decide +kernel
theorem dX12_mark_64 : decode cX12_mark 64 = .ok (.bipush (-4), 2) := by decide +kernel
theorem dX12_mark_66 : decode cX12_mark 66 = .ok (.invokevirtual 163, 3) := by decide +kernel
theorem dX12_mark_69 : decode cX12_mark 69 = .ok (.ireturn, 1) := by decide +kernel
theorem dX12_mark_70 : decode cX12_mark 70 = .ok (.aload_n 0, 1) := by decide +kernel
theorem dX12_mark_71 : decode cX12_mark 71 = .ok (.getfield 8, 3) := by decide +kernel
theorem dX12_mark_74 : decode cX12_mark 74 = .ok (.sipush 23832, 3) := by decide +kernel
theorem dX12_mark_77 : decode cX12_mark 77 = .ok (.bipush 10, 2) := by decide +kernel
theorem dX12_mark_79 : decode cX12_mark 79 = .ok (.iload_n 1, 1) := by decide +kernel
theorem dX12_mark_80 : decode cX12_mark 80 = .ok (.imul, 1) := by decide +kernel
theorem dX12_mark_81 : decode cX12_mark 81 = .ok (.iadd, 1) := by decide +kernel
theorem dX12_mark_82 : decode cX12_mark 82 = .ok (.bipush 7, 2) := by decide +kernel
theorem dX12_mark_84 : decode cX12_mark 84 = .ok (.iadd, 1) := by decide +kernel
theorem dX12_mark_85 : decode cX12_mark 85 = .ok (.iload_n 2, 1) := by decide +kernel
theorem dX12_mark_86 : decode cX12_mark 86 = .ok (.iadd, 1) := by decide +kernel
theorem dX12_mark_87 : decode cX12_mark 87 = .ok (.iload_n 3, 1) := by decide +kernel
theorem dX12_mark_88 : decode cX12_mark 88 = .ok (.iastore, 1) := by decide +kernel
theorem dX12_mark_89 : decode cX12_mark 89 = .ok (.aload_n 0, 1) := by decide +kernel
theorem dX12_mark_90 : decode cX12_mark 90 = .ok (.iconst 0, 1) := by decide +kernel
theorem dX12_mark_91 : decode cX12_mark 91 = .ok (.invokevirtual 163, 3) := by decide +kernel
theorem dX12_mark_94 : decode cX12_mark 94 = .ok (.ireturn, 1) := by decide +kernel
theorem dX12_areOne_0 : decode cX12_areOne 0 = .ok (.iconst 0, 1) := by decide +kernel
theorem dX12_areOne_1 : decode cX12_areOne 1 = .ok (.istore_n 3, 1) := by decide +kernel
theorem dX12_areOne_2 : decode cX12_areOne 2 = .ok (.iconst 0, 1) := by decide +kernel
theorem dX12_areOne_3 : decode cX12_areOne 3 = .ok (.istore 4, 2) := by decide +kernel
theorem dX12_areOne_5 : decode cX12_areOne 5 = .ok (.bipush 7, 2) := by decide +kernel
theorem dX12_areOne_7 : decode cX12_areOne 7 = .ok (.istore 5, 2) := by decide +kernel
theorem dX12_areOne_9 : decode cX12_areOne 9 = .ok (.iload 5, 2) := by decide +kernel
theorem dX12_areOne_11 : decode cX12_areOne 11 = .ok (.bipush 10, 2) := by decide +kernel
theorem dX12_areOne_13 : decode cX12_areOne 13 = .ok (.if_icmp .ge 83, 3) := by decide +kernel
theorem dX12_areOne_16 : decode cX12_areOne 16 = .ok (.aload_n 0, 1) := by decide +kernel
theorem dX12_areOne_17 : decode cX12_areOne 17 = .ok (.iload_n 1, 1) := by decide +kernel
theorem dX12_areOne_18 : decode cX12_areOne 18 = .ok (.iload 5, 2) := by decide +kernel
theorem dX12_areOne_20 : decode cX12_areOne 20 = .ok (.invokevirtual 562, 3) := by decide +kernel
theorem dX12_areOne_23 : decode cX12_areOne 23 = .ok (.iconst (-1), 1) := by decide +kernel
theorem dX12_areOne_24 : decode cX12_areOne 24 = .ok (.if_icmp .eq 66, 3) := by decide +kernel
theorem dX12_areOne_27 : decode cX12_areOne 27 = .ok (.aload_n 0, 1) := by decide +kernel
theorem dX12_areOne_28 : decode cX12_areOne 28 = .ok (.iload_n 2, 1) := by decide +kernel
theorem dX12_areOne_29 : decode cX12_areOne 29 = .ok (.iload 5, 2) := by decide +kernel
theorem dX12_areOne_31 : decode cX12_areOne 31 = .ok (.invokevirtual 562, 3) := by decide +kernel
theorem dX12_areOne_34 : decode cX12_areOne 34 = .ok (.iconst (-1), 1) := by decide +kernel
theorem dX12_areOne_35 : decode cX12_areOne 35 = .ok (.if_icmp .eq 55, 3) := by decide +kernel
theorem dX12_areOne_38 : decode cX12_areOne 38 = .ok (.iload_n 3, 1) := by decide +kernel
theorem dX12_areOne_39 : decode cX12_areOne 39 = .ok (.aload_n 0, 1) := by decide +kernel
theorem dX12_areOne_40 : decode cX12_areOne 40 = .ok (.iload_n 1, 1) := by decide +kernel
theorem dX12_areOne_41 : decode cX12_areOne 41 = .ok (.iload 5, 2) := by decide +kernel
theorem dX12_areOne_43 : decode cX12_areOne 43 = .ok (.invokevirtual 562, 3) := by decide +kernel
theorem dX12_areOne_46 : decode cX12_areOne 46 = .ok (.aload_n 0, 1) := by decide +kernel
theorem dX12_areOne_47 : decode cX12_areOne 47 = .ok (.iload_n 2, 1) := by decide +kernel
theorem dX12_areOne_48 : decode cX12_areOne 48 = .ok (.iload 5, 2) := by decide +kernel
theorem dX12_areOne_50 : decode cX12_areOne 50 = .ok (.invokevirtual 562, 3) := by decide +kernel
theorem dX12_areOne_53 : decode cX12_areOne 53 = .ok (.if_icmp .ne 7, 3) := by decide +kernel
theorem dX12_areOne_56 : decode cX12_areOne 56 = .ok (.iconst 1, 1) := by decide +kernel
theorem dX12_areOne_57 : decode cX12_areOne 57 = .ok (.goto 4, 3) := by decide +kernel
theorem dX12_areOne_60 : decode cX12_areOne 60 = .ok (.iconst 0, 1) := by decide +kernel
theorem dX12_areOne_61 : decode cX12_areOne 61 = .ok (.iadd, 1) := by decide +kernel
theorem dX12_areOne_62 : decode cX12_areOne 62 = .ok (.istore_n 3, 1) := by decide +kernel
theorem dX12_areOne_63 : decode cX12_areOne 63 = .ok (.iload 4, 2) := by decide +kernel
theorem dX12_areOne_65 : decode cX12_areOne 65 = .ok (.aload_n 0, 1) := by decide +kernel
theorem dX12_areOne_66 : decode cX12_areOne 66 = .ok (.iload_n 1, 1) := by decide +kernel
theorem dX12_areOne_67 : decode cX12_areOne 67 = .ok (.iload 5, 2) := by decide +kernel
theorem dX12_areOne_69 : decode cX12_areOne 69 = .ok (.invokevirtual 562, 3) := by decide +kernel
theorem dX12_areOne_72 : decode cX12_areOne 72 = .ok (.aload_n 0, 1) := by decide +kernel
theorem dX12_areOne_73 : decode cX12_areOne 73 = .ok (.iload_n 2, 1) := by decide +kernel
theorem dX12_areOne_74 : decode cX12_areOne 74 = .ok (.iload 5, 2) := by decide +kernel
theorem dX12_areOne_76 : decode cX12_areOne 76 = .ok (.invokevirtual 562, 3) := by decide +kernel
theorem dX12_areOne_79 : decode cX12_areOne 79 = .ok (.if_icmp .ne 7, 3) := by decide +kernel
theorem dX12_areOne_82 : decode cX12_areOne 82 = .ok (.iconst 0, 1) := by decide +kernel
theorem dX12_areOne_83 : decode cX12_areOne 83 = .ok (.goto 4, 3) := by decide +kernel
theorem dX12_areOne_86 : decode cX12_areOne 86 = .ok (.iconst 1, 1) := by decide +kernel
theorem dX12_areOne_87 : decode cX12_areOne 87 = .ok (.iadd, 1) := by decide +kernel
theorem dX12_areOne_88 : decode cX12_areOne 88 = .ok (.istore 4, 2) := by decide +kernel
theorem dX12_areOne_90 : decode cX12_areOne 90 = .ok (.iinc 5 1, 3) := by decide +kernel
theorem dX12_areOne_93 : decode cX12_areOne 93 = .ok (.goto (-84), 3) := by decide +kernel
theorem dX12_areOne_96 : decode cX12_areOne 96 = .ok (.iload_n 3, 1) := by decide +kernel
theorem dX12_areOne_97 : decode cX12_areOne 97 = .ok (.iconst 2, 1) := by decide +kernel
theorem dX12_areOne_98 : decode cX12_areOne 98 = .ok (.if_icmp .lt 12, 3) := by decide +kernel
theorem dX12_areOne_101 : decode cX12_areOne 101 = .ok (.iload 4, 2) := by decide +kernel
theorem dX12_areOne_103 : decode cX12_areOne 103 = .ok (.ifCond .ne 7, 3) := by decide +kernel
theorem dX12_areOne_106 : decode cX12_areOne 106 = .ok (.iconst 1, 1) := by decide +kernel
theorem dX12_areOne_107 : decode cX12_areOne 107 = .ok (.goto 4, 3) := by decide +kernel
theorem dX12_areOne_110 : decode cX12_areOne 110 = .ok (.iconst 0, 1) := by decide +kernel
theorem dX12_areOne_111 : decode cX12_areOne 111 = .ok (.ireturn, 1) := by decide +kernel
theorem dX12_findFamilies_0 : decode cX12_findFamilies 0 = .ok (.aload_n 0, 1) := by decide +kernel
theorem dX12_findFamilies_1 : decode cX12_findFamilies 1 = .ok (.getfield 8, 3) := by decide +kernel
theorem dX12_findFamilies_4 : decode cX12_findFamilies 4 = .ok (.bipush 6, 2) := by decide +kernel
theorem dX12_findFamilies_6 : decode cX12_findFamilies 6 = .ok (.iaload, 1) := by decide +kernel
theorem dX12_findFamilies_7 : decode cX12_findFamilies 7 = .ok (.istore_n 2, 1) := by decide +kernel
theorem dX12_findFamilies_8 : decode cX12_findFamilies 8 = .ok (.iconst 0, 1) := by decide +kernel
theorem dX12_findFamilies_9 : decode cX12_findFamilies 9 = .ok (.istore_n 3, 1) := by decide +kernel
theorem dX12_findFamilies_10 : decode cX12_findFamilies 10 = .ok (.iload_n 3, 1) := by decide +kernel
theorem dX12_findFamilies_11 : decode cX12_findFamilies 11 = .ok (.iload_n 2, 1) := by decide +kernel
theorem dX12_findFamilies_12 : decode cX12_findFamilies 12 = .ok (.if_icmp .ge 31, 3) := by decide +kernel
theorem dX12_findFamilies_15 : decode cX12_findFamilies 15 = .ok (.aload_n 0, 1) := by decide +kernel
theorem dX12_findFamilies_16 : decode cX12_findFamilies 16 = .ok (.getfield 127, 3) := by decide +kernel
theorem dX12_findFamilies_19 : decode cX12_findFamilies 19 = .ok (.iload_n 3, 1) := by decide +kernel
theorem dX12_findFamilies_20 : decode cX12_findFamilies 20 = .ok (.aload_n 0, 1) := by decide +kernel
theorem dX12_findFamilies_21 : decode cX12_findFamilies 21 = .ok (.iload_n 3, 1) := by decide +kernel
theorem dX12_findFamilies_22 : decode cX12_findFamilies 22 = .ok (.bipush 6, 2) := by decide +kernel
theorem dX12_findFamilies_24 : decode cX12_findFamilies 24 = .ok (.invokevirtual 562, 3) := by decide +kernel
theorem dX12_findFamilies_27 : decode cX12_findFamilies 27 = .ok (.iload_n 1, 1) := by decide +kernel
theorem dX12_findFamilies_28 : decode cX12_findFamilies 28 = .ok (.if_icmp .gt 7, 3) := by decide +kernel
theorem dX12_findFamilies_31 : decode cX12_findFamilies 31 = .ok (.iload_n 3, 1) := by decide +kernel
theorem dX12_findFamilies_32 : decode cX12_findFamilies 32 = .ok (.goto 4, 3) := by decide +kernel
theorem dX12_findFamilies_35 : decode cX12_findFamilies 35 = .ok (.iconst (-1), 1) := by decide +kernel
theorem dX12_findFamilies_36 : decode cX12_findFamilies 36 = .ok (.iastore, 1) := by decide +kernel
theorem dX12_findFamilies_37 : decode cX12_findFamilies 37 = .ok (.iinc 3 1, 3) := by decide +kernel
theorem dX12_findFamilies_40 : decode cX12_findFamilies 40 = .ok (.goto (-30), 3) := by decide +kernel
theorem dX12_findFamilies_43 : decode cX12_findFamilies 43 = .ok (.iconst 1, 1) := by decide +kernel
theorem dX12_findFamilies_44 : decode cX12_findFamilies 44 = .ok (.istore_n 3, 1) := by decide +kernel
theorem dX12_findFamilies_45 : decode cX12_findFamilies 45 = .ok (.iload_n 3, 1) := by decide +kernel
theorem dX12_findFamilies_46 : decode cX12_findFamilies 46 = .ok (.ifCond .eq 93, 3) := by decide +kernel
theorem dX12_findFamilies_49 : decode cX12_findFamilies 49 = .ok (.iconst 0, 1) := by decide +kernel
theorem dX12_findFamilies_50 : decode cX12_findFamilies 50 = .ok (.istore_n 3, 1) := by decide +kernel
theorem dX12_findFamilies_51 : decode cX12_findFamilies 51 = .ok (.iconst 0, 1) := by decide +kernel
theorem dX12_findFamilies_52 : decode cX12_findFamilies 52 = .ok (.istore 4, 2) := by decide +kernel
theorem dX12_findFamilies_54 : decode cX12_findFamilies 54 = .ok (.iload 4, 2) := by decide +kernel
theorem dX12_findFamilies_56 : decode cX12_findFamilies 56 = .ok (.iload_n 2, 1) := by decide +kernel
theorem dX12_findFamilies_57 : decode cX12_findFamilies 57 = .ok (.if_icmp .ge 79, 3) := by decide +kernel
theorem dX12_findFamilies_60 : decode cX12_findFamilies 60 = .ok (.iconst 0, 1) := by decide +kernel
theorem dX12_findFamilies_61 : decode cX12_findFamilies 61 = .ok (.istore 5, 2) := by decide +kernel
theorem dX12_findFamilies_63 : decode cX12_findFamilies 63 = .ok (.iload 5, 2) := by decide +kernel
theorem dX12_findFamilies_65 : decode cX12_findFamilies 65 = .ok (.iload_n 2, 1) := by decide +kernel
theorem dX12_findFamilies_66 : decode cX12_findFamilies 66 = .ok (.if_icmp .ge 64, 3) := by decide +kernel
theorem dX12_findFamilies_69 : decode cX12_findFamilies 69 = .ok (.aload_n 0, 1) := by decide +kernel
theorem dX12_findFamilies_70 : decode cX12_findFamilies 70 = .ok (.getfield 127, 3) := by decide +kernel
theorem dX12_findFamilies_73 : decode cX12_findFamilies 73 = .ok (.iload 4, 2) := by decide +kernel
theorem dX12_findFamilies_75 : decode cX12_findFamilies 75 = .ok (.iaload, 1) := by decide +kernel
theorem dX12_findFamilies_76 : decode cX12_findFamilies 76 = .ok (.iconst (-1), 1) := by decide +kernel
theorem dX12_findFamilies_77 : decode cX12_findFamilies 77 = .ok (.if_icmp .eq 47, 3) := by decide +kernel
theorem dX12_findFamilies_80 : decode cX12_findFamilies 80 = .ok (.aload_n 0, 1) := by decide +kernel
theorem dX12_findFamilies_81 : decode cX12_findFamilies 81 = .ok (.getfield 127, 3) := by decide +kernel
theorem dX12_findFamilies_84 : decode cX12_findFamilies 84 = .ok (.iload 5, 2) := by decide +kernel
theorem dX12_findFamilies_86 : decode cX12_findFamilies 86 = .ok (.iaload, 1) := by decide +kernel
theorem dX12_findFamilies_87 : decode cX12_findFamilies 87 = .ok (.aload_n 0, 1) := by decide +kernel
theorem dX12_findFamilies_88 : decode cX12_findFamilies 88 = .ok (.getfield 127, 3) := by decide +kernel
theorem dX12_findFamilies_91 : decode cX12_findFamilies 91 = .ok (.iload 4, 2) := by decide +kernel
theorem dX12_findFamilies_93 : decode cX12_findFamilies 93 = .ok (.iaload, 1) := by decide +kernel
theorem dX12_findFamilies_94 : decode cX12_findFamilies 94 = .ok (.if_icmp .le 30, 3) := by decide +kernel
theorem dX12_findFamilies_97 : decode cX12_findFamilies 97 = .ok (.aload_n 0, 1) := by decide +kernel
theorem dX12_findFamilies_98 : decode cX12_findFamilies 98 = .ok (.iload 4, 2) := by decide +kernel
theorem dX12_findFamilies_100 : decode cX12_findFamilies 100 = .ok (.iload 5, 2) := by decide +kernel
theorem dX12_findFamilies_102 : decode cX12_findFamilies 102 = .ok (.invokevirtual 565, 3) := by decide +kernel
theorem dX12_findFamilies_105 : decode cX12_findFamilies 105 = .ok (.ifCond .eq 19, 3) := by decide +kernel
theorem dX12_findFamilies_108 : decode cX12_findFamilies 108 = .ok (.aload_n 0, 1) := by decide +kernel
theorem dX12_findFamilies_109 : decode cX12_findFamilies 109 = .ok (.getfield 127, 3) := by decide +kernel
theorem dX12_findFamilies_112 : decode cX12_findFamilies 112 = .ok (.iload 5, 2) := by decide +kernel
theorem dX12_findFamilies_114 : decode cX12_findFamilies 114 = .ok (.aload_n 0, 1) := by decide +kernel
theorem dX12_findFamilies_115 : decode cX12_findFamilies 115 = .ok (.getfield 127, 3) := by decide +kernel
theorem dX12_findFamilies_118 : decode cX12_findFamilies 118 = .ok (.iload 4, 2) := by decide +kernel
theorem dX12_findFamilies_120 : decode cX12_findFamilies 120 = .ok (.iaload, 1) := by decide +kernel
theorem dX12_findFamilies_121 : decode cX12_findFamilies 121 = .ok (.iastore, 1) := by decide +kernel
theorem dX12_findFamilies_122 : decode cX12_findFamilies 122 = .ok (.iconst 1, 1) := by decide +kernel
theorem dX12_findFamilies_123 : decode cX12_findFamilies 123 = .ok (.istore_n 3, 1) := by decide +kernel
theorem dX12_findFamilies_124 : decode cX12_findFamilies 124 = .ok (.iinc 5 1, 3) := by decide +kernel
theorem dX12_findFamilies_127 : decode cX12_findFamilies 127 = .ok (.goto (-64), 3) := by decide +kernel
theorem dX12_findFamilies_130 : decode cX12_findFamilies 130 = .ok (.iinc 4 1, 3) := by decide +kernel
theorem dX12_findFamilies_133 : decode cX12_findFamilies 133 = .ok (.goto (-79), 3) := by decide +kernel
theorem dX12_findFamilies_136 : decode cX12_findFamilies 136 = .ok (.goto (-91), 3) := by decide +kernel
theorem dX12_findFamilies_139 : decode cX12_findFamilies 139 = .ok (.return_, 1) := by decide +kernel
theorem dX12_family_0 : decode cX12_family 0 = .ok (.aload_n 0, 1) := by decide +kernel
theorem dX12_family_1 : decode cX12_family 1 = .ok (.iconst 0, 1) := by decide +kernel
theorem dX12_family_2 : decode cX12_family 2 = .ok (.putfield 145, 3) := by decide +kernel
theorem dX12_family_5 : decode cX12_family 5 = .ok (.aload_n 0, 1) := by decide +kernel
theorem dX12_family_6 : decode cX12_family 6 = .ok (.iload_n 1, 1) := by decide +kernel
theorem dX12_family_7 : decode cX12_family 7 = .ok (.invokevirtual 559, 3) := by decide +kernel
theorem dX12_family_10 : decode cX12_family 10 = .ok (.ifCond .eq 10, 3) := by decide +kernel
theorem dX12_family_13 : decode cX12_family 13 = .ok (.iload_n 2, 1) := by decide +kernel
theorem dX12_family_14 : decode cX12_family 14 = .ok (.invokestatic 387, 3) := by decide +kernel
theorem dX12_family_17 : decode cX12_family 17 = .ok (.ifCond .ne 5, 3) := by decide +kernel
theorem dX12_family_20 : decode cX12_family 20 = .ok (.iconst (-1), 1) := by decide +kernel
theorem dX12_family_21 : decode cX12_family 21 = .ok (.ireturn, 1) := by decide +kernel
theorem dX12_family_22 : decode cX12_family 22 = .ok (.aload_n 0, 1) := by decide +kernel
theorem dX12_family_23 : decode cX12_family 23 = .ok (.iload_n 2, 1) := by decide +kernel
theorem dX12_family_24 : decode cX12_family 24 = .ok (.invokevirtual 568, 3) := by decide +kernel
theorem dX12_family_27 : decode cX12_family 27 = .ok (.aload_n 0, 1) := by decide +kernel
theorem dX12_family_28 : decode cX12_family 28 = .ok (.getfield 127, 3) := by decide +kernel
theorem dX12_family_31 : decode cX12_family 31 = .ok (.iload_n 1, 1) := by decide +kernel
theorem dX12_family_32 : decode cX12_family 32 = .ok (.iaload, 1) := by decide +kernel
theorem dX12_family_33 : decode cX12_family 33 = .ok (.ireturn, 1) := by decide +kernel
theorem dX12_setEntry_0 : decode cX12_setEntry 0 = .ok (.aload_n 0, 1) := by decide +kernel
theorem dX12_setEntry_1 : decode cX12_setEntry 1 = .ok (.iconst 0, 1) := by decide +kernel
theorem dX12_setEntry_2 : decode cX12_setEntry 2 = .ok (.iload_n 2, 1) := by decide +kernel
theorem dX12_setEntry_3 : decode cX12_setEntry 3 = .ok (.invokevirtual 440, 3) := by decide +kernel
theorem dX12_setEntry_6 : decode cX12_setEntry 6 = .ok (.aload_n 0, 1) := by decide +kernel
theorem dX12_setEntry_7 : decode cX12_setEntry 7 = .ok (.getfield 53, 3) := by decide +kernel
theorem dX12_setEntry_10 : decode cX12_setEntry 10 = .ok (.iconst 2, 1) := by decide +kernel
theorem dX12_setEntry_11 : decode cX12_setEntry 11 = .ok (.aload_n 0, 1) := by decide +kernel
theorem dX12_setEntry_12 : decode cX12_setEntry 12 = .ok (.iload_n 1, 1) := by decide +kernel
theorem dX12_setEntry_13 : decode cX12_setEntry 13 = .ok (.iconst 2, 1) := by decide +kernel
theorem dX12_setEntry_14 : decode cX12_setEntry 14 = .ok (.invokevirtual 562, 3) := by decide +kernel
theorem dX12_setEntry_17 : decode cX12_setEntry 17 = .ok (.iastore, 1) := by decide +kernel
theorem dX12_setEntry_18 : decode cX12_setEntry 18 = .ok (.aload_n 0, 1) := by decide +kernel
theorem dX12_setEntry_19 : decode cX12_setEntry 19 = .ok (.getfield 53, 3) := by decide +kernel
theorem dX12_setEntry_22 : decode cX12_setEntry 22 = .ok (.iconst 3, 1) := by decide +kernel
theorem dX12_setEntry_23 : decode cX12_setEntry 23 = .ok (.aload_n 0, 1) := by decide +kernel
theorem dX12_setEntry_24 : decode cX12_setEntry 24 = .ok (.iload_n 1, 1) := by decide +kernel
theorem dX12_setEntry_25 : decode cX12_setEntry 25 = .ok (.iconst 3, 1) := by decide +kernel
theorem dX12_setEntry_26 : decode cX12_setEntry 26 = .ok (.invokevirtual 562, 3) := by decide +kernel
theorem dX12_setEntry_29 : decode cX12_setEntry 29 = .ok (.iastore, 1) := by decide +kernel
theorem dX12_setEntry_30 : decode cX12_setEntry 30 = .ok (.aload_n 0, 1) := by decide +kernel
theorem dX12_setEntry_31 : decode cX12_setEntry 31 = .ok (.getfield 53, 3) := by decide +kernel
theorem dX12_setEntry_34 : decode cX12_setEntry 34 = .ok (.iconst 4, 1) := by decide +kernel
theorem dX12_setEntry_35 : decode cX12_setEntry 35 = .ok (.aload_n 0, 1) := by decide +kernel
theorem dX12_setEntry_36 : decode cX12_setEntry 36 = .ok (.iload_n 1, 1) := by decide +kernel
theorem dX12_setEntry_37 : decode cX12_setEntry 37 = .ok (.iconst 5, 1) := by decide +kernel
theorem dX12_setEntry_38 : decode cX12_setEntry 38 = .ok (.invokevirtual 562, 3) := by decide +kernel
theorem dX12_setEntry_41 : decode cX12_setEntry 41 = .ok (.iastore, 1) := by decide +kernel
theorem dX12_setEntry_42 : decode cX12_setEntry 42 = .ok (.aload_n 0, 1) := by decide +kernel
theorem dX12_setEntry_43 : decode cX12_setEntry 43 = .ok (.getfield 53, 3) := by decide +kernel
theorem dX12_setEntry_46 : decode cX12_setEntry 46 = .ok (.bipush 6, 2) := by decide +kernel
theorem dX12_setEntry_48 : decode cX12_setEntry 48 = .ok (.aload_n 0, 1) := by decide +kernel
theorem dX12_setEntry_49 : decode cX12_setEntry 49 = .ok (.iload_n 1, 1) := by decide +kernel
theorem dX12_setEntry_50 : decode cX12_setEntry 50 = .ok (.iconst 4, 1) := by decide +kernel
theorem dX12_setEntry_51 : decode cX12_setEntry 51 = .ok (.invokevirtual 562, 3) := by decide +kernel
theorem dX12_setEntry_54 : decode cX12_setEntry 54 = .ok (.iastore, 1) := by decide +kernel
theorem dX12_setEntry_55 : decode cX12_setEntry 55 = .ok (.return_, 1) := by decide +kernel
theorem dX12_reckonPoints_0 : decode cX12_reckonPoints 0 = .ok (.aload_n 0, 1) := by decide +kernel
theorem dX12_reckonPoints_1 : decode cX12_reckonPoints 1 = .ok (.iload_n 1, 1) := by decide +kernel
theorem dX12_reckonPoints_2 : decode cX12_reckonPoints 2 = .ok (.iload_n 2, 1) := by decide +kernel
theorem dX12_reckonPoints_3 : decode cX12_reckonPoints 3 = .ok (.invokevirtual 571, 3) := by decide +kernel
theorem dX12_reckonPoints_6 : decode cX12_reckonPoints 6 = .ok (.aload_n 0, 1) := by decide +kernel
theorem dX12_reckonPoints_7 : decode cX12_reckonPoints 7 = .ok (.getfield 53, 3) := by decide +kernel
theorem dX12_reckonPoints_10 : decode cX12_reckonPoints 10 = .ok (.iconst 5, 1) := by decide +kernel
theorem dX12_reckonPoints_11 : decode cX12_reckonPoints 11 = .ok (.iload_n 2, 1) := by decide +kernel
theorem dX12_reckonPoints_12 : decode cX12_reckonPoints 12 = .ok (.aload_n 0, 1) := by decide +kernel
theorem dX12_reckonPoints_13 : decode cX12_reckonPoints 13 = .ok (.iload_n 1, 1) := by decide +kernel
theorem dX12_reckonPoints_14 : decode cX12_reckonPoints 14 = .ok (.iconst 1, 1) := by decide +kernel
theorem dX12_reckonPoints_15 : decode cX12_reckonPoints 15 = .ok (.invokevirtual 562, 3) := by decide +kernel
theorem dX12_reckonPoints_18 : decode cX12_reckonPoints 18 = .ok (.if_icmp .ge 7, 3) := by decide +kernel
theorem dX12_reckonPoints_21 : decode cX12_reckonPoints 21 = .ok (.iconst 0, 1) := by decide +kernel
theorem dX12_reckonPoints_22 : decode cX12_reckonPoints 22 = .ok (.goto 11, 3) := by decide +kernel
theorem dX12_reckonPoints_25 : decode cX12_reckonPoints 25 = .ok (.iload_n 2, 1) := by decide +kernel
theorem dX12_reckonPoints_26 : decode cX12_reckonPoints 26 = .ok (.aload_n 0, 1) := by decide +kernel
theorem dX12_reckonPoints_27 : decode cX12_reckonPoints 27 = .ok (.iload_n 1, 1) := by decide +kernel
theorem dX12_reckonPoints_28 : decode cX12_reckonPoints 28 = .ok (.iconst 1, 1) := by decide +kernel
theorem dX12_reckonPoints_29 : decode cX12_reckonPoints 29 = .ok (.invokevirtual 562, 3) := by decide +kernel
theorem dX12_reckonPoints_32 : decode cX12_reckonPoints 32 = .ok (.isub, 1) := by decide +kernel
theorem dX12_reckonPoints_33 : decode cX12_reckonPoints 33 = .ok (.iastore, 1) := by decide +kernel
theorem dX12_reckonPoints_34 : decode cX12_reckonPoints 34 = .ok (.aload_n 0, 1) := by decide +kernel
theorem dX12_reckonPoints_35 : decode cX12_reckonPoints 35 = .ok (.iconst 3, 1) := by decide +kernel
theorem dX12_reckonPoints_36 : decode cX12_reckonPoints 36 = .ok (.iconst 0, 1) := by decide +kernel
theorem dX12_reckonPoints_37 : decode cX12_reckonPoints 37 = .ok (.iconst 0, 1) := by decide +kernel
theorem dX12_reckonPoints_38 : decode cX12_reckonPoints 38 = .ok (.iconst 0, 1) := by decide +kernel
theorem dX12_reckonPoints_39 : decode cX12_reckonPoints 39 = .ok (.iload_n 2, 1) := by decide +kernel
theorem dX12_reckonPoints_40 : decode cX12_reckonPoints 40 = .ok (.invokevirtual 443, 3) := by decide +kernel
theorem dX12_reckonPoints_43 : decode cX12_reckonPoints 43 = .ok (.pop, 1) := by decide +kernel
theorem dX12_reckonPoints_44 : decode cX12_reckonPoints 44 = .ok (.aload_n 0, 1) := by decide +kernel
theorem dX12_reckonPoints_45 : decode cX12_reckonPoints 45 = .ok (.getfield 433, 3) := by decide +kernel
theorem dX12_reckonPoints_48 : decode cX12_reckonPoints 48 = .ok (.lreturn, 1) := by decide +kernel
theorem dX12_shown_0 : decode cX12_shown 0 = .ok (.lload_n 0, 1) := by decide +kernel
theorem dX12_shown_1 : decode cX12_shown 1 = .ok (.ldc2_w 421, 3) := by decide +kernel
theorem dX12_shown_4 : decode cX12_shown 4 = .ok (.lcmp, 1) := by decide +kernel
theorem dX12_shown_5 : decode cX12_shown 5 = .ok (.ifCond .le 9, 3) := by decide +kernel
theorem dX12_shown_8 : decode cX12_shown 8 = .ok (.ldc_w 574, 3) := by decide +kernel
theorem dX12_shown_11 : decode cX12_shown 11 = .ok (.goto 19, 3) := by decide +kernel
theorem dX12_shown_14 : decode cX12_shown 14 = .ok (.lload_n 0, 1) := by decide +kernel
theorem dX12_shown_15 : decode cX12_shown 15 = .ok (.ldc2_w 419, 3) := by decide +kernel
theorem dX12_shown_18 : decode cX12_shown 18 = .ok (.lcmp, 1) := by decide +kernel
theorem dX12_shown_19 : decode cX12_shown 19 = .ok (.ifCond .ge 9, 3) := by decide +kernel
theorem dX12_shown_22 : decode cX12_shown 22 = .ok (.ldc_w 575, 3) := by decide +kernel
theorem dX12_shown_25 : decode cX12_shown 25 = .ok (.goto 5, 3) := by decide +kernel
theorem dX12_shown_28 : decode cX12_shown 28 = .ok (.lload_n 0, 1) := by decide +kernel
theorem dX12_shown_29 : decode cX12_shown 29 = .ok (.l2i, 1) := by decide +kernel
theorem dX12_shown_30 : decode cX12_shown 30 = .ok (.ireturn, 1) := by decide +kernel
theorem dX12_points_0 : decode cX12_points 0 = .ok (.aload_n 0, 1) := by decide +kernel
theorem dX12_points_1 : decode cX12_points 1 = .ok (.iconst 0, 1) := by decide +kernel
theorem dX12_points_2 : decode cX12_points 2 = .ok (.putfield 145, 3) := by decide +kernel
theorem dX12_points_5 : decode cX12_points 5 = .ok (.aload_n 0, 1) := by decide +kernel
theorem dX12_points_6 : decode cX12_points 6 = .ok (.iload_n 1, 1) := by decide +kernel
theorem dX12_points_7 : decode cX12_points 7 = .ok (.invokevirtual 559, 3) := by decide +kernel
theorem dX12_points_10 : decode cX12_points 10 = .ok (.ifCond .eq 28, 3) := by decide +kernel
theorem dX12_points_13 : decode cX12_points 13 = .ok (.iload_n 2, 1) := by decide +kernel
theorem dX12_points_14 : decode cX12_points 14 = .ok (.invokestatic 387, 3) := by decide +kernel
theorem dX12_points_17 : decode cX12_points 17 = .ok (.ifCond .eq 21, 3) := by decide +kernel
theorem dX12_points_20 : decode cX12_points 20 = .ok (.iload_n 3, 1) := by decide +kernel
theorem dX12_points_21 : decode cX12_points 21 = .ok (.invokestatic 387, 3) := by decide +kernel
theorem dX12_points_24 : decode cX12_points 24 = .ok (.ifCond .eq 14, 3) := by decide +kernel
theorem dX12_points_27 : decode cX12_points 27 = .ok (.aload_n 0, 1) := by decide +kernel
theorem dX12_points_28 : decode cX12_points 28 = .ok (.iload_n 1, 1) := by decide +kernel
theorem dX12_points_29 : decode cX12_points 29 = .ok (.bipush 6, 2) := by decide +kernel
theorem dX12_points_31 : decode cX12_points 31 = .ok (.invokevirtual 562, 3) := by decide +kernel
theorem dX12_points_34 : decode cX12_points 34 = .ok (.iload_n 3, 1) := by decide +kernel
theorem dX12_points_35 : decode cX12_points 35 = .ok (.if_icmp .le 7, 3) := by decide +kernel
theorem dX12_points_38 : decode cX12_points 38 = .ok (.ldc_w 528, 3) := by decide +kernel
theorem dX12_points_41 : decode cX12_points 41 = .ok (.ireturn, 1) := by decide +kernel
theorem dX12_points_42 : decode cX12_points 42 = .ok (.aload_n 0, 1) := by decide +kernel
theorem dX12_points_43 : decode cX12_points 43 = .ok (.iload_n 3, 1) := by decide +kernel
theorem dX12_points_44 : decode cX12_points 44 = .ok (.invokevirtual 406, 3) := by decide +kernel
theorem dX12_points_47 : decode cX12_points 47 = .ok (.aload_n 0, 1) := by decide +kernel
theorem dX12_points_48 : decode cX12_points 48 = .ok (.iload_n 1, 1) := by decide +kernel
theorem dX12_points_49 : decode cX12_points 49 = .ok (.iload_n 2, 1) := by decide +kernel
theorem dX12_points_50 : decode cX12_points 50 = .ok (.invokevirtual 576, 3) := by decide +kernel
theorem dX12_points_53 : decode cX12_points 53 = .ok (.invokestatic 580, 3) := by decide +kernel
theorem dX12_points_56 : decode cX12_points 56 = .ok (.ireturn, 1) := by decide +kernel
theorem dX12_standsAhead_0 : decode cX12_standsAhead 0 = .ok (.aload_n 0, 1) := by decide +kernel
theorem dX12_standsAhead_1 : decode cX12_standsAhead 1 = .ok (.getfield 130, 3) := by decide +kernel
theorem dX12_standsAhead_4 : decode cX12_standsAhead 4 = .ok (.iload_n 1, 1) := by decide +kernel
theorem dX12_standsAhead_5 : decode cX12_standsAhead 5 = .ok (.laload, 1) := by decide +kernel
theorem dX12_standsAhead_6 : decode cX12_standsAhead 6 = .ok (.aload_n 0, 1) := by decide +kernel
theorem dX12_standsAhead_7 : decode cX12_standsAhead 7 = .ok (.getfield 130, 3) := by decide +kernel
theorem dX12_standsAhead_10 : decode cX12_standsAhead 10 = .ok (.iload_n 2, 1) := by decide +kernel
theorem dX12_standsAhead_11 : decode cX12_standsAhead 11 = .ok (.laload, 1) := by decide +kernel
theorem dX12_standsAhead_12 : decode cX12_standsAhead 12 = .ok (.lcmp, 1) := by decide +kernel
theorem dX12_standsAhead_13 : decode cX12_standsAhead 13 = .ok (.ifCond .eq 25, 3) := by decide +kernel
theorem dX12_standsAhead_16 : decode cX12_standsAhead 16 = .ok (.aload_n 0, 1) := by decide +kernel
theorem dX12_standsAhead_17 : decode cX12_standsAhead 17 = .ok (.getfield 130, 3) := by decide +kernel
theorem dX12_standsAhead_20 : decode cX12_standsAhead 20 = .ok (.iload_n 1, 1) := by decide +kernel
theorem dX12_standsAhead_21 : decode cX12_standsAhead 21 = .ok (.laload, 1) := by decide +kernel
theorem dX12_standsAhead_22 : decode cX12_standsAhead 22 = .ok (.aload_n 0, 1) := by decide +kernel
theorem dX12_standsAhead_23 : decode cX12_standsAhead 23 = .ok (.getfield 130, 3) := by decide +kernel
theorem dX12_standsAhead_26 : decode cX12_standsAhead 26 = .ok (.iload_n 2, 1) := by decide +kernel
theorem dX12_standsAhead_27 : decode cX12_standsAhead 27 = .ok (.laload, 1) := by decide +kernel
theorem dX12_standsAhead_28 : decode cX12_standsAhead 28 = .ok (.lcmp, 1) := by decide +kernel
theorem dX12_standsAhead_29 : decode cX12_standsAhead 29 = .ok (.ifCond .le 7, 3) := by decide +kernel
theorem dX12_standsAhead_32 : decode cX12_standsAhead 32 = .ok (.iconst 1, 1) := by decide +kernel
theorem dX12_standsAhead_33 : decode cX12_standsAhead 33 = .ok (.goto 4, 3) := by decide +kernel
theorem dX12_standsAhead_36 : decode cX12_standsAhead 36 = .ok (.iconst 0, 1) := by decide +kernel
theorem dX12_standsAhead_37 : decode cX12_standsAhead 37 = .ok (.ireturn, 1) := by decide +kernel
theorem dX12_standsAhead_38 : decode cX12_standsAhead 38 = .ok (.aload_n 0, 1) := by decide +kernel
theorem dX12_standsAhead_39 : decode cX12_standsAhead 39 = .ok (.iload_n 1, 1) := by decide +kernel
theorem dX12_standsAhead_40 : decode cX12_standsAhead 40 = .ok (.iconst 1, 1) := by decide +kernel
theorem dX12_standsAhead_41 : decode cX12_standsAhead 41 = .ok (.invokevirtual 562, 3) := by decide +kernel
theorem dX12_standsAhead_44 : decode cX12_standsAhead 44 = .ok (.aload_n 0, 1) := by decide +kernel
theorem dX12_standsAhead_45 : decode cX12_standsAhead 45 = .ok (.iload_n 2, 1) := by decide +kernel
theorem dX12_standsAhead_46 : decode cX12_standsAhead 46 = .ok (.iconst 1, 1) := by decide +kernel
theorem dX12_standsAhead_47 : decode cX12_standsAhead 47 = .ok (.invokevirtual 562, 3) := by decide +kernel
theorem dX12_standsAhead_50 : decode cX12_standsAhead 50 = .ok (.if_icmp .eq 26, 3) := by decide +kernel
theorem dX12_standsAhead_53 : decode cX12_standsAhead 53 = .ok (.aload_n 0, 1) := by decide +kernel
theorem dX12_standsAhead_54 : decode cX12_standsAhead 54 = .ok (.iload_n 1, 1) := by decide +kernel
theorem dX12_standsAhead_55 : decode cX12_standsAhead 55 = .ok (.iconst 1, 1) := by decide +kernel
theorem dX12_standsAhead_56 : decode cX12_standsAhead 56 = .ok (.invokevirtual 562, 3) := by decide +kernel
theorem dX12_standsAhead_59 : decode cX12_standsAhead 59 = .ok (.aload_n 0, 1) := by decide +kernel
theorem dX12_standsAhead_60 : decode cX12_standsAhead 60 = .ok (.iload_n 2, 1) := by decide +kernel
theorem dX12_standsAhead_61 : decode cX12_standsAhead 61 = .ok (.iconst 1, 1) := by decide +kernel
theorem dX12_standsAhead_62 : decode cX12_standsAhead 62 = .ok (.invokevirtual 562, 3) := by decide +kernel
theorem dX12_standsAhead_65 : decode cX12_standsAhead 65 = .ok (.if_icmp .ge 7, 3) := by decide +kernel
theorem dX12_standsAhead_68 : decode cX12_standsAhead 68 = .ok (.iconst 1, 1) := by decide +kernel
theorem dX12_standsAhead_69 : decode cX12_standsAhead 69 = .ok (.goto 17, 3) := by decide +kernel
theorem dX12_standsAhead_72 : decode cX12_standsAhead 72 = .ok (.iconst 0, 1) := by decide +kernel
theorem dX12_standsAhead_73 : decode cX12_standsAhead 73 = .ok (.goto 13, 3) := by decide +kernel
theorem dX12_standsAhead_76 : decode cX12_standsAhead 76 = .ok (.iload_n 1, 1) := by decide +kernel
theorem dX12_standsAhead_77 : decode cX12_standsAhead 77 = .ok (.iload_n 2, 1) := by decide +kernel
theorem dX12_standsAhead_78 : decode cX12_standsAhead 78 = .ok (.if_icmp .ge 7, 3) := by decide +kernel
theorem dX12_standsAhead_81 : decode cX12_standsAhead 81 = .ok (.iconst 1, 1) := by decide +kernel
theorem dX12_standsAhead_82 : decode cX12_standsAhead 82 = .ok (.goto 4, 3) := by decide +kernel
theorem dX12_standsAhead_85 : decode cX12_standsAhead 85 = .ok (.iconst 0, 1) := by decide +kernel
theorem dX12_standsAhead_86 : decode cX12_standsAhead 86 = .ok (.ireturn, 1) := by decide +kernel
def W_X12_tryRow_0 (X : Sx) (l : Launch) (D : Nat) (x1 : Int32) (x2 : Int32) (σ : AH) (r : Option Value) (σ' : AH) : Prop := E X l m_X12_tryRow D 2 [(0, .ref 124), (1, .int x1), (2, .int x2), (3, .int (0 : Int32))] [] σ r σ'
set_option maxRecDepth 100000 in
theorem w_X12_tryRow_0 {X : Sx} {l : Launch} {D : Nat} {x1 : Int32} {x2 : Int32} {σ : AH} {r : Option Value} {σ' : AH} (hs : Sh σ) (h : W_X12_tryRow_0 X l D x1 x2 σ r σ') : E X l m_X12_tryRow D 0 [(0, .ref 124), (1, .int x1), (2, .int x2)] [] σ r σ' := by
  unfold W_X12_tryRow_0 at h
  refine E_iconst (0 : Int32) dX12_tryRow_0 (by decide) ?_
  refine E_istore_n [(3, .int (0 : Int32)), (0, .ref 124), (1, .int x1), (2, .int x2)] dX12_tryRow_1 rfl (by decide) rfl ?_
  exact E_lv [1, 2, 3, 0] rfl h
def W_X12_tryRow_2 (X : Sx) (l : Launch) (D : Nat) (x1 : Int32) (x2 : Int32) (x3 : Int32) (σ : AH) (r : Option Value) (σ' : AH) : Prop := (if (5 : Int32) ≤ x3 then E X l m_X12_tryRow D 27 [(0, .ref 124), (1, .int x1), (2, .int x2), (3, .int (0 : Int32))] [] σ r σ' else vp_in x3 5 ∧ vp_in x3 5 ∧ E X l m_X12_tryRow D 2 [(0, .ref 124), (1, .int x1), (2, .int x2), (3, .int (x3 + 1))] [] (sI σ 142 x3.toNatClampNeg (gI σ 154 x3.toNatClampNeg)) r σ')
set_option maxRecDepth 100000 in
theorem w_X12_tryRow_2 {X : Sx} {l : Launch} {D : Nat} {x1 : Int32} {x2 : Int32} {x3 : Int32} {σ : AH} {r : Option Value} {σ' : AH} (hs : Sh σ) (h : W_X12_tryRow_2 X l D x1 x2 x3 σ r σ') : E X l m_X12_tryRow D 2 [(0, .ref 124), (1, .int x1), (2, .int x2), (3, .int x3)] [] σ r σ' := by
  unfold W_X12_tryRow_2 at h
  refine E_iload_n 3 dX12_tryRow_2 rfl rfl ?_
  refine E_iconst (5 : Int32) dX12_tryRow_3 (by decide) ?_
  refine E_icmp_ge 25 dX12_tryRow_4 (by decide) (fun c => ?_) (fun c => ?_)
  · rw [if_pos c] at h
    refine E_iconst (0 : Int32) dX12_tryRow_25 (by decide) ?_
    refine E_istore_n [(3, .int (0 : Int32)), (0, .ref 124), (1, .int x1), (2, .int x2)] dX12_tryRow_26 rfl (by decide) rfl ?_
    exact E_lv [1, 2, 3, 0] rfl h
  · rw [if_neg c] at h
    refine E_aload_n 0 dX12_tryRow_7 rfl rfl ?_
    refine E_getR 142 dX12_tryRow_8 fl_X12_73 rfl (sk_124 hs) (sn hs (by decide)) (sr_124_37 hs) ?_
    refine E_iload_n 3 dX12_tryRow_11 rfl rfl ?_
    refine E_aload_n 0 dX12_tryRow_12 rfl rfl ?_
    refine E_getR 154 dX12_tryRow_13 fl_X12_109 rfl (sk_124 hs) (sn hs (by decide)) (sr_124_54 hs) ?_
    refine E_iload_n 3 dX12_tryRow_16 rfl rfl ?_
    obtain ⟨g1, h⟩ := h
    refine E_iald2 (x3.toNatClampNeg) dX12_tryRow_17 (sk_154 hs) (sn hs (by decide)) g1 rfl ?_
    obtain ⟨g2, h⟩ := h
    refine E_iast2 (x3.toNatClampNeg) dX12_tryRow_18 (sk_142 hs) (sn hs (by decide)) (Or.inl (by decide)) g2 rfl ?_
    refine E_iinc 3 (x3 + 1) [(3, .int (x3 + 1)), (0, .ref 124), (1, .int x1), (2, .int x2)] dX12_tryRow_19 rfl (congrArg (x3 + ·) (by decide : Int32.ofInt 1 = 1)) (by decide) rfl ?_
    refine E_goto 2 dX12_tryRow_22 (by decide) ?_
    exact E_lv [1, 2, 3, 0] rfl h
def W_X12_tryRow_27 (X : Sx) (l : Launch) (D : Nat) (x1 : Int32) (x2 : Int32) (x3 : Int32) (σ : AH) (r : Option Value) (σ' : AH) : Prop := (if (30 : Int32) ≤ x3 then E X l m_X12_tryRow D 77 [(0, .ref 124), (1, .int x1), (2, .int x2), (3, .int (0 : Int32))] [] σ r σ' else vp_in x3 30 ∧ vp_in x3 30 ∧ vp_in x3 30 ∧ vp_in x3 30 ∧ (∀ τ7 : AH, τ7 = (sI (sI σ 144 x3.toNatClampNeg (gI σ 155 x3.toNatClampNeg)) 145 x3.toNatClampNeg (vp_nar .boolean (gI (sI σ 144 x3.toNatClampNeg (gI σ 155 x3.toNatClampNeg)) 156 x3.toNatClampNeg))) → vp_in x3 30 ∧ vp_in x3 30 ∧ E X l m_X12_tryRow D 27 [(0, .ref 124), (1, .int x1), (2, .int x2), (3, .int (x3 + 1))] [] (sI τ7 146 x3.toNatClampNeg (gI τ7 157 x3.toNatClampNeg)) r σ'))
set_option maxRecDepth 100000 in
theorem w_X12_tryRow_27 {X : Sx} {l : Launch} {D : Nat} {x1 : Int32} {x2 : Int32} {x3 : Int32} {σ : AH} {r : Option Value} {σ' : AH} (hs : Sh σ) (h : W_X12_tryRow_27 X l D x1 x2 x3 σ r σ') : E X l m_X12_tryRow D 27 [(0, .ref 124), (1, .int x1), (2, .int x2), (3, .int x3)] [] σ r σ' := by
  unfold W_X12_tryRow_27 at h
  refine E_iload_n 3 dX12_tryRow_27 rfl rfl ?_
  refine E_bipush (30 : Int32) dX12_tryRow_28 (by decide) ?_
  refine E_icmp_ge 75 dX12_tryRow_30 (by decide) (fun c => ?_) (fun c => ?_)
  · rw [if_pos c] at h
    refine E_iconst (0 : Int32) dX12_tryRow_75 (by decide) ?_
    refine E_istore_n [(3, .int (0 : Int32)), (0, .ref 124), (1, .int x1), (2, .int x2)] dX12_tryRow_76 rfl (by decide) rfl ?_
    exact E_lv [1, 2, 3, 0] rfl h
  · rw [if_neg c] at h
    refine E_aload_n 0 dX12_tryRow_33 rfl rfl ?_
    refine E_getR 144 dX12_tryRow_34 fl_X12_79 rfl (sk_124 hs) (sn hs (by decide)) (sr_124_39 hs) ?_
    refine E_iload_n 3 dX12_tryRow_37 rfl rfl ?_
    refine E_aload_n 0 dX12_tryRow_38 rfl rfl ?_
    refine E_getR 155 dX12_tryRow_39 fl_X12_112 rfl (sk_124 hs) (sn hs (by decide)) (sr_124_55 hs) ?_
    refine E_iload_n 3 dX12_tryRow_42 rfl rfl ?_
    obtain ⟨g3, h⟩ := h
    refine E_iald2 (x3.toNatClampNeg) dX12_tryRow_43 (sk_155 hs) (sn hs (by decide)) g3 rfl ?_
    obtain ⟨g4, h⟩ := h
    refine E_iast2 (x3.toNatClampNeg) dX12_tryRow_44 (sk_144 hs) (sn hs (by decide)) (Or.inl (by decide)) g4 rfl ?_
    refine E_aload_n 0 dX12_tryRow_45 rfl rfl ?_
    refine E_getR 145 dX12_tryRow_46 fl_X12_82 rfl (sk_124 hs) (sn hs (by decide)) (sr_124_40 hs) ?_
    refine E_iload_n 3 dX12_tryRow_49 rfl rfl ?_
    refine E_aload_n 0 dX12_tryRow_50 rfl rfl ?_
    refine E_getR 156 dX12_tryRow_51 fl_X12_115 rfl (sk_124 hs) (sn hs (by decide)) (sr_124_56 hs) ?_
    refine E_iload_n 3 dX12_tryRow_54 rfl rfl ?_
    obtain ⟨g5, h⟩ := h
    refine E_zald2 (x3.toNatClampNeg) dX12_tryRow_55 (sk_156 hs) (sn hs (by decide)) g5 rfl ?_
    obtain ⟨g6, h⟩ := h
    refine E_zast2 (x3.toNatClampNeg) (vp_nar .boolean (gI (sI σ 144 x3.toNatClampNeg (gI σ 155 x3.toNatClampNeg)) 156 x3.toNatClampNeg)) rfl dX12_tryRow_56 (sk_145 hs) (sn hs (by decide)) (Or.inl (by decide)) g6 rfl ?_
    obtain ⟨τ7, e8⟩ : ∃ τ : AH, τ = (sI (sI σ 144 x3.toNatClampNeg (gI σ 155 x3.toNatClampNeg)) 145 x3.toNatClampNeg (vp_nar .boolean (gI (sI σ 144 x3.toNatClampNeg (gI σ 155 x3.toNatClampNeg)) 156 x3.toNatClampNeg))) := ⟨_, rfl⟩
    replace h := h τ7 e8
    rw [← e8]
    have hs9 : Sh τ7 := by rw [e8]; exact hs
    refine E_aload_n 0 dX12_tryRow_57 rfl rfl ?_
    refine E_getR 146 dX12_tryRow_58 fl_X12_85 rfl (sk_124 hs9) (sn hs9 (by decide)) (sr_124_41 hs9) ?_
    refine E_iload_n 3 dX12_tryRow_61 rfl rfl ?_
    refine E_aload_n 0 dX12_tryRow_62 rfl rfl ?_
    refine E_getR 157 dX12_tryRow_63 fl_X12_118 rfl (sk_124 hs9) (sn hs9 (by decide)) (sr_124_57 hs9) ?_
    refine E_iload_n 3 dX12_tryRow_66 rfl rfl ?_
    obtain ⟨g10, h⟩ := h
    refine E_iald2 (x3.toNatClampNeg) dX12_tryRow_67 (sk_157 hs9) (sn hs9 (by decide)) g10 rfl ?_
    obtain ⟨g11, h⟩ := h
    refine E_iast2 (x3.toNatClampNeg) dX12_tryRow_68 (sk_146 hs9) (sn hs9 (by decide)) (Or.inl (by decide)) g11 rfl ?_
    refine E_iinc 3 (x3 + 1) [(3, .int (x3 + 1)), (0, .ref 124), (1, .int x1), (2, .int x2)] dX12_tryRow_69 rfl (congrArg (x3 + ·) (by decide : Int32.ofInt 1 = 1)) (by decide) rfl ?_
    refine E_goto 27 dX12_tryRow_72 (by decide) ?_
    exact E_lv [1, 2, 3, 0] rfl h
def W_X12_tryRow_77 (X : Sx) (l : Launch) (D : Nat) (x1 : Int32) (x2 : Int32) (x3 : Int32) (σ : AH) (r : Option Value) (σ' : AH) : Prop := (if (90 : Int32) ≤ x3 then E X l m_X12_tryRow D 115 [(0, .ref 124), (1, .int x1), (2, .int x2), (3, .int (0 : Int32))] [] σ r σ' else vp_in x3 90 ∧ vp_in x3 90 ∧ vp_in x3 90 ∧ vp_in x3 90 ∧ (∀ τ16 : AH, τ16 = (sI (sI σ 148 x3.toNatClampNeg (gI σ 158 x3.toNatClampNeg)) 149 x3.toNatClampNeg (gI (sI σ 148 x3.toNatClampNeg (gI σ 158 x3.toNatClampNeg)) 159 x3.toNatClampNeg)) → E X l m_X12_tryRow D 77 [(0, .ref 124), (1, .int x1), (2, .int x2), (3, .int (x3 + 1))] [] τ16 r σ'))
set_option maxRecDepth 100000 in
theorem w_X12_tryRow_77 {X : Sx} {l : Launch} {D : Nat} {x1 : Int32} {x2 : Int32} {x3 : Int32} {σ : AH} {r : Option Value} {σ' : AH} (hs : Sh σ) (h : W_X12_tryRow_77 X l D x1 x2 x3 σ r σ') : E X l m_X12_tryRow D 77 [(0, .ref 124), (1, .int x1), (2, .int x2), (3, .int x3)] [] σ r σ' := by
  unfold W_X12_tryRow_77 at h
  refine E_iload_n 3 dX12_tryRow_77 rfl rfl ?_
  refine E_bipush (90 : Int32) dX12_tryRow_78 (by decide) ?_
  refine E_icmp_ge 113 dX12_tryRow_80 (by decide) (fun c => ?_) (fun c => ?_)
  · rw [if_pos c] at h
    refine E_iconst (0 : Int32) dX12_tryRow_113 (by decide) ?_
    refine E_istore_n [(3, .int (0 : Int32)), (0, .ref 124), (1, .int x1), (2, .int x2)] dX12_tryRow_114 rfl (by decide) rfl ?_
    exact E_lv [1, 2, 3, 0] rfl h
  · rw [if_neg c] at h
    refine E_aload_n 0 dX12_tryRow_83 rfl rfl ?_
    refine E_getR 148 dX12_tryRow_84 fl_X12_91 rfl (sk_124 hs) (sn hs (by decide)) (sr_124_43 hs) ?_
    refine E_iload_n 3 dX12_tryRow_87 rfl rfl ?_
    refine E_aload_n 0 dX12_tryRow_88 rfl rfl ?_
    refine E_getR 158 dX12_tryRow_89 fl_X12_121 rfl (sk_124 hs) (sn hs (by decide)) (sr_124_58 hs) ?_
    refine E_iload_n 3 dX12_tryRow_92 rfl rfl ?_
    obtain ⟨g12, h⟩ := h
    refine E_iald2 (x3.toNatClampNeg) dX12_tryRow_93 (sk_158 hs) (sn hs (by decide)) g12 rfl ?_
    obtain ⟨g13, h⟩ := h
    refine E_iast2 (x3.toNatClampNeg) dX12_tryRow_94 (sk_148 hs) (sn hs (by decide)) (Or.inl (by decide)) g13 rfl ?_
    refine E_aload_n 0 dX12_tryRow_95 rfl rfl ?_
    refine E_getR 149 dX12_tryRow_96 fl_X12_94 rfl (sk_124 hs) (sn hs (by decide)) (sr_124_44 hs) ?_
    refine E_iload_n 3 dX12_tryRow_99 rfl rfl ?_
    refine E_aload_n 0 dX12_tryRow_100 rfl rfl ?_
    refine E_getR 159 dX12_tryRow_101 fl_X12_124 rfl (sk_124 hs) (sn hs (by decide)) (sr_124_59 hs) ?_
    refine E_iload_n 3 dX12_tryRow_104 rfl rfl ?_
    obtain ⟨g14, h⟩ := h
    refine E_iald2 (x3.toNatClampNeg) dX12_tryRow_105 (sk_159 hs) (sn hs (by decide)) g14 rfl ?_
    obtain ⟨g15, h⟩ := h
    refine E_iast2 (x3.toNatClampNeg) dX12_tryRow_106 (sk_149 hs) (sn hs (by decide)) (Or.inl (by decide)) g15 rfl ?_
    obtain ⟨τ16, e17⟩ : ∃ τ : AH, τ = (sI (sI σ 148 x3.toNatClampNeg (gI σ 158 x3.toNatClampNeg)) 149 x3.toNatClampNeg (gI (sI σ 148 x3.toNatClampNeg (gI σ 158 x3.toNatClampNeg)) 159 x3.toNatClampNeg)) := ⟨_, rfl⟩
    replace h := h τ16 e17
    rw [← e17]
    have hs18 : Sh τ16 := by rw [e17]; exact hs
    refine E_iinc 3 (x3 + 1) [(3, .int (x3 + 1)), (0, .ref 124), (1, .int x1), (2, .int x2)] dX12_tryRow_107 rfl (congrArg (x3 + ·) (by decide : Int32.ofInt 1 = 1)) (by decide) rfl ?_
    refine E_goto 77 dX12_tryRow_110 (by decide) ?_
    exact E_lv [1, 2, 3, 0] rfl h
def W_X12_tryRow_169 (X : Sx) (l : Launch) (D : Nat) (x1 : Int32) (x2 : Int32) (x3 : Int32) (y0 : Int32) (y1 : Int32) (σ : AH) (r : Option Value) (σ' : AH) : Prop := vp_in y1 30 ∧ E X l m_X12_tryRow D 115 [(0, .ref 124), (1, .int x1), (2, .int x2), (3, .int (x3 + 1))] [] (sI σ 140 y1.toNatClampNeg y0) r σ'
set_option maxRecDepth 100000 in
theorem w_X12_tryRow_169 {X : Sx} {l : Launch} {D : Nat} {x1 : Int32} {x2 : Int32} {x3 : Int32} {y0 : Int32} {y1 : Int32} {σ : AH} {r : Option Value} {σ' : AH} (hs : Sh σ) (h : W_X12_tryRow_169 X l D x1 x2 x3 y0 y1 σ r σ') : E X l m_X12_tryRow D 169 [(0, .ref 124), (1, .int x1), (2, .int x2), (3, .int x3)] [.int y0, .int y1, .ref 140] σ r σ' := by
  unfold W_X12_tryRow_169 at h
  obtain ⟨g39, h⟩ := h
  refine E_iast2 (y1.toNatClampNeg) dX12_tryRow_169 (sk_140 hs) (sn hs (by decide)) (Or.inl (by decide)) g39 rfl ?_
  refine E_iinc 3 (x3 + 1) [(3, .int (x3 + 1)), (0, .ref 124), (1, .int x1), (2, .int x2)] dX12_tryRow_170 rfl (congrArg (x3 + ·) (by decide : Int32.ofInt 1 = 1)) (by decide) rfl ?_
  refine E_goto 115 dX12_tryRow_173 (by decide) ?_
  exact E_lv [1, 2, 3, 0] rfl h
def W_X12_tryRow_115 (X : Sx) (l : Launch) (D : Nat) (x1 : Int32) (x2 : Int32) (x3 : Int32) (σ : AH) (r : Option Value) (σ' : AH) : Prop := (if (gI σ 124 48) ≤ x3 then ∃ d19 : Nat, ∃ σ20 : AH, d19 + 1 ≤ D ∧ Call X l m_X12_license d19 [.ref 124] σ none σ20 ∧ ∃ d24 : Nat, ∃ σ25 : AH, d24 + 1 ≤ D ∧ Call X l m_X12_goTo d24 [.ref 124, .int ((13 : Int32) * x1), .int (((13 : Int32) * x1) + (12 : Int32))] σ20 none σ25 ∧ E X l m_X12_tryRow D 207 [(0, .ref 124), (3, .int (0 : Int32))] [] (sI (sI σ25 124 60 (0 : Int32)) 124 61 (0 : Int32)) r σ' else vp_in x3 6 ∧ (if ((x2 >>> (((2 : Int32) * (((gI σ 124 48) - (1 : Int32)) - x3)) &&& 31)) &&& (3 : Int32)) = 0 then W_X12_tryRow_169 X l D x1 x2 x3 (-1 : Int32) (gI σ 152 x3.toNatClampNeg) σ r σ' else W_X12_tryRow_169 X l D x1 x2 x3 (((13 : Int32) * x1) + ((4 : Int32) * (((x2 >>> (((2 : Int32) * (((gI σ 124 48) - (1 : Int32)) - x3)) &&& 31)) &&& (3 : Int32)) - (1 : Int32)))) (gI σ 152 x3.toNatClampNeg) σ r σ'))
set_option maxRecDepth 100000 in
theorem w_X12_tryRow_115 {X : Sx} {l : Launch} {D : Nat} {x1 : Int32} {x2 : Int32} {x3 : Int32} {σ : AH} {r : Option Value} {σ' : AH} (hs : Sh σ) (h : W_X12_tryRow_115 X l D x1 x2 x3 σ r σ') : E X l m_X12_tryRow D 115 [(0, .ref 124), (1, .int x1), (2, .int x2), (3, .int x3)] [] σ r σ' := by
  unfold W_X12_tryRow_115 at h
  refine E_iload_n 3 dX12_tryRow_115 rfl rfl ?_
  refine E_aload_n 0 dX12_tryRow_116 rfl rfl ?_
  refine E_getI dX12_tryRow_117 fl_X12_170 rfl (sk_124 hs) (sn hs (by decide)) ?_
  refine E_icmp_ge 176 dX12_tryRow_120 (by decide) (fun c => ?_) (fun c => ?_)
  · rw [if_pos c] at h
    refine E_aload_n 0 dX12_tryRow_176 rfl rfl ?_
    obtain ⟨d19, σ20, hD21, hC22, h⟩ := h
    have hs23 := hC22.1.2.2.2.1 hs
    refine E_callV (As := []) (rest := []) (r1 := none) (b := 124) dX12_tryRow_177 ok_X12_license in_X12_license se_X12_license ml_X12_486 hD21 rfl rfl (Nat.le_of_ble_eq_true rfl) (sk_124 hs) (sn hs (by decide)) (by decide) rfl (by decide +kernel) hC22 ?_
    refine E_aload_n 0 dX12_tryRow_180 rfl rfl ?_
    refine E_bipush (13 : Int32) dX12_tryRow_181 (by decide) ?_
    refine E_iload_n 1 dX12_tryRow_183 rfl rfl ?_
    refine E_imul dX12_tryRow_184 ?_
    refine E_bipush (13 : Int32) dX12_tryRow_185 (by decide) ?_
    refine E_iload_n 1 dX12_tryRow_187 rfl rfl ?_
    refine E_imul dX12_tryRow_188 ?_
    refine E_bipush (12 : Int32) dX12_tryRow_189 (by decide) ?_
    refine E_iadd dX12_tryRow_191 ?_
    obtain ⟨d24, σ25, hD26, hC27, h⟩ := h
    have hs28 := hC27.1.2.2.2.1 hs23
    refine E_callV (As := [.int ((13 : Int32) * x1), .int (((13 : Int32) * x1) + (12 : Int32))]) (rest := []) (r1 := none) (b := 124) dX12_tryRow_192 ok_X12_goTo in_X12_goTo se_X12_goTo ml_X12_520 hD26 rfl rfl (Nat.le_of_ble_eq_true rfl) (sk_124 hs23) (sn hs23 (by decide)) (by decide) rfl (by decide +kernel) hC27 ?_
    refine E_aload_n 0 dX12_tryRow_195 rfl rfl ?_
    refine E_iconst (0 : Int32) dX12_tryRow_196 (by decide) ?_
    refine E_putI dX12_tryRow_197 fl_X12_529 rfl (Or.inl rfl) (sk_124 hs28) (sn hs28 (by decide)) (Or.inl (by decide)) rfl rfl ?_
    refine E_aload_n 0 dX12_tryRow_200 rfl rfl ?_
    refine E_iconst (0 : Int32) dX12_tryRow_201 (by decide) ?_
    refine E_putI dX12_tryRow_202 fl_X12_532 rfl (Or.inl rfl) (sk_124 hs28) (sn hs28 (by decide)) (Or.inl (by decide)) rfl rfl ?_
    refine E_iconst (0 : Int32) dX12_tryRow_205 (by decide) ?_
    refine E_istore_n [(3, .int (0 : Int32)), (0, .ref 124), (1, .int x1), (2, .int x2)] dX12_tryRow_206 rfl (by decide) rfl ?_
    exact E_lv [1, 0] rfl h
  · rw [if_neg c] at h
    refine E_iload_n 2 dX12_tryRow_123 rfl rfl ?_
    refine E_iconst (2 : Int32) dX12_tryRow_124 (by decide) ?_
    refine E_aload_n 0 dX12_tryRow_125 rfl rfl ?_
    refine E_getI dX12_tryRow_126 fl_X12_170 rfl (sk_124 hs) (sn hs (by decide)) ?_
    refine E_iconst (1 : Int32) dX12_tryRow_129 (by decide) ?_
    refine E_isub dX12_tryRow_130 ?_
    refine E_iload_n 3 dX12_tryRow_131 rfl rfl ?_
    refine E_isub dX12_tryRow_132 ?_
    refine E_imul dX12_tryRow_133 ?_
    refine E_ishr dX12_tryRow_134 ?_
    refine E_iconst (3 : Int32) dX12_tryRow_135 (by decide) ?_
    refine E_iand dX12_tryRow_136 ?_
    refine E_istore [(4, .int ((x2 >>> (((2 : Int32) * (((gI σ 124 48) - (1 : Int32)) - x3)) &&& 31)) &&& (3 : Int32))), (0, .ref 124), (1, .int x1), (2, .int x2), (3, .int x3)] dX12_tryRow_137 (by decide) rfl ?_
    refine E_aload_n 1 dX12_tryRow_139 rfl rfl ?_
    refine E_getR 140 dX12_tryRow_140 fl_X12_67 rfl (sk_124 hs) (sn hs (by decide)) (sr_124_35 hs) ?_
    refine E_aload_n 1 dX12_tryRow_143 rfl rfl ?_
    refine E_getR 152 dX12_tryRow_144 fl_X12_103 rfl (sk_124 hs) (sn hs (by decide)) (sr_124_49 hs) ?_
    refine E_iload_n 4 dX12_tryRow_147 rfl rfl ?_
    obtain ⟨g29, h⟩ := h
    refine E_iald2 (x3.toNatClampNeg) dX12_tryRow_148 (sk_152 hs) (sn hs (by decide)) g29 rfl ?_
    refine E_iload 0 dX12_tryRow_149 rfl ?_
    refine E_if_ne 158 dX12_tryRow_151 (by decide) (fun c => ?_) (fun c => ?_)
    · rw [if_neg c] at h
      refine E_bipush (13 : Int32) dX12_tryRow_158 (by decide) ?_
      refine E_iload_n 2 dX12_tryRow_160 rfl rfl ?_
      refine E_imul dX12_tryRow_161 ?_
      refine E_iconst (4 : Int32) dX12_tryRow_162 (by decide) ?_
      refine E_iload 0 dX12_tryRow_163 rfl ?_
      refine E_iconst (1 : Int32) dX12_tryRow_165 (by decide) ?_
      refine E_isub dX12_tryRow_166 ?_
      refine E_imul dX12_tryRow_167 ?_
      refine E_iadd dX12_tryRow_168 ?_
      exact E_lv [1, 2, 3, 4] rfl (w_X12_tryRow_169 hs h)
    · rw [if_pos c] at h
      refine E_iconst (-1 : Int32) dX12_tryRow_154 (by decide) ?_
      refine E_goto 169 dX12_tryRow_155 (by decide) ?_
      exact E_lv [1, 2, 3, 4] rfl (w_X12_tryRow_169 hs h)
def W_X12_tryRow_295 (X : Sx) (l : Launch) (D : Nat) (x3 : Int32) (y0 : Int32) (y1 : Int32) (σ : AH) (r : Option Value) (σ' : AH) : Prop := E X l m_X12_tryRow D 207 [(0, .ref 124), (3, .int (x3 + 1))] [] (sI σ 124 61 (y1 + y0)) r σ'
set_option maxRecDepth 100000 in
theorem w_X12_tryRow_295 {X : Sx} {l : Launch} {D : Nat} {x3 : Int32} {y0 : Int32} {y1 : Int32} {σ : AH} {r : Option Value} {σ' : AH} (hs : Sh σ) (h : W_X12_tryRow_295 X l D x3 y0 y1 σ r σ') : E X l m_X12_tryRow D 295 [(0, .ref 124), (3, .int x3)] [.int y0, .int y1, .ref 124] σ r σ' := by
  unfold W_X12_tryRow_295 at h
  refine E_iadd dX12_tryRow_295 ?_
  refine E_putI dX12_tryRow_296 fl_X12_532 rfl (Or.inl rfl) (sk_124 hs) (sn hs (by decide)) (Or.inl (by decide)) rfl rfl ?_
  refine E_iinc 1 (x3 + 1) [(3, .int (x3 + 1)), (0, .ref 124)] dX12_tryRow_299 rfl (congrArg (x3 + ·) (by decide : Int32.ofInt 1 = 1)) (by decide) rfl ?_
  refine E_goto 207 dX12_tryRow_302 (by decide) ?_
  exact E_lv [1, 0] rfl h
def W_X12_tryRow_294 (X : Sx) (l : Launch) (D : Nat) (x3 : Int32) (y0 : Int32) (σ : AH) (r : Option Value) (σ' : AH) : Prop := W_X12_tryRow_295 X l D x3 (0 : Int32) y0 σ r σ'
set_option maxRecDepth 100000 in
theorem w_X12_tryRow_294 {X : Sx} {l : Launch} {D : Nat} {x3 : Int32} {y0 : Int32} {σ : AH} {r : Option Value} {σ' : AH} (hs : Sh σ) (h : W_X12_tryRow_294 X l D x3 y0 σ r σ') : E X l m_X12_tryRow D 294 [(0, .ref 124), (3, .int x3)] [.int y0, .ref 124] σ r σ' := by
  unfold W_X12_tryRow_294 at h
  refine E_iconst (0 : Int32) dX12_tryRow_294 (by decide) ?_
  exact E_lv [0, 1] rfl (w_X12_tryRow_295 hs h)
def W_X12_tryRow_249 (X : Sx) (l : Launch) (D : Nat) (x3 : Int32) (y0 : Int32) (y1 : Int32) (σ : AH) (r : Option Value) (σ' : AH) : Prop := vp_in x3 6 ∧ vp_in (gI (sI σ 124 60 (y1 + y0)) 152 x3.toNatClampNeg) 30 ∧ (if (3 : Int32) ≤ (gI (sI σ 124 60 (y1 + y0)) 144 (gI (sI σ 124 60 (y1 + y0)) 152 x3.toNatClampNeg).toNatClampNeg) then W_X12_tryRow_294 X l D x3 (gI (sI σ 124 60 (y1 + y0)) 124 61) (sI σ 124 60 (y1 + y0)) r σ' else vp_in x3 6 ∧ vp_in ((3 : Int32) * (gI (sI σ 124 60 (y1 + y0)) 152 x3.toNatClampNeg)) 90 ∧ (if (gI (sI σ 124 60 (y1 + y0)) 148 ((3 : Int32) * (gI (sI σ 124 60 (y1 + y0)) 152 x3.toNatClampNeg)).toNatClampNeg) = (-1 : Int32) then W_X12_tryRow_294 X l D x3 (gI (sI σ 124 60 (y1 + y0)) 124 61) (sI σ 124 60 (y1 + y0)) r σ' else W_X12_tryRow_295 X l D x3 (1 : Int32) (gI (sI σ 124 60 (y1 + y0)) 124 61) (sI σ 124 60 (y1 + y0)) r σ'))
set_option maxRecDepth 100000 in
theorem w_X12_tryRow_249 {X : Sx} {l : Launch} {D : Nat} {x3 : Int32} {y0 : Int32} {y1 : Int32} {σ : AH} {r : Option Value} {σ' : AH} (hs : Sh σ) (h : W_X12_tryRow_249 X l D x3 y0 y1 σ r σ') : E X l m_X12_tryRow D 249 [(0, .ref 124), (3, .int x3)] [.int y0, .int y1, .ref 124] σ r σ' := by
  unfold W_X12_tryRow_249 at h
  refine E_iadd dX12_tryRow_249 ?_
  refine E_putI dX12_tryRow_250 fl_X12_529 rfl (Or.inl rfl) (sk_124 hs) (sn hs (by decide)) (Or.inl (by decide)) rfl rfl ?_
  refine E_aload_n 0 dX12_tryRow_253 rfl rfl ?_
  refine E_dup dX12_tryRow_254 rfl ?_
  refine E_getI dX12_tryRow_255 fl_X12_532 rfl (sk_124 hs) (sn hs (by decide)) ?_
  refine E_aload_n 0 dX12_tryRow_258 rfl rfl ?_
  refine E_getR 144 dX12_tryRow_259 fl_X12_79 rfl (sk_124 hs) (sn hs (by decide)) (sr_124_39 hs) ?_
  refine E_aload_n 0 dX12_tryRow_262 rfl rfl ?_
  refine E_getR 152 dX12_tryRow_263 fl_X12_103 rfl (sk_124 hs) (sn hs (by decide)) (sr_124_49 hs) ?_
  refine E_iload_n 1 dX12_tryRow_266 rfl rfl ?_
  obtain ⟨g40, h⟩ := h
  refine E_iald2 (x3.toNatClampNeg) dX12_tryRow_267 (sk_152 hs) (sn hs (by decide)) g40 rfl ?_
  obtain ⟨g41, h⟩ := h
  refine E_iald2 ((gI (sI σ 124 60 (y1 + y0)) 152 x3.toNatClampNeg).toNatClampNeg) dX12_tryRow_268 (sk_144 hs) (sn hs (by decide)) g41 rfl ?_
  refine E_iconst (3 : Int32) dX12_tryRow_269 (by decide) ?_
  refine E_icmp_ge 294 dX12_tryRow_270 (by decide) (fun c => ?_) (fun c => ?_)
  · rw [if_pos c] at h
    exact E_lv [0, 1] rfl (w_X12_tryRow_294 hs h)
  · rw [if_neg c] at h
    refine E_aload_n 0 dX12_tryRow_273 rfl rfl ?_
    refine E_getR 148 dX12_tryRow_274 fl_X12_91 rfl (sk_124 hs) (sn hs (by decide)) (sr_124_43 hs) ?_
    refine E_iconst (3 : Int32) dX12_tryRow_277 (by decide) ?_
    refine E_aload_n 0 dX12_tryRow_278 rfl rfl ?_
    refine E_getR 152 dX12_tryRow_279 fl_X12_103 rfl (sk_124 hs) (sn hs (by decide)) (sr_124_49 hs) ?_
    refine E_iload_n 1 dX12_tryRow_282 rfl rfl ?_
    obtain ⟨g42, h⟩ := h
    refine E_iald2 (x3.toNatClampNeg) dX12_tryRow_283 (sk_152 hs) (sn hs (by decide)) g42 rfl ?_
    refine E_imul dX12_tryRow_284 ?_
    obtain ⟨g43, h⟩ := h
    refine E_iald2 (((3 : Int32) * (gI (sI σ 124 60 (y1 + y0)) 152 x3.toNatClampNeg)).toNatClampNeg) dX12_tryRow_285 (sk_148 hs) (sn hs (by decide)) g43 rfl ?_
    refine E_iconst (-1 : Int32) dX12_tryRow_286 (by decide) ?_
    refine E_icmp_eq 294 dX12_tryRow_287 (by decide) (fun c => ?_) (fun c => ?_)
    · rw [if_pos c] at h
      exact E_lv [0, 1] rfl (w_X12_tryRow_294 hs h)
    · rw [if_neg c] at h
      refine E_iconst (1 : Int32) dX12_tryRow_290 (by decide) ?_
      refine E_goto 295 dX12_tryRow_291 (by decide) ?_
      exact E_lv [0, 1] rfl (w_X12_tryRow_295 hs h)
def W_X12_tryRow_207 (X : Sx) (l : Launch) (D : Nat) (x3 : Int32) (σ : AH) (r : Option Value) (σ' : AH) : Prop := (if (gI σ 124 48) ≤ x3 then (r = none ∧ σ' = σ) else vp_in x3 6 ∧ vp_in (gI σ 152 x3.toNatClampNeg) 30 ∧ (if (gI σ 144 (gI σ 152 x3.toNatClampNeg).toNatClampNeg) = (3 : Int32) then vp_in x3 6 ∧ ∃ d33 : Nat, ∃ v38 : Int32, ∃ σ34 : AH, d33 + 1 ≤ D ∧ Call X l m_X12_roomsOf d33 [.ref 124, .int (gI σ 152 x3.toNatClampNeg)] σ (some (.int v38)) σ34 ∧ W_X12_tryRow_249 X l D x3 v38 (gI σ 124 60) σ34 r σ' else W_X12_tryRow_249 X l D x3 (0 : Int32) (gI σ 124 60) σ r σ'))
set_option maxRecDepth 100000 in
theorem w_X12_tryRow_207 {X : Sx} {l : Launch} {D : Nat} {x3 : Int32} {σ : AH} {r : Option Value} {σ' : AH} (hs : Sh σ) (h : W_X12_tryRow_207 X l D x3 σ r σ') : E X l m_X12_tryRow D 207 [(0, .ref 124), (3, .int x3)] [] σ r σ' := by
  unfold W_X12_tryRow_207 at h
  refine E_iload_n 1 dX12_tryRow_207 rfl rfl ?_
  refine E_aload_n 0 dX12_tryRow_208 rfl rfl ?_
  refine E_getI dX12_tryRow_209 fl_X12_170 rfl (sk_124 hs) (sn hs (by decide)) ?_
  refine E_icmp_ge 305 dX12_tryRow_212 (by decide) (fun c => ?_) (fun c => ?_)
  · rw [if_pos c] at h
    obtain ⟨rfl, rfl⟩ := h
    exact E_vret dX12_tryRow_305 rfl
  · rw [if_neg c] at h
    refine E_aload_n 0 dX12_tryRow_215 rfl rfl ?_
    refine E_dup dX12_tryRow_216 rfl ?_
    refine E_getI dX12_tryRow_217 fl_X12_529 rfl (sk_124 hs) (sn hs (by decide)) ?_
    refine E_aload_n 0 dX12_tryRow_220 rfl rfl ?_
    refine E_getR 144 dX12_tryRow_221 fl_X12_79 rfl (sk_124 hs) (sn hs (by decide)) (sr_124_39 hs) ?_
    refine E_aload_n 0 dX12_tryRow_224 rfl rfl ?_
    refine E_getR 152 dX12_tryRow_225 fl_X12_103 rfl (sk_124 hs) (sn hs (by decide)) (sr_124_49 hs) ?_
    refine E_iload_n 1 dX12_tryRow_228 rfl rfl ?_
    obtain ⟨g30, h⟩ := h
    refine E_iald2 (x3.toNatClampNeg) dX12_tryRow_229 (sk_152 hs) (sn hs (by decide)) g30 rfl ?_
    obtain ⟨g31, h⟩ := h
    refine E_iald2 ((gI σ 152 x3.toNatClampNeg).toNatClampNeg) dX12_tryRow_230 (sk_144 hs) (sn hs (by decide)) g31 rfl ?_
    refine E_iconst (3 : Int32) dX12_tryRow_231 (by decide) ?_
    refine E_icmp_ne 248 dX12_tryRow_232 (by decide) (fun c => ?_) (fun c => ?_)
    · rw [if_neg c] at h
      refine E_iconst (0 : Int32) dX12_tryRow_248 (by decide) ?_
      exact E_lv [0, 1] rfl (w_X12_tryRow_249 hs h)
    · rw [if_pos c] at h
      refine E_aload_n 0 dX12_tryRow_235 rfl rfl ?_
      refine E_aload_n 0 dX12_tryRow_236 rfl rfl ?_
      refine E_getR 152 dX12_tryRow_237 fl_X12_103 rfl (sk_124 hs) (sn hs (by decide)) (sr_124_49 hs) ?_
      refine E_iload_n 1 dX12_tryRow_240 rfl rfl ?_
      obtain ⟨g32, h⟩ := h
      refine E_iald2 (x3.toNatClampNeg) dX12_tryRow_241 (sk_152 hs) (sn hs (by decide)) g32 rfl ?_
      obtain ⟨d33, v38, σ34, hD35, hC36, h⟩ := h
      have hs37 := hC36.1.2.2.2.1 hs
      refine E_callV (As := [.int (gI σ 152 x3.toNatClampNeg)]) (rest := [.int (gI σ 124 60), .ref 124]) (r1 := (some (.int v38))) (b := 124) dX12_tryRow_242 ok_X12_roomsOf in_X12_roomsOf se_X12_roomsOf ml_X12_504 hD35 rfl rfl (Nat.le_of_ble_eq_true rfl) (sk_124 hs) (sn hs (by decide)) (by decide) rfl (by decide +kernel) hC36 ?_
      refine E_goto 249 dX12_tryRow_245 (by decide) ?_
      exact E_lv [0, 1] rfl (w_X12_tryRow_249 hs37 h)
def W_X12_best_0 (X : Sx) (l : Launch) (D : Nat) (x1 : Int32) (σ : AH) (r : Option Value) (σ' : AH) : Prop := ∃ d1 : Nat, ∃ v6 : Int32, ∃ σ2 : AH, d1 + 1 ≤ D ∧ Call X l m_X12_isQuarter d1 [.int x1] (sI σ 124 0 (0 : Int32)) (some (.int v6)) σ2 ∧ (if v6 = 0 then (r = some (.int (-1 : Int32)) ∧ σ' = σ2) else ∃ d7 : Nat, ∃ σ8 : AH, d7 + 1 ≤ D ∧ Call X l m_X12_goAhead d7 [.ref 124, .int x1] σ2 none σ8 ∧ E X l m_X12_best D 23 [(0, .ref 124), (1, .int x1), (2, .int (-1 : Int32)), (3, .int (0 : Int32))] [] σ8 r σ')
set_option maxRecDepth 100000 in
theorem w_X12_best_0 {X : Sx} {l : Launch} {D : Nat} {x1 : Int32} {σ : AH} {r : Option Value} {σ' : AH} (hs : Sh σ) (h : W_X12_best_0 X l D x1 σ r σ') : E X l m_X12_best D 0 [(0, .ref 124), (1, .int x1)] [] σ r σ' := by
  unfold W_X12_best_0 at h
  refine E_aload_n 0 dX12_best_0 rfl rfl ?_
  refine E_iconst (0 : Int32) dX12_best_1 (by decide) ?_
  refine E_putI dX12_best_2 fl_X12_145 rfl (Or.inl rfl) (sk_124 hs) (sn hs (by decide)) (Or.inl (by decide)) rfl rfl ?_
  refine E_iload_n 1 dX12_best_5 rfl rfl ?_
  obtain ⟨d1, v6, σ2, hD3, hC4, h⟩ := h
  have hs5 := hC4.1.2.2.2.1 hs
  refine E_callS (As := [.int x1]) (rest := []) (r1 := (some (.int v6))) dX12_best_6 ok_X12_isQuarter is_X12_isQuarter ml_X12_535 hD3 rfl rfl (Nat.le_of_ble_eq_true rfl) (by decide +kernel) hC4 ?_
  refine E_if_ne 14 dX12_best_9 (by decide) (fun c => ?_) (fun c => ?_)
  · rw [if_neg c] at h
    refine E_aload_n 0 dX12_best_14 rfl rfl ?_
    refine E_iload_n 1 dX12_best_15 rfl rfl ?_
    obtain ⟨d7, σ8, hD9, hC10, h⟩ := h
    have hs11 := hC10.1.2.2.2.1 hs5
    refine E_callV (As := [.int x1]) (rest := []) (r1 := none) (b := 124) dX12_best_16 ok_X12_goAhead in_X12_goAhead se_X12_goAhead ml_X12_538 hD9 rfl rfl (Nat.le_of_ble_eq_true rfl) (sk_124 hs5) (sn hs5 (by decide)) (by decide) rfl (by decide +kernel) hC10 ?_
    refine E_iconst (-1 : Int32) dX12_best_19 (by decide) ?_
    refine E_istore_n [(2, .int (-1 : Int32)), (0, .ref 124), (1, .int x1)] dX12_best_20 rfl (by decide) rfl ?_
    refine E_iconst (0 : Int32) dX12_best_21 (by decide) ?_
    refine E_istore_n [(3, .int (0 : Int32)), (2, .int (-1 : Int32)), (0, .ref 124), (1, .int x1)] dX12_best_22 rfl (by decide) rfl ?_
    exact E_lv [2, 3, 1, 0] rfl h
  · rw [if_pos c] at h
    refine E_iconst (-1 : Int32) dX12_best_12 (by decide) ?_
    obtain ⟨rfl, rfl⟩ := h
    exact E_iret dX12_best_13 rfl
def W_X12_best_121 (X : Sx) (l : Launch) (D : Nat) (x1 : Int32) (x2 : Int32) (x3 : Int32) (σ : AH) (r : Option Value) (σ' : AH) : Prop := E X l m_X12_best D 23 [(0, .ref 124), (1, .int x1), (2, .int x2), (3, .int (x3 + 1))] [] σ r σ'
set_option maxRecDepth 100000 in
theorem w_X12_best_121 {X : Sx} {l : Launch} {D : Nat} {x1 : Int32} {x2 : Int32} {x3 : Int32} {σ : AH} {r : Option Value} {σ' : AH} (hs : Sh σ) (h : W_X12_best_121 X l D x1 x2 x3 σ r σ') : E X l m_X12_best D 121 [(0, .ref 124), (1, .int x1), (2, .int x2), (3, .int x3)] [] σ r σ' := by
  unfold W_X12_best_121 at h
  refine E_iinc 3 (x3 + 1) [(3, .int (x3 + 1)), (0, .ref 124), (1, .int x1), (2, .int x2)] dX12_best_121 rfl (congrArg (x3 + ·) (by decide : Int32.ofInt 1 = 1)) (by decide) rfl ?_
  refine E_goto 23 dX12_best_124 (by decide) ?_
  exact E_lv [1, 2, 3, 0] rfl h
def W_X12_best_68 (X : Sx) (l : Launch) (D : Nat) (x1 : Int32) (x3 : Int32) (σ : AH) (r : Option Value) (σ' : AH) : Prop := E X l m_X12_best D 84 [(0, .ref 124), (1, .int x1), (2, .int (gI σ 124 60)), (3, .int x3), (4, .int (0 : Int32))] [] (sI σ 124 53 (gI σ 124 61)) r σ'
set_option maxRecDepth 100000 in
theorem w_X12_best_68 {X : Sx} {l : Launch} {D : Nat} {x1 : Int32} {x3 : Int32} {σ : AH} {r : Option Value} {σ' : AH} (hs : Sh σ) (h : W_X12_best_68 X l D x1 x3 σ r σ') : E X l m_X12_best D 68 [(0, .ref 124), (1, .int x1), (3, .int x3)] [] σ r σ' := by
  unfold W_X12_best_68 at h
  refine E_aload_n 0 dX12_best_68 rfl rfl ?_
  refine E_getI dX12_best_69 fl_X12_529 rfl (sk_124 hs) (sn hs (by decide)) ?_
  refine E_istore_n [(2, .int (gI σ 124 60)), (0, .ref 124), (1, .int x1), (3, .int x3)] dX12_best_72 rfl (by decide) rfl ?_
  refine E_aload_n 1 dX12_best_73 rfl rfl ?_
  refine E_aload_n 1 dX12_best_74 rfl rfl ?_
  refine E_getI dX12_best_75 fl_X12_532 rfl (sk_124 hs) (sn hs (by decide)) ?_
  refine E_putI dX12_best_78 fl_X12_544 rfl (Or.inl rfl) (sk_124 hs) (sn hs (by decide)) (Or.inl (by decide)) rfl rfl ?_
  refine E_iconst (0 : Int32) dX12_best_81 (by decide) ?_
  refine E_istore [(4, .int (0 : Int32)), (2, .int (gI σ 124 60)), (0, .ref 124), (1, .int x1), (3, .int x3)] dX12_best_82 (by decide) rfl ?_
  exact E_lv [2, 3, 1, 4, 0] rfl h
def W_X12_best_23 (X : Sx) (l : Launch) (D : Nat) (x1 : Int32) (x2 : Int32) (x3 : Int32) (σ : AH) (r : Option Value) (σ' : AH) : Prop := (if ((1 : Int32) <<< (((2 : Int32) * (gI σ 124 48)) &&& 31)) ≤ x3 then (r = some (.int x2) ∧ σ' = (sI (sI σ 124 50 (1 : Int32)) 124 51 (gI (sI σ 124 50 (1 : Int32)) 124 48))) else ∃ d12 : Nat, ∃ σ13 : AH, d12 + 1 ≤ D ∧ Call X l m_X12_tryRow d12 [.ref 124, .int x1, .int x3] σ none σ13 ∧ (if x2 < (gI σ13 124 60) then W_X12_best_68 X l D x1 x3 σ13 r σ' else (if (gI σ13 124 60) = x2 then (if (gI σ13 124 53) ≤ (gI σ13 124 61) then W_X12_best_121 X l D x1 x2 x3 σ13 r σ' else W_X12_best_68 X l D x1 x3 σ13 r σ') else W_X12_best_121 X l D x1 x2 x3 σ13 r σ')))
set_option maxRecDepth 100000 in
theorem w_X12_best_23 {X : Sx} {l : Launch} {D : Nat} {x1 : Int32} {x2 : Int32} {x3 : Int32} {σ : AH} {r : Option Value} {σ' : AH} (hs : Sh σ) (h : W_X12_best_23 X l D x1 x2 x3 σ r σ') : E X l m_X12_best D 23 [(0, .ref 124), (1, .int x1), (2, .int x2), (3, .int x3)] [] σ r σ' := by
  unfold W_X12_best_23 at h
  refine E_iload_n 3 dX12_best_23 rfl rfl ?_
  refine E_iconst (1 : Int32) dX12_best_24 (by decide) ?_
  refine E_iconst (2 : Int32) dX12_best_25 (by decide) ?_
  refine E_aload_n 0 dX12_best_26 rfl rfl ?_
  refine E_getI dX12_best_27 fl_X12_170 rfl (sk_124 hs) (sn hs (by decide)) ?_
  refine E_imul dX12_best_30 ?_
  refine E_ishl dX12_best_31 ?_
  refine E_icmp_ge 127 dX12_best_32 (by decide) (fun c => ?_) (fun c => ?_)
  · rw [if_pos c] at h
    refine E_aload_n 0 dX12_best_127 rfl rfl ?_
    refine E_iconst (1 : Int32) dX12_best_128 (by decide) ?_
    refine E_putI dX12_best_129 fl_X12_547 rfl (Or.inl rfl) (sk_124 hs) (sn hs (by decide)) (Or.inl (by decide)) (nar_b (by decide)) (fit_b (by decide)) ?_
    refine E_aload_n 0 dX12_best_132 rfl rfl ?_
    refine E_aload_n 0 dX12_best_133 rfl rfl ?_
    refine E_getI dX12_best_134 fl_X12_170 rfl (sk_124 hs) (sn hs (by decide)) ?_
    refine E_putI dX12_best_137 fl_X12_550 rfl (Or.inl rfl) (sk_124 hs) (sn hs (by decide)) (Or.inl (by decide)) rfl rfl ?_
    refine E_iload_n 2 dX12_best_140 rfl rfl ?_
    obtain ⟨rfl, rfl⟩ := h
    exact E_iret dX12_best_141 rfl
  · rw [if_neg c] at h
    refine E_aload_n 0 dX12_best_35 rfl rfl ?_
    refine E_iload_n 1 dX12_best_36 rfl rfl ?_
    refine E_iload_n 3 dX12_best_37 rfl rfl ?_
    obtain ⟨d12, σ13, hD14, hC15, h⟩ := h
    have hs16 := hC15.1.2.2.2.1 hs
    refine E_callV (As := [.int x1, .int x3]) (rest := []) (r1 := none) (b := 124) dX12_best_38 ok_X12_tryRow in_X12_tryRow se_X12_tryRow ml_X12_541 hD14 rfl rfl (Nat.le_of_ble_eq_true rfl) (sk_124 hs) (sn hs (by decide)) (by decide) rfl (by decide +kernel) hC15 ?_
    refine E_aload_n 0 dX12_best_41 rfl rfl ?_
    refine E_getI dX12_best_42 fl_X12_529 rfl (sk_124 hs16) (sn hs16 (by decide)) ?_
    refine E_iload_n 2 dX12_best_45 rfl rfl ?_
    refine E_icmp_gt 68 dX12_best_46 (by decide) (fun c => ?_) (fun c => ?_)
    · rw [if_pos c] at h
      exact E_lv [0, 1, 3] rfl (w_X12_best_68 hs16 h)
    · rw [if_neg c] at h
      refine E_aload_n 0 dX12_best_49 rfl rfl ?_
      refine E_getI dX12_best_50 fl_X12_529 rfl (sk_124 hs16) (sn hs16 (by decide)) ?_
      refine E_iload_n 2 dX12_best_53 rfl rfl ?_
      refine E_icmp_ne 121 dX12_best_54 (by decide) (fun c => ?_) (fun c => ?_)
      · rw [if_neg c] at h
        exact E_lv [0, 1, 2, 3] rfl (w_X12_best_121 hs16 h)
      · rw [if_pos c] at h
        refine E_aload_n 0 dX12_best_57 rfl rfl ?_
        refine E_getI dX12_best_58 fl_X12_532 rfl (sk_124 hs16) (sn hs16 (by decide)) ?_
        refine E_aload_n 0 dX12_best_61 rfl rfl ?_
        refine E_getI dX12_best_62 fl_X12_544 rfl (sk_124 hs16) (sn hs16 (by decide)) ?_
        refine E_icmp_ge 121 dX12_best_65 (by decide) (fun c => ?_) (fun c => ?_)
        · rw [if_pos c] at h
          exact E_lv [0, 1, 2, 3] rfl (w_X12_best_121 hs16 h)
        · rw [if_neg c] at h
          exact E_lv [0, 1, 3] rfl (w_X12_best_68 hs16 h)
def W_X12_best_84 (X : Sx) (l : Launch) (D : Nat) (x1 : Int32) (x2 : Int32) (x3 : Int32) (x4 : Int32) (σ : AH) (r : Option Value) (σ' : AH) : Prop := (if (gI σ 124 48) ≤ x4 then W_X12_best_121 X l D x1 x2 x3 σ r σ' else vp_in x4 6 ∧ E X l m_X12_best D 84 [(0, .ref 124), (1, .int x1), (2, .int x2), (3, .int x3), (4, .int (x4 + 1))] [] (sI σ 153 x4.toNatClampNeg ((x3 >>> (((2 : Int32) * (((gI σ 124 48) - (1 : Int32)) - x4)) &&& 31)) &&& (3 : Int32))) r σ')
set_option maxRecDepth 100000 in
theorem w_X12_best_84 {X : Sx} {l : Launch} {D : Nat} {x1 : Int32} {x2 : Int32} {x3 : Int32} {x4 : Int32} {σ : AH} {r : Option Value} {σ' : AH} (hs : Sh σ) (h : W_X12_best_84 X l D x1 x2 x3 x4 σ r σ') : E X l m_X12_best D 84 [(0, .ref 124), (1, .int x1), (2, .int x2), (3, .int x3), (4, .int x4)] [] σ r σ' := by
  unfold W_X12_best_84 at h
  refine E_iload 4 dX12_best_84 rfl ?_
  refine E_aload_n 0 dX12_best_86 rfl rfl ?_
  refine E_getI dX12_best_87 fl_X12_170 rfl (sk_124 hs) (sn hs (by decide)) ?_
  refine E_icmp_ge 121 dX12_best_90 (by decide) (fun c => ?_) (fun c => ?_)
  · rw [if_pos c] at h
    exact E_lv [0, 1, 2, 3] rfl (w_X12_best_121 hs h)
  · rw [if_neg c] at h
    refine E_aload_n 0 dX12_best_93 rfl rfl ?_
    refine E_getR 153 dX12_best_94 fl_X12_106 rfl (sk_124 hs) (sn hs (by decide)) (sr_124_52 hs) ?_
    refine E_iload 4 dX12_best_97 rfl ?_
    refine E_iload_n 3 dX12_best_99 rfl rfl ?_
    refine E_iconst (2 : Int32) dX12_best_100 (by decide) ?_
    refine E_aload_n 0 dX12_best_101 rfl rfl ?_
    refine E_getI dX12_best_102 fl_X12_170 rfl (sk_124 hs) (sn hs (by decide)) ?_
    refine E_iconst (1 : Int32) dX12_best_105 (by decide) ?_
    refine E_isub dX12_best_106 ?_
    refine E_iload 4 dX12_best_107 rfl ?_
    refine E_isub dX12_best_109 ?_
    refine E_imul dX12_best_110 ?_
    refine E_ishr dX12_best_111 ?_
    refine E_iconst (3 : Int32) dX12_best_112 (by decide) ?_
    refine E_iand dX12_best_113 ?_
    obtain ⟨g17, h⟩ := h
    refine E_iast2 (x4.toNatClampNeg) dX12_best_114 (sk_153 hs) (sn hs (by decide)) (Or.inl (by decide)) g17 rfl ?_
    refine E_iinc 4 (x4 + 1) [(4, .int (x4 + 1)), (0, .ref 124), (1, .int x1), (2, .int x2), (3, .int x3)] dX12_best_115 rfl (congrArg (x4 + ·) (by decide : Int32.ofInt 1 = 1)) (by decide) rfl ?_
    refine E_goto 84 dX12_best_118 (by decide) ?_
    exact E_lv [1, 2, 3, 4, 0] rfl h
def W_X12_chosen_0 (X : Sx) (l : Launch) (D : Nat) (x1 : Int32) (σ : AH) (r : Option Value) (σ' : AH) : Prop := (if (gI (sI σ 124 0 (0 : Int32)) 124 50) = 0 then (r = some (.int (-1 : Int32)) ∧ σ' = (sI σ 124 0 (0 : Int32))) else (if x1 = (-1 : Int32) then (r = some (.int (gI (sI σ 124 0 (0 : Int32)) 124 53)) ∧ σ' = (sI σ 124 0 (0 : Int32))) else ∃ d1 : Nat, ∃ v6 : Int32, ∃ σ2 : AH, d1 + 1 ≤ D ∧ Call X l m_X12_in d1 [.long (x1).toInt64, .long (0 : Int64), .long (((gI (sI σ 124 0 (0 : Int32)) 124 51)).toInt64 - (1 : Int64))] (sI σ 124 0 (0 : Int32)) (some (.int v6)) σ2 ∧ (if v6 = 0 then (r = some (.int (-1 : Int32)) ∧ σ' = σ2) else vp_in x1 6 ∧ (r = some (.int (gI σ2 153 x1.toNatClampNeg)) ∧ σ' = σ2))))
set_option maxRecDepth 100000 in
theorem w_X12_chosen_0 {X : Sx} {l : Launch} {D : Nat} {x1 : Int32} {σ : AH} {r : Option Value} {σ' : AH} (hs : Sh σ) (h : W_X12_chosen_0 X l D x1 σ r σ') : E X l m_X12_chosen D 0 [(0, .ref 124), (1, .int x1)] [] σ r σ' := by
  unfold W_X12_chosen_0 at h
  refine E_aload_n 0 dX12_chosen_0 rfl rfl ?_
  refine E_iconst (0 : Int32) dX12_chosen_1 (by decide) ?_
  refine E_putI dX12_chosen_2 fl_X12_145 rfl (Or.inl rfl) (sk_124 hs) (sn hs (by decide)) (Or.inl (by decide)) rfl rfl ?_
  refine E_aload_n 0 dX12_chosen_5 rfl rfl ?_
  refine E_getI dX12_chosen_6 fl_X12_547 rfl (sk_124 hs) (sn hs (by decide)) ?_
  refine E_if_ne 16 dX12_chosen_9 (by decide) (fun c => ?_) (fun c => ?_)
  · rw [if_neg c] at h
    refine E_iload_n 1 dX12_chosen_16 rfl rfl ?_
    refine E_iconst (-1 : Int32) dX12_chosen_17 (by decide) ?_
    refine E_icmp_ne 28 dX12_chosen_18 (by decide) (fun c => ?_) (fun c => ?_)
    · rw [if_neg c] at h
      refine E_iload_n 1 dX12_chosen_28 rfl rfl ?_
      refine E_i2l dX12_chosen_29 ?_
      refine E_lconst (0 : Int64) dX12_chosen_30 (by decide) ?_
      refine E_aload_n 0 dX12_chosen_31 rfl rfl ?_
      refine E_getI dX12_chosen_32 fl_X12_550 rfl (sk_124 hs) (sn hs (by decide)) ?_
      refine E_i2l dX12_chosen_35 ?_
      refine E_lconst (1 : Int64) dX12_chosen_36 (by decide) ?_
      refine E_lsub dX12_chosen_37 ?_
      obtain ⟨d1, v6, σ2, hD3, hC4, h⟩ := h
      have hs5 := hC4.1.2.2.2.1 hs
      refine E_callS (As := [.long (x1).toInt64, .long (0 : Int64), .long (((gI (sI σ 124 0 (0 : Int32)) 124 51)).toInt64 - (1 : Int64))]) (rest := []) (r1 := (some (.int v6))) dX12_chosen_38 ok_X12_in is_X12_in ml_X12_153 hD3 rfl rfl (Nat.le_of_ble_eq_true rfl) (by decide +kernel) hC4 ?_
      refine E_if_eq 53 dX12_chosen_41 (by decide) (fun c => ?_) (fun c => ?_)
      · rw [if_pos c] at h
        refine E_iconst (-1 : Int32) dX12_chosen_53 (by decide) ?_
        obtain ⟨rfl, rfl⟩ := h
        exact E_iret dX12_chosen_54 rfl
      · rw [if_neg c] at h
        refine E_aload_n 0 dX12_chosen_44 rfl rfl ?_
        refine E_getR 153 dX12_chosen_45 fl_X12_106 rfl (sk_124 hs5) (sn hs5 (by decide)) (sr_124_52 hs5) ?_
        refine E_iload_n 1 dX12_chosen_48 rfl rfl ?_
        obtain ⟨g7, h⟩ := h
        refine E_iald2 (x1.toNatClampNeg) dX12_chosen_49 (sk_153 hs5) (sn hs5 (by decide)) g7 rfl ?_
        refine E_goto 54 dX12_chosen_50 (by decide) ?_
        obtain ⟨rfl, rfl⟩ := h
        exact E_iret dX12_chosen_54 rfl
    · rw [if_pos c] at h
      refine E_aload_n 0 dX12_chosen_21 rfl rfl ?_
      refine E_getI dX12_chosen_22 fl_X12_544 rfl (sk_124 hs) (sn hs (by decide)) ?_
      refine E_goto 54 dX12_chosen_25 (by decide) ?_
      obtain ⟨rfl, rfl⟩ := h
      exact E_iret dX12_chosen_54 rfl
  · rw [if_pos c] at h
    refine E_iconst (-1 : Int32) dX12_chosen_12 (by decide) ?_
    refine E_goto 54 dX12_chosen_13 (by decide) ?_
    obtain ⟨rfl, rfl⟩ := h
    exact E_iret dX12_chosen_54 rfl
def W_X12_bound_0 (X : Sx) (l : Launch) (D : Nat) (x1 : Int32) (σ : AH) (r : Option Value) (σ' : AH) : Prop := ∃ d1 : Nat, ∃ v6 : Int32, ∃ σ2 : AH, d1 + 1 ≤ D ∧ Call X l m_X12_isQuarter d1 [.int x1] (sI σ 124 0 (0 : Int32)) (some (.int v6)) σ2 ∧ (if v6 = 0 then (r = some (.int (-1 : Int32)) ∧ σ' = σ2) else ∃ d7 : Nat, ∃ σ8 : AH, d7 + 1 ≤ D ∧ Call X l m_X12_goAhead d7 [.ref 124, .int x1] σ2 none σ8 ∧ E X l m_X12_bound D 23 [(0, .ref 124), (1, .int x1), (2, .int (0 : Int32)), (3, .int (0 : Int32))] [] σ8 r σ')
set_option maxRecDepth 100000 in
theorem w_X12_bound_0 {X : Sx} {l : Launch} {D : Nat} {x1 : Int32} {σ : AH} {r : Option Value} {σ' : AH} (hs : Sh σ) (h : W_X12_bound_0 X l D x1 σ r σ') : E X l m_X12_bound D 0 [(0, .ref 124), (1, .int x1)] [] σ r σ' := by
  unfold W_X12_bound_0 at h
  refine E_aload_n 0 dX12_bound_0 rfl rfl ?_
  refine E_iconst (0 : Int32) dX12_bound_1 (by decide) ?_
  refine E_putI dX12_bound_2 fl_X12_145 rfl (Or.inl rfl) (sk_124 hs) (sn hs (by decide)) (Or.inl (by decide)) rfl rfl ?_
  refine E_iload_n 1 dX12_bound_5 rfl rfl ?_
  obtain ⟨d1, v6, σ2, hD3, hC4, h⟩ := h
  have hs5 := hC4.1.2.2.2.1 hs
  refine E_callS (As := [.int x1]) (rest := []) (r1 := (some (.int v6))) dX12_bound_6 ok_X12_isQuarter is_X12_isQuarter ml_X12_535 hD3 rfl rfl (Nat.le_of_ble_eq_true rfl) (by decide +kernel) hC4 ?_
  refine E_if_ne 14 dX12_bound_9 (by decide) (fun c => ?_) (fun c => ?_)
  · rw [if_neg c] at h
    refine E_aload_n 0 dX12_bound_14 rfl rfl ?_
    refine E_iload_n 1 dX12_bound_15 rfl rfl ?_
    obtain ⟨d7, σ8, hD9, hC10, h⟩ := h
    have hs11 := hC10.1.2.2.2.1 hs5
    refine E_callV (As := [.int x1]) (rest := []) (r1 := none) (b := 124) dX12_bound_16 ok_X12_goAhead in_X12_goAhead se_X12_goAhead ml_X12_538 hD9 rfl rfl (Nat.le_of_ble_eq_true rfl) (sk_124 hs5) (sn hs5 (by decide)) (by decide) rfl (by decide +kernel) hC10 ?_
    refine E_iconst (0 : Int32) dX12_bound_19 (by decide) ?_
    refine E_istore_n [(2, .int (0 : Int32)), (0, .ref 124), (1, .int x1)] dX12_bound_20 rfl (by decide) rfl ?_
    refine E_iconst (0 : Int32) dX12_bound_21 (by decide) ?_
    refine E_istore_n [(3, .int (0 : Int32)), (2, .int (0 : Int32)), (0, .ref 124), (1, .int x1)] dX12_bound_22 rfl (by decide) rfl ?_
    exact E_lv [2, 3, 1, 0] rfl h
  · rw [if_pos c] at h
    refine E_iconst (-1 : Int32) dX12_bound_12 (by decide) ?_
    obtain ⟨rfl, rfl⟩ := h
    exact E_iret dX12_bound_13 rfl
def W_X12_bound_23 (X : Sx) (l : Launch) (D : Nat) (x1 : Int32) (x2 : Int32) (x3 : Int32) (σ : AH) (r : Option Value) (σ' : AH) : Prop := (if (gI σ 124 48) ≤ x3 then (r = some (.int x2) ∧ σ' = σ) else E X l m_X12_bound D 37 [(0, .ref 124), (1, .int x1), (2, .int x2), (3, .int x3), (4, .int (0 : Int32)), (5, .int (1 : Int32))] [] σ r σ')
set_option maxRecDepth 100000 in
theorem w_X12_bound_23 {X : Sx} {l : Launch} {D : Nat} {x1 : Int32} {x2 : Int32} {x3 : Int32} {σ : AH} {r : Option Value} {σ' : AH} (hs : Sh σ) (h : W_X12_bound_23 X l D x1 x2 x3 σ r σ') : E X l m_X12_bound D 23 [(0, .ref 124), (1, .int x1), (2, .int x2), (3, .int x3)] [] σ r σ' := by
  unfold W_X12_bound_23 at h
  refine E_iload_n 3 dX12_bound_23 rfl rfl ?_
  refine E_aload_n 0 dX12_bound_24 rfl rfl ?_
  refine E_getI dX12_bound_25 fl_X12_170 rfl (sk_124 hs) (sn hs (by decide)) ?_
  refine E_icmp_ge 114 dX12_bound_28 (by decide) (fun c => ?_) (fun c => ?_)
  · rw [if_pos c] at h
    refine E_iload_n 2 dX12_bound_114 rfl rfl ?_
    obtain ⟨rfl, rfl⟩ := h
    exact E_iret dX12_bound_115 rfl
  · rw [if_neg c] at h
    refine E_iconst (0 : Int32) dX12_bound_31 (by decide) ?_
    refine E_istore [(4, .int (0 : Int32)), (0, .ref 124), (1, .int x1), (2, .int x2), (3, .int x3)] dX12_bound_32 (by decide) rfl ?_
    refine E_iconst (1 : Int32) dX12_bound_34 (by decide) ?_
    refine E_istore [(5, .int (1 : Int32)), (4, .int (0 : Int32)), (0, .ref 124), (1, .int x1), (2, .int x2), (3, .int x3)] dX12_bound_35 (by decide) rfl ?_
    exact E_lv [2, 3, 4, 5, 1, 0] rfl h
def W_X12_bound_106 (X : Sx) (l : Launch) (D : Nat) (x1 : Int32) (x3 : Int32) (y0 : Int32) (y1 : Int32) (σ : AH) (r : Option Value) (σ' : AH) : Prop := E X l m_X12_bound D 23 [(0, .ref 124), (1, .int x1), (2, .int (y1 + y0)), (3, .int (x3 + 1))] [] σ r σ'
set_option maxRecDepth 100000 in
theorem w_X12_bound_106 {X : Sx} {l : Launch} {D : Nat} {x1 : Int32} {x3 : Int32} {y0 : Int32} {y1 : Int32} {σ : AH} {r : Option Value} {σ' : AH} (hs : Sh σ) (h : W_X12_bound_106 X l D x1 x3 y0 y1 σ r σ') : E X l m_X12_bound D 106 [(0, .ref 124), (1, .int x1), (3, .int x3)] [.int y0, .int y1] σ r σ' := by
  unfold W_X12_bound_106 at h
  refine E_iadd dX12_bound_106 ?_
  refine E_istore_n [(2, .int (y1 + y0)), (0, .ref 124), (1, .int x1), (3, .int x3)] dX12_bound_107 rfl (by decide) rfl ?_
  refine E_iinc 3 (x3 + 1) [(3, .int (x3 + 1)), (2, .int (y1 + y0)), (0, .ref 124), (1, .int x1)] dX12_bound_108 rfl (congrArg (x3 + ·) (by decide : Int32.ofInt 1 = 1)) (by decide) rfl ?_
  refine E_goto 23 dX12_bound_111 (by decide) ?_
  exact E_lv [2, 3, 1, 0] rfl h
def W_X12_bound_78 (X : Sx) (l : Launch) (D : Nat) (x1 : Int32) (x2 : Int32) (x3 : Int32) (x5 : Int32) (y0 : Int32) (σ : AH) (r : Option Value) (σ' : AH) : Prop := E X l m_X12_bound D 37 [(0, .ref 124), (1, .int x1), (2, .int x2), (3, .int x3), (4, .int y0), (5, .int (x5 + 1))] [] σ r σ'
set_option maxRecDepth 100000 in
theorem w_X12_bound_78 {X : Sx} {l : Launch} {D : Nat} {x1 : Int32} {x2 : Int32} {x3 : Int32} {x5 : Int32} {y0 : Int32} {σ : AH} {r : Option Value} {σ' : AH} (hs : Sh σ) (h : W_X12_bound_78 X l D x1 x2 x3 x5 y0 σ r σ') : E X l m_X12_bound D 78 [(0, .ref 124), (1, .int x1), (2, .int x2), (3, .int x3), (5, .int x5)] [.int y0] σ r σ' := by
  unfold W_X12_bound_78 at h
  refine E_istore [(4, .int y0), (0, .ref 124), (1, .int x1), (2, .int x2), (3, .int x3), (5, .int x5)] dX12_bound_78 (by decide) rfl ?_
  refine E_iinc 5 (x5 + 1) [(5, .int (x5 + 1)), (4, .int y0), (0, .ref 124), (1, .int x1), (2, .int x2), (3, .int x3)] dX12_bound_80 rfl (congrArg (x5 + ·) (by decide : Int32.ofInt 1 = 1)) (by decide) rfl ?_
  refine E_goto 37 dX12_bound_83 (by decide) ?_
  exact E_lv [2, 3, 4, 5, 1, 0] rfl h
def W_X12_bound_73 (X : Sx) (l : Launch) (D : Nat) (x1 : Int32) (x2 : Int32) (x3 : Int32) (x5 : Int32) (σ : AH) (r : Option Value) (σ' : AH) : Prop := W_X12_bound_78 X l D x1 x2 x3 x5 (1 : Int32) σ r σ'
set_option maxRecDepth 100000 in
theorem w_X12_bound_73 {X : Sx} {l : Launch} {D : Nat} {x1 : Int32} {x2 : Int32} {x3 : Int32} {x5 : Int32} {σ : AH} {r : Option Value} {σ' : AH} (hs : Sh σ) (h : W_X12_bound_73 X l D x1 x2 x3 x5 σ r σ') : E X l m_X12_bound D 73 [(0, .ref 124), (1, .int x1), (2, .int x2), (3, .int x3), (5, .int x5)] [] σ r σ' := by
  unfold W_X12_bound_73 at h
  refine E_iconst (1 : Int32) dX12_bound_73 (by decide) ?_
  refine E_goto 78 dX12_bound_74 (by decide) ?_
  exact E_lv [0, 1, 2, 3, 4] rfl (w_X12_bound_78 hs h)
def W_X12_bound_37 (X : Sx) (l : Launch) (D : Nat) (x1 : Int32) (x2 : Int32) (x3 : Int32) (x4 : Int32) (x5 : Int32) (σ : AH) (r : Option Value) (σ' : AH) : Prop := (if (4 : Int32) ≤ x5 then (if x4 = 0 then W_X12_bound_106 X l D x1 x3 (0 : Int32) x2 σ r σ' else vp_in x3 6 ∧ ∃ d13 : Nat, ∃ v18 : Int32, ∃ σ14 : AH, d13 + 1 ≤ D ∧ Call X l m_X12_roomsOf d13 [.ref 124, .int (gI σ 152 x3.toNatClampNeg)] σ (some (.int v18)) σ14 ∧ W_X12_bound_106 X l D x1 x3 v18 x2 σ14 r σ') else ∃ d19 : Nat, ∃ σ20 : AH, d19 + 1 ≤ D ∧ Call X l m_X12_tryRow d19 [.ref 124, .int x1, .int (x5 <<< (((2 : Int32) * (((gI σ 124 48) - (1 : Int32)) - x3)) &&& 31))] σ none σ20 ∧ (if x4 = 0 then (if (gI σ20 124 60) ≤ 0 then W_X12_bound_78 X l D x1 x2 x3 x5 (0 : Int32) σ20 r σ' else W_X12_bound_73 X l D x1 x2 x3 x5 σ20 r σ') else W_X12_bound_73 X l D x1 x2 x3 x5 σ20 r σ'))
set_option maxRecDepth 100000 in
theorem w_X12_bound_37 {X : Sx} {l : Launch} {D : Nat} {x1 : Int32} {x2 : Int32} {x3 : Int32} {x4 : Int32} {x5 : Int32} {σ : AH} {r : Option Value} {σ' : AH} (hs : Sh σ) (h : W_X12_bound_37 X l D x1 x2 x3 x4 x5 σ r σ') : E X l m_X12_bound D 37 [(0, .ref 124), (1, .int x1), (2, .int x2), (3, .int x3), (4, .int x4), (5, .int x5)] [] σ r σ' := by
  unfold W_X12_bound_37 at h
  refine E_iload 5 dX12_bound_37 rfl ?_
  refine E_iconst (4 : Int32) dX12_bound_39 (by decide) ?_
  refine E_icmp_ge 86 dX12_bound_40 (by decide) (fun c => ?_) (fun c => ?_)
  · rw [if_pos c] at h
    refine E_iload_n 2 dX12_bound_86 rfl rfl ?_
    refine E_iload 4 dX12_bound_87 rfl ?_
    refine E_if_eq 105 dX12_bound_89 (by decide) (fun c => ?_) (fun c => ?_)
    · rw [if_pos c] at h
      refine E_iconst (0 : Int32) dX12_bound_105 (by decide) ?_
      exact E_lv [0, 1, 3] rfl (w_X12_bound_106 hs h)
    · rw [if_neg c] at h
      refine E_aload_n 0 dX12_bound_92 rfl rfl ?_
      refine E_aload_n 0 dX12_bound_93 rfl rfl ?_
      refine E_getR 152 dX12_bound_94 fl_X12_103 rfl (sk_124 hs) (sn hs (by decide)) (sr_124_49 hs) ?_
      refine E_iload_n 3 dX12_bound_97 rfl rfl ?_
      obtain ⟨g12, h⟩ := h
      refine E_iald2 (x3.toNatClampNeg) dX12_bound_98 (sk_152 hs) (sn hs (by decide)) g12 rfl ?_
      obtain ⟨d13, v18, σ14, hD15, hC16, h⟩ := h
      have hs17 := hC16.1.2.2.2.1 hs
      refine E_callV (As := [.int (gI σ 152 x3.toNatClampNeg)]) (rest := [.int x2]) (r1 := (some (.int v18))) (b := 124) dX12_bound_99 ok_X12_roomsOf in_X12_roomsOf se_X12_roomsOf ml_X12_504 hD15 rfl rfl (Nat.le_of_ble_eq_true rfl) (sk_124 hs) (sn hs (by decide)) (by decide) rfl (by decide +kernel) hC16 ?_
      refine E_goto 106 dX12_bound_102 (by decide) ?_
      exact E_lv [0, 1, 3] rfl (w_X12_bound_106 hs17 h)
  · rw [if_neg c] at h
    refine E_aload_n 0 dX12_bound_43 rfl rfl ?_
    refine E_iload_n 1 dX12_bound_44 rfl rfl ?_
    refine E_iload 5 dX12_bound_45 rfl ?_
    refine E_iconst (2 : Int32) dX12_bound_47 (by decide) ?_
    refine E_aload_n 0 dX12_bound_48 rfl rfl ?_
    refine E_getI dX12_bound_49 fl_X12_170 rfl (sk_124 hs) (sn hs (by decide)) ?_
    refine E_iconst (1 : Int32) dX12_bound_52 (by decide) ?_
    refine E_isub dX12_bound_53 ?_
    refine E_iload_n 3 dX12_bound_54 rfl rfl ?_
    refine E_isub dX12_bound_55 ?_
    refine E_imul dX12_bound_56 ?_
    refine E_ishl dX12_bound_57 ?_
    obtain ⟨d19, σ20, hD21, hC22, h⟩ := h
    have hs23 := hC22.1.2.2.2.1 hs
    refine E_callV (As := [.int x1, .int (x5 <<< (((2 : Int32) * (((gI σ 124 48) - (1 : Int32)) - x3)) &&& 31))]) (rest := []) (r1 := none) (b := 124) dX12_bound_58 ok_X12_tryRow in_X12_tryRow se_X12_tryRow ml_X12_541 hD21 rfl rfl (Nat.le_of_ble_eq_true rfl) (sk_124 hs) (sn hs (by decide)) (by decide) rfl (by decide +kernel) hC22 ?_
    refine E_iload 4 dX12_bound_61 rfl ?_
    refine E_if_ne 73 dX12_bound_63 (by decide) (fun c => ?_) (fun c => ?_)
    · rw [if_neg c] at h
      exact E_lv [0, 1, 2, 3, 5] rfl (w_X12_bound_73 hs23 h)
    · rw [if_pos c] at h
      refine E_aload_n 0 dX12_bound_66 rfl rfl ?_
      refine E_getI dX12_bound_67 fl_X12_529 rfl (sk_124 hs23) (sn hs23 (by decide)) ?_
      refine E_if_le 77 dX12_bound_70 (by decide) (fun c => ?_) (fun c => ?_)
      · rw [if_pos c] at h
        refine E_iconst (0 : Int32) dX12_bound_77 (by decide) ?_
        exact E_lv [0, 1, 2, 3, 5] rfl (w_X12_bound_78 hs23 h)
      · rw [if_neg c] at h
        exact E_lv [0, 1, 2, 3, 5] rfl (w_X12_bound_73 hs23 h)
def W_X12_judge_0 (X : Sx) (l : Launch) (D : Nat) (x1 : Int32) (x2 : Int32) (σ : AH) (r : Option Value) (σ' : AH) : Prop := ∃ d1 : Nat, ∃ v6 : Int32, ∃ σ2 : AH, d1 + 1 ≤ D ∧ Call X l m_X12_isQuarter d1 [.int x1] (sI σ 124 0 (0 : Int32)) (some (.int v6)) σ2 ∧ (if v6 = 0 then (r = some (.int (-1 : Int32)) ∧ σ' = σ2) else ∃ d7 : Nat, ∃ v12 : Int32, ∃ σ8 : AH, d7 + 1 ≤ D ∧ Call X l m_X12_in d7 [.long (x2).toInt64, .long (0 : Int64), .long (((1 : Int64) <<< ((((2 : Int32) * (gI σ2 124 48))).toInt64 &&& 63)) - (1 : Int64))] σ2 (some (.int v12)) σ8 ∧ (if v12 = 0 then (r = some (.int (-1 : Int32)) ∧ σ' = σ8) else ∃ d13 : Nat, ∃ σ14 : AH, d13 + 1 ≤ D ∧ Call X l m_X12_goAhead d13 [.ref 124, .int x1] σ8 none σ14 ∧ E X l m_X12_judge D 43 [(0, .ref 124), (1, .int x1), (2, .int x2), (3, .int (0 : Int32)), (4, .int (0 : Int32))] [] σ14 r σ'))
set_option maxRecDepth 100000 in
theorem w_X12_judge_0 {X : Sx} {l : Launch} {D : Nat} {x1 : Int32} {x2 : Int32} {σ : AH} {r : Option Value} {σ' : AH} (hs : Sh σ) (h : W_X12_judge_0 X l D x1 x2 σ r σ') : E X l m_X12_judge D 0 [(0, .ref 124), (1, .int x1), (2, .int x2)] [] σ r σ' := by
  unfold W_X12_judge_0 at h
  refine E_aload_n 0 dX12_judge_0 rfl rfl ?_
  refine E_iconst (0 : Int32) dX12_judge_1 (by decide) ?_
  refine E_putI dX12_judge_2 fl_X12_145 rfl (Or.inl rfl) (sk_124 hs) (sn hs (by decide)) (Or.inl (by decide)) rfl rfl ?_
  refine E_iload_n 1 dX12_judge_5 rfl rfl ?_
  obtain ⟨d1, v6, σ2, hD3, hC4, h⟩ := h
  have hs5 := hC4.1.2.2.2.1 hs
  refine E_callS (As := [.int x1]) (rest := []) (r1 := (some (.int v6))) dX12_judge_6 ok_X12_isQuarter is_X12_isQuarter ml_X12_535 hD3 rfl rfl (Nat.le_of_ble_eq_true rfl) (by decide +kernel) hC4 ?_
  refine E_if_eq 31 dX12_judge_9 (by decide) (fun c => ?_) (fun c => ?_)
  · rw [if_pos c] at h
    refine E_iconst (-1 : Int32) dX12_judge_31 (by decide) ?_
    obtain ⟨rfl, rfl⟩ := h
    exact E_iret dX12_judge_32 rfl
  · rw [if_neg c] at h
    refine E_iload_n 2 dX12_judge_12 rfl rfl ?_
    refine E_i2l dX12_judge_13 ?_
    refine E_lconst (0 : Int64) dX12_judge_14 (by decide) ?_
    refine E_lconst (1 : Int64) dX12_judge_15 (by decide) ?_
    refine E_iconst (2 : Int32) dX12_judge_16 (by decide) ?_
    refine E_aload_n 0 dX12_judge_17 rfl rfl ?_
    refine E_getI dX12_judge_18 fl_X12_170 rfl (sk_124 hs5) (sn hs5 (by decide)) ?_
    refine E_imul dX12_judge_21 ?_
    refine E_lshl dX12_judge_22 ?_
    refine E_lconst (1 : Int64) dX12_judge_23 (by decide) ?_
    refine E_lsub dX12_judge_24 ?_
    obtain ⟨d7, v12, σ8, hD9, hC10, h⟩ := h
    have hs11 := hC10.1.2.2.2.1 hs5
    refine E_callS (As := [.long (x2).toInt64, .long (0 : Int64), .long (((1 : Int64) <<< ((((2 : Int32) * (gI σ2 124 48))).toInt64 &&& 63)) - (1 : Int64))]) (rest := []) (r1 := (some (.int v12))) dX12_judge_25 ok_X12_in is_X12_in ml_X12_153 hD9 rfl rfl (Nat.le_of_ble_eq_true rfl) (by decide +kernel) hC10 ?_
    refine E_if_ne 33 dX12_judge_28 (by decide) (fun c => ?_) (fun c => ?_)
    · rw [if_neg c] at h
      refine E_aload_n 0 dX12_judge_33 rfl rfl ?_
      refine E_iload_n 1 dX12_judge_34 rfl rfl ?_
      obtain ⟨d13, σ14, hD15, hC16, h⟩ := h
      have hs17 := hC16.1.2.2.2.1 hs11
      refine E_callV (As := [.int x1]) (rest := []) (r1 := none) (b := 124) dX12_judge_35 ok_X12_goAhead in_X12_goAhead se_X12_goAhead ml_X12_538 hD15 rfl rfl (Nat.le_of_ble_eq_true rfl) (sk_124 hs11) (sn hs11 (by decide)) (by decide) rfl (by decide +kernel) hC16 ?_
      refine E_iconst (0 : Int32) dX12_judge_38 (by decide) ?_
      refine E_istore_n [(3, .int (0 : Int32)), (0, .ref 124), (1, .int x1), (2, .int x2)] dX12_judge_39 rfl (by decide) rfl ?_
      refine E_iconst (0 : Int32) dX12_judge_40 (by decide) ?_
      refine E_istore [(4, .int (0 : Int32)), (3, .int (0 : Int32)), (0, .ref 124), (1, .int x1), (2, .int x2)] dX12_judge_41 (by decide) rfl ?_
      exact E_lv [2, 3, 4, 1, 0] rfl h
    · rw [if_pos c] at h
      refine E_iconst (-1 : Int32) dX12_judge_31 (by decide) ?_
      obtain ⟨rfl, rfl⟩ := h
      exact E_iret dX12_judge_32 rfl
def W_X12_judge_43 (X : Sx) (l : Launch) (D : Nat) (x1 : Int32) (x2 : Int32) (x3 : Int32) (x4 : Int32) (σ : AH) (r : Option Value) (σ' : AH) : Prop := (if (gI σ 124 48) ≤ x4 then ∃ d18 : Nat, ∃ σ19 : AH, d18 + 1 ≤ D ∧ Call X l m_X12_tryRow d18 [.ref 124, .int x1, .int x3] σ none σ19 ∧ (r = some (.int (((10 : Int32) * (gI σ19 124 60)) + (gI σ19 124 61))) ∧ σ' = σ19) else E X l m_X12_judge D 43 [(0, .ref 124), (1, .int x1), (2, .int x2), (3, .int ((x3 <<< ((2 : Int32) &&& 31)) ||| ((x2 >>> (((2 : Int32) * x4) &&& 31)) &&& (3 : Int32)))), (4, .int (x4 + 1))] [] σ r σ')
set_option maxRecDepth 100000 in
theorem w_X12_judge_43 {X : Sx} {l : Launch} {D : Nat} {x1 : Int32} {x2 : Int32} {x3 : Int32} {x4 : Int32} {σ : AH} {r : Option Value} {σ' : AH} (hs : Sh σ) (h : W_X12_judge_43 X l D x1 x2 x3 x4 σ r σ') : E X l m_X12_judge D 43 [(0, .ref 124), (1, .int x1), (2, .int x2), (3, .int x3), (4, .int x4)] [] σ r σ' := by
  unfold W_X12_judge_43 at h
  refine E_iload 4 dX12_judge_43 rfl ?_
  refine E_aload_n 0 dX12_judge_45 rfl rfl ?_
  refine E_getI dX12_judge_46 fl_X12_170 rfl (sk_124 hs) (sn hs (by decide)) ?_
  refine E_icmp_ge 71 dX12_judge_49 (by decide) (fun c => ?_) (fun c => ?_)
  · rw [if_pos c] at h
    refine E_aload_n 0 dX12_judge_71 rfl rfl ?_
    refine E_iload_n 1 dX12_judge_72 rfl rfl ?_
    refine E_iload_n 3 dX12_judge_73 rfl rfl ?_
    obtain ⟨d18, σ19, hD20, hC21, h⟩ := h
    have hs22 := hC21.1.2.2.2.1 hs
    refine E_callV (As := [.int x1, .int x3]) (rest := []) (r1 := none) (b := 124) dX12_judge_74 ok_X12_tryRow in_X12_tryRow se_X12_tryRow ml_X12_541 hD20 rfl rfl (Nat.le_of_ble_eq_true rfl) (sk_124 hs) (sn hs (by decide)) (by decide) rfl (by decide +kernel) hC21 ?_
    refine E_bipush (10 : Int32) dX12_judge_77 (by decide) ?_
    refine E_aload_n 0 dX12_judge_79 rfl rfl ?_
    refine E_getI dX12_judge_80 fl_X12_529 rfl (sk_124 hs22) (sn hs22 (by decide)) ?_
    refine E_imul dX12_judge_83 ?_
    refine E_aload_n 0 dX12_judge_84 rfl rfl ?_
    refine E_getI dX12_judge_85 fl_X12_532 rfl (sk_124 hs22) (sn hs22 (by decide)) ?_
    refine E_iadd dX12_judge_88 ?_
    obtain ⟨rfl, rfl⟩ := h
    exact E_iret dX12_judge_89 rfl
  · rw [if_neg c] at h
    refine E_iload_n 3 dX12_judge_52 rfl rfl ?_
    refine E_iconst (2 : Int32) dX12_judge_53 (by decide) ?_
    refine E_ishl dX12_judge_54 ?_
    refine E_iload_n 2 dX12_judge_55 rfl rfl ?_
    refine E_iconst (2 : Int32) dX12_judge_56 (by decide) ?_
    refine E_iload 4 dX12_judge_57 rfl ?_
    refine E_imul dX12_judge_59 ?_
    refine E_ishr dX12_judge_60 ?_
    refine E_iconst (3 : Int32) dX12_judge_61 (by decide) ?_
    refine E_iand dX12_judge_62 ?_
    refine E_ior dX12_judge_63 ?_
    refine E_istore_n [(3, .int ((x3 <<< ((2 : Int32) &&& 31)) ||| ((x2 >>> (((2 : Int32) * x4) &&& 31)) &&& (3 : Int32)))), (0, .ref 124), (1, .int x1), (2, .int x2), (4, .int x4)] dX12_judge_64 rfl (by decide) rfl ?_
    refine E_iinc 4 (x4 + 1) [(4, .int (x4 + 1)), (3, .int ((x3 <<< ((2 : Int32) &&& 31)) ||| ((x2 >>> (((2 : Int32) * x4) &&& 31)) &&& (3 : Int32)))), (0, .ref 124), (1, .int x1), (2, .int x2)] dX12_judge_65 rfl (congrArg (x4 + ·) (by decide : Int32.ofInt 1 = 1)) (by decide) rfl ?_
    refine E_goto 43 dX12_judge_68 (by decide) ?_
    exact E_lv [2, 3, 4, 1, 0] rfl h
def W_X12_entry_102 (X : Sx) (l : Launch) (D : Nat) (x1 : Int32) (x2 : Int32) (x3 : Int32) (x4 : Int32) (x5 : Int32) (x6 : Int32) (x7 : Int32) (σ : AH) (r : Option Value) (σ' : AH) : Prop := ∃ d49 : Nat, ∃ σ50 : AH, d49 + 1 ≤ D ∧ Call X l m_X12_addFour d49 [.ref 124, .int ((23832 : Int32) + ((10 : Int32) * (gI σ 125 6))), .int x1, .int x2, .int x3, .int x4] σ none σ50 ∧ ∃ d54 : Nat, ∃ σ55 : AH, d54 + 1 ≤ D ∧ Call X l m_X12_addFour d54 [.ref 124, .int (((23832 : Int32) + ((10 : Int32) * (gI σ 125 6))) + (4 : Int32)), .int x5, .int x6, .int x7, .int (-1 : Int32)] σ50 none σ55 ∧ vp_in (((23832 : Int32) + ((10 : Int32) * (gI σ 125 6))) + (8 : Int32)) 269832 ∧ vp_in (((23832 : Int32) + ((10 : Int32) * (gI σ 125 6))) + (9 : Int32)) 269832 ∧ (∀ τ61 : AH, τ61 = (sI (sI σ55 125 ((((23832 : Int32) + ((10 : Int32) * (gI σ 125 6))) + (8 : Int32)).toNatClampNeg) (-1 : Int32)) 125 ((((23832 : Int32) + ((10 : Int32) * (gI σ 125 6))) + (9 : Int32)).toNatClampNeg) (-1 : Int32)) → ∃ d64 : Nat, ∃ v69 : Int32, ∃ σ65 : AH, d64 + 1 ≤ D ∧ Call X l m_X12_told d64 [.ref 124, .int ((gI (sI τ61 125 6 ((gI τ61 125 6) + (1 : Int32))) 125 6) - (1 : Int32))] (sI τ61 125 6 ((gI τ61 125 6) + (1 : Int32))) (some (.int v69)) σ65 ∧ (r = some (.int v69) ∧ σ' = σ65))
set_option maxRecDepth 100000 in
theorem w_X12_entry_102 {X : Sx} {l : Launch} {D : Nat} {x1 : Int32} {x2 : Int32} {x3 : Int32} {x4 : Int32} {x5 : Int32} {x6 : Int32} {x7 : Int32} {σ : AH} {r : Option Value} {σ' : AH} (hs : Sh σ) (h : W_X12_entry_102 X l D x1 x2 x3 x4 x5 x6 x7 σ r σ') : E X l m_X12_entry D 102 [(0, .ref 124), (1, .int x1), (2, .int x2), (3, .int x3), (4, .int x4), (5, .int x5), (6, .int x6), (7, .int x7)] [] σ r σ' := by
  unfold W_X12_entry_102 at h
  refine E_sipush (23832 : Int32) dX12_entry_102 (by decide) ?_
  refine E_bipush (10 : Int32) dX12_entry_105 (by decide) ?_
  refine E_aload_n 0 dX12_entry_107 rfl rfl ?_
  refine E_getR 125 dX12_entry_108 fl_X12_8 rfl (sk_124 hs) (sn hs (by decide)) (sr_124_2 hs) ?_
  refine E_bipush (6 : Int32) dX12_entry_111 (by decide) ?_
  refine E_iald2 6 dX12_entry_113 (sk_125 hs) (sn hs (by decide)) (vp_lit (by decide)) (by decide) ?_
  refine E_imul dX12_entry_114 ?_
  refine E_iadd dX12_entry_115 ?_
  refine E_istore [(8, .int ((23832 : Int32) + ((10 : Int32) * (gI σ 125 6)))), (0, .ref 124), (1, .int x1), (2, .int x2), (3, .int x3), (4, .int x4), (5, .int x5), (6, .int x6), (7, .int x7)] dX12_entry_116 (by decide) rfl ?_
  refine E_aload_n 1 dX12_entry_118 rfl rfl ?_
  refine E_iload 0 dX12_entry_119 rfl ?_
  refine E_iload_n 2 dX12_entry_121 rfl rfl ?_
  refine E_iload_n 3 dX12_entry_122 rfl rfl ?_
  refine E_iload_n 4 dX12_entry_123 rfl rfl ?_
  refine E_iload 5 dX12_entry_124 rfl ?_
  obtain ⟨d49, σ50, hD51, hC52, h⟩ := h
  have hs53 := hC52.1.2.2.2.1 hs
  refine E_callV (As := [.int ((23832 : Int32) + ((10 : Int32) * (gI σ 125 6))), .int x1, .int x2, .int x3, .int x4]) (rest := []) (r1 := none) (b := 124) dX12_entry_126 ok_X12_addFour in_X12_addFour se_X12_addFour ml_X12_458 hD51 rfl rfl (Nat.le_of_ble_eq_true rfl) (sk_124 hs) (sn hs (by decide)) (by decide) rfl (by decide +kernel) hC52 ?_
  refine E_aload_n 1 dX12_entry_129 rfl rfl ?_
  refine E_iload 0 dX12_entry_130 rfl ?_
  refine E_iconst (4 : Int32) dX12_entry_132 (by decide) ?_
  refine E_iadd dX12_entry_133 ?_
  refine E_iload 6 dX12_entry_134 rfl ?_
  refine E_iload 7 dX12_entry_136 rfl ?_
  refine E_iload 8 dX12_entry_138 rfl ?_
  refine E_iconst (-1 : Int32) dX12_entry_140 (by decide) ?_
  obtain ⟨d54, σ55, hD56, hC57, h⟩ := h
  have hs58 := hC57.1.2.2.2.1 hs53
  refine E_callV (As := [.int (((23832 : Int32) + ((10 : Int32) * (gI σ 125 6))) + (4 : Int32)), .int x5, .int x6, .int x7, .int (-1 : Int32)]) (rest := []) (r1 := none) (b := 124) dX12_entry_141 ok_X12_addFour in_X12_addFour se_X12_addFour ml_X12_458 hD56 rfl rfl (Nat.le_of_ble_eq_true rfl) (sk_124 hs53) (sn hs53 (by decide)) (by decide) rfl (by decide +kernel) hC57 ?_
  refine E_aload_n 1 dX12_entry_144 rfl rfl ?_
  refine E_getR 125 dX12_entry_145 fl_X12_8 rfl (sk_124 hs58) (sn hs58 (by decide)) (sr_124_2 hs58) ?_
  refine E_iload 0 dX12_entry_148 rfl ?_
  refine E_bipush (8 : Int32) dX12_entry_150 (by decide) ?_
  refine E_iadd dX12_entry_152 ?_
  refine E_iconst (-1 : Int32) dX12_entry_153 (by decide) ?_
  obtain ⟨g59, h⟩ := h
  refine E_iast2 ((((23832 : Int32) + ((10 : Int32) * (gI σ 125 6))) + (8 : Int32)).toNatClampNeg) dX12_entry_154 (sk_125 hs58) (sn hs58 (by decide)) (Or.inl (by decide)) g59 rfl ?_
  refine E_aload_n 1 dX12_entry_155 rfl rfl ?_
  refine E_getR 125 dX12_entry_156 fl_X12_8 rfl (sk_124 hs58) (sn hs58 (by decide)) (sr_124_2 hs58) ?_
  refine E_iload 0 dX12_entry_159 rfl ?_
  refine E_bipush (9 : Int32) dX12_entry_161 (by decide) ?_
  refine E_iadd dX12_entry_163 ?_
  refine E_iconst (-1 : Int32) dX12_entry_164 (by decide) ?_
  obtain ⟨g60, h⟩ := h
  refine E_iast2 ((((23832 : Int32) + ((10 : Int32) * (gI σ 125 6))) + (9 : Int32)).toNatClampNeg) dX12_entry_165 (sk_125 hs58) (sn hs58 (by decide)) (Or.inl (by decide)) g60 rfl ?_
  obtain ⟨τ61, e62⟩ : ∃ τ : AH, τ = (sI (sI σ55 125 ((((23832 : Int32) + ((10 : Int32) * (gI σ 125 6))) + (8 : Int32)).toNatClampNeg) (-1 : Int32)) 125 ((((23832 : Int32) + ((10 : Int32) * (gI σ 125 6))) + (9 : Int32)).toNatClampNeg) (-1 : Int32)) := ⟨_, rfl⟩
  replace h := h τ61 e62
  rw [← e62]
  have hs63 : Sh τ61 := by rw [e62]; exact hs58
  refine E_aload_n 1 dX12_entry_166 rfl rfl ?_
  refine E_getR 125 dX12_entry_167 fl_X12_8 rfl (sk_124 hs63) (sn hs63 (by decide)) (sr_124_2 hs63) ?_
  refine E_bipush (6 : Int32) dX12_entry_170 (by decide) ?_
  refine E_dup2 dX12_entry_172 rfl rfl ?_
  refine E_iald2 6 dX12_entry_173 (sk_125 hs63) (sn hs63 (by decide)) (vp_lit (by decide)) (by decide) ?_
  refine E_iconst (1 : Int32) dX12_entry_174 (by decide) ?_
  refine E_iadd dX12_entry_175 ?_
  refine E_iast2 6 dX12_entry_176 (sk_125 hs63) (sn hs63 (by decide)) (Or.inl (by decide)) (vp_lit (by decide)) (by decide) ?_
  refine E_aload_n 1 dX12_entry_177 rfl rfl ?_
  refine E_aload_n 1 dX12_entry_178 rfl rfl ?_
  refine E_getR 125 dX12_entry_179 fl_X12_8 rfl (sk_124 hs63) (sn hs63 (by decide)) (sr_124_2 hs63) ?_
  refine E_bipush (6 : Int32) dX12_entry_182 (by decide) ?_
  refine E_iald2 6 dX12_entry_184 (sk_125 hs63) (sn hs63 (by decide)) (vp_lit (by decide)) (by decide) ?_
  refine E_iconst (1 : Int32) dX12_entry_185 (by decide) ?_
  refine E_isub dX12_entry_186 ?_
  obtain ⟨d64, v69, σ65, hD66, hC67, h⟩ := h
  have hs68 := hC67.1.2.2.2.1 hs63
  refine E_callV (As := [.int ((gI (sI τ61 125 6 ((gI τ61 125 6) + (1 : Int32))) 125 6) - (1 : Int32))]) (rest := []) (r1 := (some (.int v69))) (b := 124) dX12_entry_187 ok_X12_told in_X12_told se_X12_told ml_X12_163 hD66 rfl rfl (Nat.le_of_ble_eq_true rfl) (sk_124 hs63) (sn hs63 (by decide)) (by decide) rfl (by decide +kernel) hC67 ?_
  obtain ⟨rfl, rfl⟩ := h
  exact E_iret dX12_entry_190 rfl
def W_X12_entry_77 (X : Sx) (l : Launch) (D : Nat) (σ : AH) (r : Option Value) (σ' : AH) : Prop := ∃ d43 : Nat, ∃ v48 : Int32, ∃ σ44 : AH, d43 + 1 ≤ D ∧ Call X l m_X12_told d43 [.ref 124, .int (-1 : Int32)] σ (some (.int v48)) σ44 ∧ (r = some (.int v48) ∧ σ' = σ44)
set_option maxRecDepth 100000 in
theorem w_X12_entry_77 {X : Sx} {l : Launch} {D : Nat} {σ : AH} {r : Option Value} {σ' : AH} (hs : Sh σ) (h : W_X12_entry_77 X l D σ r σ') : E X l m_X12_entry D 77 [(0, .ref 124)] [] σ r σ' := by
  unfold W_X12_entry_77 at h
  refine E_aload_n 0 dX12_entry_77 rfl rfl ?_
  refine E_iconst (-1 : Int32) dX12_entry_78 (by decide) ?_
  obtain ⟨d43, v48, σ44, hD45, hC46, h⟩ := h
  have hs47 := hC46.1.2.2.2.1 hs
  refine E_callV (As := [.int (-1 : Int32)]) (rest := []) (r1 := (some (.int v48))) (b := 124) dX12_entry_79 ok_X12_told in_X12_told se_X12_told ml_X12_163 hD45 rfl rfl (Nat.le_of_ble_eq_true rfl) (sk_124 hs) (sn hs (by decide)) (by decide) rfl (by decide +kernel) hC46 ?_
  obtain ⟨rfl, rfl⟩ := h
  exact E_iret dX12_entry_82 rfl
def W_X12_entry_95 (X : Sx) (l : Launch) (D : Nat) (σ : AH) (r : Option Value) (σ' : AH) : Prop := ∃ d70 : Nat, ∃ v75 : Int32, ∃ σ71 : AH, d70 + 1 ≤ D ∧ Call X l m_X12_told d70 [.ref 124, .int (-5 : Int32)] σ (some (.int v75)) σ71 ∧ (r = some (.int v75) ∧ σ' = σ71)
set_option maxRecDepth 100000 in
theorem w_X12_entry_95 {X : Sx} {l : Launch} {D : Nat} {σ : AH} {r : Option Value} {σ' : AH} (hs : Sh σ) (h : W_X12_entry_95 X l D σ r σ') : E X l m_X12_entry D 95 [(0, .ref 124)] [] σ r σ' := by
  unfold W_X12_entry_95 at h
  refine E_aload_n 0 dX12_entry_95 rfl rfl ?_
  refine E_bipush (-5 : Int32) dX12_entry_96 (by decide) ?_
  obtain ⟨d70, v75, σ71, hD72, hC73, h⟩ := h
  have hs74 := hC73.1.2.2.2.1 hs
  refine E_callV (As := [.int (-5 : Int32)]) (rest := []) (r1 := (some (.int v75))) (b := 124) dX12_entry_98 ok_X12_told in_X12_told se_X12_told ml_X12_163 hD72 rfl rfl (Nat.le_of_ble_eq_true rfl) (sk_124 hs) (sn hs (by decide)) (by decide) rfl (by decide +kernel) hC73 ?_
  obtain ⟨rfl, rfl⟩ := h
  exact E_iret dX12_entry_101 rfl
def W_X12_entry_0 (X : Sx) (l : Launch) (D : Nat) (x1 : Int32) (x2 : Int32) (x3 : Int32) (x4 : Int32) (x5 : Int32) (x6 : Int32) (x7 : Int32) (σ : AH) (r : Option Value) (σ' : AH) : Prop := ∃ d1 : Nat, ∃ v6 : Int32, ∃ σ2 : AH, d1 + 1 ≤ D ∧ Call X l m_X12_isCouncil d1 [.int x1] (sI σ 124 0 (0 : Int32)) (some (.int v6)) σ2 ∧ (if v6 = 0 then W_X12_entry_77 X l D σ2 r σ' else ∃ d7 : Nat, ∃ v12 : Int32, ∃ σ8 : AH, d7 + 1 ≤ D ∧ Call X l m_X12_isWeek d7 [.int x2] σ2 (some (.int v12)) σ8 ∧ (if v12 = 0 then W_X12_entry_77 X l D σ8 r σ' else ∃ d13 : Nat, ∃ v18 : Int32, ∃ σ14 : AH, d13 + 1 ≤ D ∧ Call X l m_X12_in d13 [.long (x3).toInt64, .long (1 : Int64), .long (20 : Int64)] σ8 (some (.int v18)) σ14 ∧ (if v18 = 0 then W_X12_entry_77 X l D σ14 r σ' else ∃ d19 : Nat, ∃ v24 : Int32, ∃ σ20 : AH, d19 + 1 ≤ D ∧ Call X l m_X12_in d19 [.long (x4).toInt64, .long (0 : Int64), .long ((x3).toInt64 - (1 : Int64))] σ14 (some (.int v24)) σ20 ∧ (if v24 = 0 then W_X12_entry_77 X l D σ20 r σ' else ∃ d25 : Nat, ∃ v30 : Int32, ∃ σ26 : AH, d25 + 1 ≤ D ∧ Call X l m_X12_in d25 [.long (x5).toInt64, .long (0 : Int64), .long (9 : Int64)] σ20 (some (.int v30)) σ26 ∧ (if v30 = 0 then W_X12_entry_77 X l D σ26 r σ' else ∃ d31 : Nat, ∃ v36 : Int32, ∃ σ32 : AH, d31 + 1 ≤ D ∧ Call X l m_X12_in d31 [.long (x6).toInt64, .long (0 : Int64), .long (1 : Int64)] σ26 (some (.int v36)) σ32 ∧ (if v36 = 0 then W_X12_entry_77 X l D σ32 r σ' else ∃ d37 : Nat, ∃ v42 : Int32, ∃ σ38 : AH, d37 + 1 ≤ D ∧ Call X l m_X12_isWeek d37 [.int x7] σ32 (some (.int v42)) σ38 ∧ (if v42 = 0 then W_X12_entry_77 X l D σ38 r σ' else (if (gI σ38 125 6) = (60 : Int32) then W_X12_entry_95 X l D σ38 r σ' else W_X12_entry_102 X l D x1 x2 x3 x4 x5 x6 x7 σ38 r σ'))))))))
set_option maxRecDepth 100000 in
theorem w_X12_entry_0 {X : Sx} {l : Launch} {D : Nat} {x1 : Int32} {x2 : Int32} {x3 : Int32} {x4 : Int32} {x5 : Int32} {x6 : Int32} {x7 : Int32} {σ : AH} {r : Option Value} {σ' : AH} (hs : Sh σ) (h : W_X12_entry_0 X l D x1 x2 x3 x4 x5 x6 x7 σ r σ') : E X l m_X12_entry D 0 [(0, .ref 124), (1, .int x1), (2, .int x2), (3, .int x3), (4, .int x4), (5, .int x5), (6, .int x6), (7, .int x7)] [] σ r σ' := by
  unfold W_X12_entry_0 at h
  refine E_aload_n 0 dX12_entry_0 rfl rfl ?_
  refine E_iconst (0 : Int32) dX12_entry_1 (by decide) ?_
  refine E_putI dX12_entry_2 fl_X12_145 rfl (Or.inl rfl) (sk_124 hs) (sn hs (by decide)) (Or.inl (by decide)) rfl rfl ?_
  refine E_iload_n 1 dX12_entry_5 rfl rfl ?_
  obtain ⟨d1, v6, σ2, hD3, hC4, h⟩ := h
  have hs5 := hC4.1.2.2.2.1 hs
  refine E_callS (As := [.int x1]) (rest := []) (r1 := (some (.int v6))) dX12_entry_6 ok_X12_isCouncil is_X12_isCouncil ml_X12_466 hD3 rfl rfl (Nat.le_of_ble_eq_true rfl) (by decide +kernel) hC4 ?_
  refine E_if_eq 77 dX12_entry_9 (by decide) (fun c => ?_) (fun c => ?_)
  · rw [if_pos c] at h
    exact E_lv [0] rfl (w_X12_entry_77 hs5 h)
  · rw [if_neg c] at h
    refine E_iload_n 2 dX12_entry_12 rfl rfl ?_
    obtain ⟨d7, v12, σ8, hD9, hC10, h⟩ := h
    have hs11 := hC10.1.2.2.2.1 hs5
    refine E_callS (As := [.int x2]) (rest := []) (r1 := (some (.int v12))) dX12_entry_13 ok_X12_isWeek is_X12_isWeek ml_X12_387 hD9 rfl rfl (Nat.le_of_ble_eq_true rfl) (by decide +kernel) hC10 ?_
    refine E_if_eq 77 dX12_entry_16 (by decide) (fun c => ?_) (fun c => ?_)
    · rw [if_pos c] at h
      exact E_lv [0] rfl (w_X12_entry_77 hs11 h)
    · rw [if_neg c] at h
      refine E_iload_n 3 dX12_entry_19 rfl rfl ?_
      refine E_i2l dX12_entry_20 ?_
      refine E_lconst (1 : Int64) dX12_entry_21 (by decide) ?_
      refine E_ldc2 (20 : Int64) dX12_entry_22 cl_X12_553 ?_
      obtain ⟨d13, v18, σ14, hD15, hC16, h⟩ := h
      have hs17 := hC16.1.2.2.2.1 hs11
      refine E_callS (As := [.long (x3).toInt64, .long (1 : Int64), .long (20 : Int64)]) (rest := []) (r1 := (some (.int v18))) dX12_entry_25 ok_X12_in is_X12_in ml_X12_153 hD15 rfl rfl (Nat.le_of_ble_eq_true rfl) (by decide +kernel) hC16 ?_
      refine E_if_eq 77 dX12_entry_28 (by decide) (fun c => ?_) (fun c => ?_)
      · rw [if_pos c] at h
        exact E_lv [0] rfl (w_X12_entry_77 hs17 h)
      · rw [if_neg c] at h
        refine E_iload 4 dX12_entry_31 rfl ?_
        refine E_i2l dX12_entry_33 ?_
        refine E_lconst (0 : Int64) dX12_entry_34 (by decide) ?_
        refine E_iload_n 3 dX12_entry_35 rfl rfl ?_
        refine E_i2l dX12_entry_36 ?_
        refine E_lconst (1 : Int64) dX12_entry_37 (by decide) ?_
        refine E_lsub dX12_entry_38 ?_
        obtain ⟨d19, v24, σ20, hD21, hC22, h⟩ := h
        have hs23 := hC22.1.2.2.2.1 hs17
        refine E_callS (As := [.long (x4).toInt64, .long (0 : Int64), .long ((x3).toInt64 - (1 : Int64))]) (rest := []) (r1 := (some (.int v24))) dX12_entry_39 ok_X12_in is_X12_in ml_X12_153 hD21 rfl rfl (Nat.le_of_ble_eq_true rfl) (by decide +kernel) hC22 ?_
        refine E_if_eq 77 dX12_entry_42 (by decide) (fun c => ?_) (fun c => ?_)
        · rw [if_pos c] at h
          exact E_lv [0] rfl (w_X12_entry_77 hs23 h)
        · rw [if_neg c] at h
          refine E_iload 5 dX12_entry_45 rfl ?_
          refine E_i2l dX12_entry_47 ?_
          refine E_lconst (0 : Int64) dX12_entry_48 (by decide) ?_
          refine E_ldc2 (9 : Int64) dX12_entry_49 cl_X12_555 ?_
          obtain ⟨d25, v30, σ26, hD27, hC28, h⟩ := h
          have hs29 := hC28.1.2.2.2.1 hs23
          refine E_callS (As := [.long (x5).toInt64, .long (0 : Int64), .long (9 : Int64)]) (rest := []) (r1 := (some (.int v30))) dX12_entry_52 ok_X12_in is_X12_in ml_X12_153 hD27 rfl rfl (Nat.le_of_ble_eq_true rfl) (by decide +kernel) hC28 ?_
          refine E_if_eq 77 dX12_entry_55 (by decide) (fun c => ?_) (fun c => ?_)
          · rw [if_pos c] at h
            exact E_lv [0] rfl (w_X12_entry_77 hs29 h)
          · rw [if_neg c] at h
            refine E_iload 6 dX12_entry_58 rfl ?_
            refine E_i2l dX12_entry_60 ?_
            refine E_lconst (0 : Int64) dX12_entry_61 (by decide) ?_
            refine E_lconst (1 : Int64) dX12_entry_62 (by decide) ?_
            obtain ⟨d31, v36, σ32, hD33, hC34, h⟩ := h
            have hs35 := hC34.1.2.2.2.1 hs29
            refine E_callS (As := [.long (x6).toInt64, .long (0 : Int64), .long (1 : Int64)]) (rest := []) (r1 := (some (.int v36))) dX12_entry_63 ok_X12_in is_X12_in ml_X12_153 hD33 rfl rfl (Nat.le_of_ble_eq_true rfl) (by decide +kernel) hC34 ?_
            refine E_if_eq 77 dX12_entry_66 (by decide) (fun c => ?_) (fun c => ?_)
            · rw [if_pos c] at h
              exact E_lv [0] rfl (w_X12_entry_77 hs35 h)
            · rw [if_neg c] at h
              refine E_iload 7 dX12_entry_69 rfl ?_
              obtain ⟨d37, v42, σ38, hD39, hC40, h⟩ := h
              have hs41 := hC40.1.2.2.2.1 hs35
              refine E_callS (As := [.int x7]) (rest := []) (r1 := (some (.int v42))) dX12_entry_71 ok_X12_isWeek is_X12_isWeek ml_X12_387 hD39 rfl rfl (Nat.le_of_ble_eq_true rfl) (by decide +kernel) hC40 ?_
              refine E_if_ne 83 dX12_entry_74 (by decide) (fun c => ?_) (fun c => ?_)
              · rw [if_neg c] at h
                refine E_aload_n 0 dX12_entry_83 rfl rfl ?_
                refine E_getR 125 dX12_entry_84 fl_X12_8 rfl (sk_124 hs41) (sn hs41 (by decide)) (sr_124_2 hs41) ?_
                refine E_bipush (6 : Int32) dX12_entry_87 (by decide) ?_
                refine E_iald2 6 dX12_entry_89 (sk_125 hs41) (sn hs41 (by decide)) (vp_lit (by decide)) (by decide) ?_
                refine E_bipush (60 : Int32) dX12_entry_90 (by decide) ?_
                refine E_icmp_ne 102 dX12_entry_92 (by decide) (fun c => ?_) (fun c => ?_)
                · rw [if_neg c] at h
                  exact E_lv [0, 1, 2, 3, 4, 5, 6, 7] rfl (w_X12_entry_102 hs41 h)
                · rw [if_pos c] at h
                  exact E_lv [0] rfl (w_X12_entry_95 hs41 h)
              · rw [if_pos c] at h
                exact E_lv [0] rfl (w_X12_entry_77 hs41 h)
def W_X12_isEntry_0 (X : Sx) (l : Launch) (D : Nat) (x1 : Int32) (σ : AH) (r : Option Value) (σ' : AH) : Prop := ∃ d1 : Nat, ∃ v6 : Int32, ∃ σ2 : AH, d1 + 1 ≤ D ∧ Call X l m_X12_in d1 [.long (x1).toInt64, .long (0 : Int64), .long (((gI σ 125 6)).toInt64 - (1 : Int64))] σ (some (.int v6)) σ2 ∧ ((v6 = 0 ∨ v6 = 1) ∧ r = some (.int v6) ∧ σ' = σ2)
set_option maxRecDepth 100000 in
theorem w_X12_isEntry_0 {X : Sx} {l : Launch} {D : Nat} {x1 : Int32} {σ : AH} {r : Option Value} {σ' : AH} (hs : Sh σ) (h : W_X12_isEntry_0 X l D x1 σ r σ') : E X l m_X12_isEntry D 0 [(0, .ref 124), (1, .int x1)] [] σ r σ' := by
  unfold W_X12_isEntry_0 at h
  refine E_iload_n 1 dX12_isEntry_0 rfl rfl ?_
  refine E_i2l dX12_isEntry_1 ?_
  refine E_lconst (0 : Int64) dX12_isEntry_2 (by decide) ?_
  refine E_aload_n 0 dX12_isEntry_3 rfl rfl ?_
  refine E_getR 125 dX12_isEntry_4 fl_X12_8 rfl (sk_124 hs) (sn hs (by decide)) (sr_124_2 hs) ?_
  refine E_bipush (6 : Int32) dX12_isEntry_7 (by decide) ?_
  refine E_iald2 6 dX12_isEntry_9 (sk_125 hs) (sn hs (by decide)) (vp_lit (by decide)) (by decide) ?_
  refine E_i2l dX12_isEntry_10 ?_
  refine E_lconst (1 : Int64) dX12_isEntry_11 (by decide) ?_
  refine E_lsub dX12_isEntry_12 ?_
  obtain ⟨d1, v6, σ2, hD3, hC4, h⟩ := h
  have hs5 := hC4.1.2.2.2.1 hs
  refine E_callS (As := [.long (x1).toInt64, .long (0 : Int64), .long (((gI σ 125 6)).toInt64 - (1 : Int64))]) (rest := []) (r1 := (some (.int v6))) dX12_isEntry_13 ok_X12_in is_X12_in ml_X12_153 hD3 rfl rfl (Nat.le_of_ble_eq_true rfl) (by decide +kernel) hC4 ?_
  obtain ⟨hz, rfl, rfl⟩ := h
  exact E_zret dX12_isEntry_16 rfl hz
def W_X12_entryAt_0 (X : Sx) (l : Launch) (D : Nat) (x1 : Int32) (x2 : Int32) (σ : AH) (r : Option Value) (σ' : AH) : Prop := vp_in (((23832 : Int32) + ((10 : Int32) * x1)) + x2) 269832 ∧ (r = some (.int (gI σ 125 (((23832 : Int32) + ((10 : Int32) * x1)) + x2).toNatClampNeg)) ∧ σ' = σ)
set_option maxRecDepth 100000 in
theorem w_X12_entryAt_0 {X : Sx} {l : Launch} {D : Nat} {x1 : Int32} {x2 : Int32} {σ : AH} {r : Option Value} {σ' : AH} (hs : Sh σ) (h : W_X12_entryAt_0 X l D x1 x2 σ r σ') : E X l m_X12_entryAt D 0 [(0, .ref 124), (1, .int x1), (2, .int x2)] [] σ r σ' := by
  unfold W_X12_entryAt_0 at h
  refine E_aload_n 0 dX12_entryAt_0 rfl rfl ?_
  refine E_getR 125 dX12_entryAt_1 fl_X12_8 rfl (sk_124 hs) (sn hs (by decide)) (sr_124_2 hs) ?_
  refine E_sipush (23832 : Int32) dX12_entryAt_4 (by decide) ?_
  refine E_bipush (10 : Int32) dX12_entryAt_7 (by decide) ?_
  refine E_iload_n 1 dX12_entryAt_9 rfl rfl ?_
  refine E_imul dX12_entryAt_10 ?_
  refine E_iadd dX12_entryAt_11 ?_
  refine E_iload_n 2 dX12_entryAt_12 rfl rfl ?_
  refine E_iadd dX12_entryAt_13 ?_
  obtain ⟨g1, h⟩ := h
  refine E_iald2 ((((23832 : Int32) + ((10 : Int32) * x1)) + x2).toNatClampNeg) dX12_entryAt_14 (sk_125 hs) (sn hs (by decide)) g1 rfl ?_
  obtain ⟨rfl, rfl⟩ := h
  exact E_iret dX12_entryAt_15 rfl
def W_X12_mark_29 (X : Sx) (l : Launch) (D : Nat) (σ : AH) (r : Option Value) (σ' : AH) : Prop := ∃ d44 : Nat, ∃ v49 : Int32, ∃ σ45 : AH, d44 + 1 ≤ D ∧ Call X l m_X12_told d44 [.ref 124, .int (-1 : Int32)] σ (some (.int v49)) σ45 ∧ (r = some (.int v49) ∧ σ' = σ45)
set_option maxRecDepth 100000 in
theorem w_X12_mark_29 {X : Sx} {l : Launch} {D : Nat} {σ : AH} {r : Option Value} {σ' : AH} (hs : Sh σ) (h : W_X12_mark_29 X l D σ r σ') : E X l m_X12_mark D 29 [(0, .ref 124)] [] σ r σ' := by
  unfold W_X12_mark_29 at h
  refine E_aload_n 0 dX12_mark_29 rfl rfl ?_
  refine E_iconst (-1 : Int32) dX12_mark_30 (by decide) ?_
  obtain ⟨d44, v49, σ45, hD46, hC47, h⟩ := h
  have hs48 := hC47.1.2.2.2.1 hs
  refine E_callV (As := [.int (-1 : Int32)]) (rest := []) (r1 := (some (.int v49))) (b := 124) dX12_mark_31 ok_X12_told in_X12_told se_X12_told ml_X12_163 hD46 rfl rfl (Nat.le_of_ble_eq_true rfl) (sk_124 hs) (sn hs (by decide)) (by decide) rfl (by decide +kernel) hC47 ?_
  obtain ⟨rfl, rfl⟩ := h
  exact E_iret dX12_mark_34 rfl
def W_X12_mark_0 (X : Sx) (l : Launch) (D : Nat) (x1 : Int32) (x2 : Int32) (x3 : Int32) (σ : AH) (r : Option Value) (σ' : AH) : Prop := ∃ d1 : Nat, ∃ v6 : Int32, ∃ σ2 : AH, d1 + 1 ≤ D ∧ Call X l m_X12_in d1 [.long (x2).toInt64, .long (0 : Int64), .long (2 : Int64)] (sI σ 124 0 (0 : Int32)) (some (.int v6)) σ2 ∧ (if v6 = 0 then W_X12_mark_29 X l D σ2 r σ' else ∃ d7 : Nat, ∃ v12 : Int32, ∃ σ8 : AH, d7 + 1 ≤ D ∧ Call X l m_X12_in d7 [.long (x3).toInt64, .long (0 : Int64), .long (9999 : Int64)] σ2 (some (.int v12)) σ8 ∧ (if v12 = 0 then W_X12_mark_29 X l D σ8 r σ' else ∃ d13 : Nat, ∃ v18 : Int32, ∃ σ14 : AH, d13 + 1 ≤ D ∧ Call X l m_X12_isEntry d13 [.ref 124, .int x1] σ8 (some (.int v18)) σ14 ∧ (if v18 = 0 then ∃ d38 : Nat, ∃ v43 : Int32, ∃ σ39 : AH, d38 + 1 ≤ D ∧ Call X l m_X12_told d38 [.ref 124, .int (-2 : Int32)] σ14 (some (.int v43)) σ39 ∧ (r = some (.int v43) ∧ σ' = σ39) else ∃ d19 : Nat, ∃ v24 : Int32, ∃ σ20 : AH, d19 + 1 ≤ D ∧ Call X l m_X12_entryAt d19 [.ref 124, .int x1, .int ((7 : Int32) + x2)] σ14 (some (.int v24)) σ20 ∧ (if v24 = (-1 : Int32) then vp_in ((((23832 : Int32) + ((10 : Int32) * x1)) + (7 : Int32)) + x2) 269832 ∧ ∃ d26 : Nat, ∃ v31 : Int32, ∃ σ27 : AH, d26 + 1 ≤ D ∧ Call X l m_X12_told d26 [.ref 124, .int (0 : Int32)] (sI σ20 125 (((((23832 : Int32) + ((10 : Int32) * x1)) + (7 : Int32)) + x2).toNatClampNeg) x3) (some (.int v31)) σ27 ∧ (r = some (.int v31) ∧ σ' = σ27) else ∃ d32 : Nat, ∃ v37 : Int32, ∃ σ33 : AH, d32 + 1 ≤ D ∧ Call X l m_X12_told d32 [.ref 124, .int (-4 : Int32)] σ20 (some (.int v37)) σ33 ∧ (r = some (.int v37) ∧ σ' = σ33)))))
set_option maxRecDepth 100000 in
theorem w_X12_mark_0 {X : Sx} {l : Launch} {D : Nat} {x1 : Int32} {x2 : Int32} {x3 : Int32} {σ : AH} {r : Option Value} {σ' : AH} (hs : Sh σ) (h : W_X12_mark_0 X l D x1 x2 x3 σ r σ') : E X l m_X12_mark D 0 [(0, .ref 124), (1, .int x1), (2, .int x2), (3, .int x3)] [] σ r σ' := by
  unfold W_X12_mark_0 at h
  refine E_aload_n 0 dX12_mark_0 rfl rfl ?_
  refine E_iconst (0 : Int32) dX12_mark_1 (by decide) ?_
  refine E_putI dX12_mark_2 fl_X12_145 rfl (Or.inl rfl) (sk_124 hs) (sn hs (by decide)) (Or.inl (by decide)) rfl rfl ?_
  refine E_iload_n 2 dX12_mark_5 rfl rfl ?_
  refine E_i2l dX12_mark_6 ?_
  refine E_lconst (0 : Int64) dX12_mark_7 (by decide) ?_
  refine E_ldc2 (2 : Int64) dX12_mark_8 cl_X12_161 ?_
  obtain ⟨d1, v6, σ2, hD3, hC4, h⟩ := h
  have hs5 := hC4.1.2.2.2.1 hs
  refine E_callS (As := [.long (x2).toInt64, .long (0 : Int64), .long (2 : Int64)]) (rest := []) (r1 := (some (.int v6))) dX12_mark_11 ok_X12_in is_X12_in ml_X12_153 hD3 rfl rfl (Nat.le_of_ble_eq_true rfl) (by decide +kernel) hC4 ?_
  refine E_if_eq 29 dX12_mark_14 (by decide) (fun c => ?_) (fun c => ?_)
  · rw [if_pos c] at h
    exact E_lv [0] rfl (w_X12_mark_29 hs5 h)
  · rw [if_neg c] at h
    refine E_iload_n 3 dX12_mark_17 rfl rfl ?_
    refine E_i2l dX12_mark_18 ?_
    refine E_lconst (0 : Int64) dX12_mark_19 (by decide) ?_
    refine E_ldc2 (9999 : Int64) dX12_mark_20 cl_X12_557 ?_
    obtain ⟨d7, v12, σ8, hD9, hC10, h⟩ := h
    have hs11 := hC10.1.2.2.2.1 hs5
    refine E_callS (As := [.long (x3).toInt64, .long (0 : Int64), .long (9999 : Int64)]) (rest := []) (r1 := (some (.int v12))) dX12_mark_23 ok_X12_in is_X12_in ml_X12_153 hD9 rfl rfl (Nat.le_of_ble_eq_true rfl) (by decide +kernel) hC10 ?_
    refine E_if_ne 35 dX12_mark_26 (by decide) (fun c => ?_) (fun c => ?_)
    · rw [if_neg c] at h
      refine E_aload_n 0 dX12_mark_35 rfl rfl ?_
      refine E_iload_n 1 dX12_mark_36 rfl rfl ?_
      obtain ⟨d13, v18, σ14, hD15, hC16, h⟩ := h
      have hs17 := hC16.1.2.2.2.1 hs11
      refine E_callV (As := [.int x1]) (rest := []) (r1 := (some (.int v18))) (b := 124) dX12_mark_37 ok_X12_isEntry in_X12_isEntry se_X12_isEntry ml_X12_559 hD15 rfl rfl (Nat.le_of_ble_eq_true rfl) (sk_124 hs11) (sn hs11 (by decide)) (by decide) rfl (by decide +kernel) hC16 ?_
      refine E_if_ne 50 dX12_mark_40 (by decide) (fun c => ?_) (fun c => ?_)
      · rw [if_neg c] at h
        refine E_aload_n 0 dX12_mark_50 rfl rfl ?_
        refine E_iload_n 1 dX12_mark_51 rfl rfl ?_
        refine E_bipush (7 : Int32) dX12_mark_52 (by decide) ?_
        refine E_iload_n 2 dX12_mark_54 rfl rfl ?_
        refine E_iadd dX12_mark_55 ?_
        obtain ⟨d19, v24, σ20, hD21, hC22, h⟩ := h
        have hs23 := hC22.1.2.2.2.1 hs17
        refine E_callV (As := [.int x1, .int ((7 : Int32) + x2)]) (rest := []) (r1 := (some (.int v24))) (b := 124) dX12_mark_56 ok_X12_entryAt in_X12_entryAt se_X12_entryAt ml_X12_562 hD21 rfl rfl (Nat.le_of_ble_eq_true rfl) (sk_124 hs17) (sn hs17 (by decide)) (by decide) rfl (by decide +kernel) hC22 ?_
        refine E_iconst (-1 : Int32) dX12_mark_59 (by decide) ?_
        refine E_icmp_eq 70 dX12_mark_60 (by decide) (fun c => ?_) (fun c => ?_)
        · rw [if_pos c] at h
          refine E_aload_n 0 dX12_mark_70 rfl rfl ?_
          refine E_getR 125 dX12_mark_71 fl_X12_8 rfl (sk_124 hs23) (sn hs23 (by decide)) (sr_124_2 hs23) ?_
          refine E_sipush (23832 : Int32) dX12_mark_74 (by decide) ?_
          refine E_bipush (10 : Int32) dX12_mark_77 (by decide) ?_
          refine E_iload_n 1 dX12_mark_79 rfl rfl ?_
          refine E_imul dX12_mark_80 ?_
          refine E_iadd dX12_mark_81 ?_
          refine E_bipush (7 : Int32) dX12_mark_82 (by decide) ?_
          refine E_iadd dX12_mark_84 ?_
          refine E_iload_n 2 dX12_mark_85 rfl rfl ?_
          refine E_iadd dX12_mark_86 ?_
          refine E_iload_n 3 dX12_mark_87 rfl rfl ?_
          obtain ⟨g25, h⟩ := h
          refine E_iast2 (((((23832 : Int32) + ((10 : Int32) * x1)) + (7 : Int32)) + x2).toNatClampNeg) dX12_mark_88 (sk_125 hs23) (sn hs23 (by decide)) (Or.inl (by decide)) g25 rfl ?_
          refine E_aload_n 0 dX12_mark_89 rfl rfl ?_
          refine E_iconst (0 : Int32) dX12_mark_90 (by decide) ?_
          obtain ⟨d26, v31, σ27, hD28, hC29, h⟩ := h
          have hs30 := hC29.1.2.2.2.1 hs23
          refine E_callV (As := [.int (0 : Int32)]) (rest := []) (r1 := (some (.int v31))) (b := 124) dX12_mark_91 ok_X12_told in_X12_told se_X12_told ml_X12_163 hD28 rfl rfl (Nat.le_of_ble_eq_true rfl) (sk_124 hs23) (sn hs23 (by decide)) (by decide) rfl (by decide +kernel) hC29 ?_
          obtain ⟨rfl, rfl⟩ := h
          exact E_iret dX12_mark_94 rfl
        · rw [if_neg c] at h
          refine E_aload_n 0 dX12_mark_63 rfl rfl ?_
          refine E_bipush (-4 : Int32) dX12_mark_64 (by decide) ?_
          obtain ⟨d32, v37, σ33, hD34, hC35, h⟩ := h
          have hs36 := hC35.1.2.2.2.1 hs23
          refine E_callV (As := [.int (-4 : Int32)]) (rest := []) (r1 := (some (.int v37))) (b := 124) dX12_mark_66 ok_X12_told in_X12_told se_X12_told ml_X12_163 hD34 rfl rfl (Nat.le_of_ble_eq_true rfl) (sk_124 hs23) (sn hs23 (by decide)) (by decide) rfl (by decide +kernel) hC35 ?_
          obtain ⟨rfl, rfl⟩ := h
          exact E_iret dX12_mark_69 rfl
      · rw [if_pos c] at h
        refine E_aload_n 0 dX12_mark_43 rfl rfl ?_
        refine E_bipush (-2 : Int32) dX12_mark_44 (by decide) ?_
        obtain ⟨d38, v43, σ39, hD40, hC41, h⟩ := h
        have hs42 := hC41.1.2.2.2.1 hs17
        refine E_callV (As := [.int (-2 : Int32)]) (rest := []) (r1 := (some (.int v43))) (b := 124) dX12_mark_46 ok_X12_told in_X12_told se_X12_told ml_X12_163 hD40 rfl rfl (Nat.le_of_ble_eq_true rfl) (sk_124 hs17) (sn hs17 (by decide)) (by decide) rfl (by decide +kernel) hC41 ?_
        obtain ⟨rfl, rfl⟩ := h
        exact E_iret dX12_mark_49 rfl
    · rw [if_pos c] at h
      exact E_lv [0] rfl (w_X12_mark_29 hs11 h)
def W_X12_areOne_0 (X : Sx) (l : Launch) (D : Nat) (x1 : Int32) (x2 : Int32) (σ : AH) (r : Option Value) (σ' : AH) : Prop := E X l m_X12_areOne D 9 [(0, .ref 124), (1, .int x1), (2, .int x2), (3, .int (0 : Int32)), (4, .int (0 : Int32)), (5, .int (7 : Int32))] [] σ r σ'
set_option maxRecDepth 100000 in
theorem w_X12_areOne_0 {X : Sx} {l : Launch} {D : Nat} {x1 : Int32} {x2 : Int32} {σ : AH} {r : Option Value} {σ' : AH} (hs : Sh σ) (h : W_X12_areOne_0 X l D x1 x2 σ r σ') : E X l m_X12_areOne D 0 [(0, .ref 124), (1, .int x1), (2, .int x2)] [] σ r σ' := by
  unfold W_X12_areOne_0 at h
  refine E_iconst (0 : Int32) dX12_areOne_0 (by decide) ?_
  refine E_istore_n [(3, .int (0 : Int32)), (0, .ref 124), (1, .int x1), (2, .int x2)] dX12_areOne_1 rfl (by decide) rfl ?_
  refine E_iconst (0 : Int32) dX12_areOne_2 (by decide) ?_
  refine E_istore [(4, .int (0 : Int32)), (3, .int (0 : Int32)), (0, .ref 124), (1, .int x1), (2, .int x2)] dX12_areOne_3 (by decide) rfl ?_
  refine E_bipush (7 : Int32) dX12_areOne_5 (by decide) ?_
  refine E_istore [(5, .int (7 : Int32)), (4, .int (0 : Int32)), (3, .int (0 : Int32)), (0, .ref 124), (1, .int x1), (2, .int x2)] dX12_areOne_7 (by decide) rfl ?_
  exact E_lv [3, 4, 5, 2, 1, 0] rfl h
def W_X12_areOne_90 (X : Sx) (l : Launch) (D : Nat) (x1 : Int32) (x2 : Int32) (x3 : Int32) (x4 : Int32) (x5 : Int32) (σ : AH) (r : Option Value) (σ' : AH) : Prop := E X l m_X12_areOne D 9 [(0, .ref 124), (1, .int x1), (2, .int x2), (3, .int x3), (4, .int x4), (5, .int (x5 + 1))] [] σ r σ'
set_option maxRecDepth 100000 in
theorem w_X12_areOne_90 {X : Sx} {l : Launch} {D : Nat} {x1 : Int32} {x2 : Int32} {x3 : Int32} {x4 : Int32} {x5 : Int32} {σ : AH} {r : Option Value} {σ' : AH} (hs : Sh σ) (h : W_X12_areOne_90 X l D x1 x2 x3 x4 x5 σ r σ') : E X l m_X12_areOne D 90 [(0, .ref 124), (1, .int x1), (2, .int x2), (3, .int x3), (4, .int x4), (5, .int x5)] [] σ r σ' := by
  unfold W_X12_areOne_90 at h
  refine E_iinc 5 (x5 + 1) [(5, .int (x5 + 1)), (0, .ref 124), (1, .int x1), (2, .int x2), (3, .int x3), (4, .int x4)] dX12_areOne_90 rfl (congrArg (x5 + ·) (by decide : Int32.ofInt 1 = 1)) (by decide) rfl ?_
  refine E_goto 9 dX12_areOne_93 (by decide) ?_
  exact E_lv [1, 2, 3, 4, 5, 0] rfl h
def W_X12_areOne_87 (X : Sx) (l : Launch) (D : Nat) (x1 : Int32) (x2 : Int32) (x3 : Int32) (x5 : Int32) (y0 : Int32) (y1 : Int32) (σ : AH) (r : Option Value) (σ' : AH) : Prop := W_X12_areOne_90 X l D x1 x2 x3 (y1 + y0) x5 σ r σ'
set_option maxRecDepth 100000 in
theorem w_X12_areOne_87 {X : Sx} {l : Launch} {D : Nat} {x1 : Int32} {x2 : Int32} {x3 : Int32} {x5 : Int32} {y0 : Int32} {y1 : Int32} {σ : AH} {r : Option Value} {σ' : AH} (hs : Sh σ) (h : W_X12_areOne_87 X l D x1 x2 x3 x5 y0 y1 σ r σ') : E X l m_X12_areOne D 87 [(0, .ref 124), (1, .int x1), (2, .int x2), (3, .int x3), (5, .int x5)] [.int y0, .int y1] σ r σ' := by
  unfold W_X12_areOne_87 at h
  refine E_iadd dX12_areOne_87 ?_
  refine E_istore [(4, .int (y1 + y0)), (0, .ref 124), (1, .int x1), (2, .int x2), (3, .int x3), (5, .int x5)] dX12_areOne_88 (by decide) rfl ?_
  exact E_lv [1, 2, 3, 4, 0, 5] rfl (w_X12_areOne_90 hs h)
def W_X12_areOne_61 (X : Sx) (l : Launch) (D : Nat) (x1 : Int32) (x2 : Int32) (x4 : Int32) (x5 : Int32) (y0 : Int32) (y1 : Int32) (σ : AH) (r : Option Value) (σ' : AH) : Prop := ∃ d25 : Nat, ∃ v30 : Int32, ∃ σ26 : AH, d25 + 1 ≤ D ∧ Call X l m_X12_entryAt d25 [.ref 124, .int x1, .int x5] σ (some (.int v30)) σ26 ∧ ∃ d31 : Nat, ∃ v36 : Int32, ∃ σ32 : AH, d31 + 1 ≤ D ∧ Call X l m_X12_entryAt d31 [.ref 124, .int x2, .int x5] σ26 (some (.int v36)) σ32 ∧ (if v30 = v36 then W_X12_areOne_87 X l D x1 x2 (y1 + y0) x5 (0 : Int32) x4 σ32 r σ' else W_X12_areOne_87 X l D x1 x2 (y1 + y0) x5 (1 : Int32) x4 σ32 r σ')
set_option maxRecDepth 100000 in
theorem w_X12_areOne_61 {X : Sx} {l : Launch} {D : Nat} {x1 : Int32} {x2 : Int32} {x4 : Int32} {x5 : Int32} {y0 : Int32} {y1 : Int32} {σ : AH} {r : Option Value} {σ' : AH} (hs : Sh σ) (h : W_X12_areOne_61 X l D x1 x2 x4 x5 y0 y1 σ r σ') : E X l m_X12_areOne D 61 [(0, .ref 124), (1, .int x1), (2, .int x2), (4, .int x4), (5, .int x5)] [.int y0, .int y1] σ r σ' := by
  unfold W_X12_areOne_61 at h
  refine E_iadd dX12_areOne_61 ?_
  refine E_istore_n [(3, .int (y1 + y0)), (0, .ref 124), (1, .int x1), (2, .int x2), (4, .int x4), (5, .int x5)] dX12_areOne_62 rfl (by decide) rfl ?_
  refine E_iload 4 dX12_areOne_63 rfl ?_
  refine E_aload_n 1 dX12_areOne_65 rfl rfl ?_
  refine E_iload_n 2 dX12_areOne_66 rfl rfl ?_
  refine E_iload 5 dX12_areOne_67 rfl ?_
  obtain ⟨d25, v30, σ26, hD27, hC28, h⟩ := h
  have hs29 := hC28.1.2.2.2.1 hs
  refine E_callV (As := [.int x1, .int x5]) (rest := [.int x4]) (r1 := (some (.int v30))) (b := 124) dX12_areOne_69 ok_X12_entryAt in_X12_entryAt se_X12_entryAt ml_X12_562 hD27 rfl rfl (Nat.le_of_ble_eq_true rfl) (sk_124 hs) (sn hs (by decide)) (by decide) rfl (by decide +kernel) hC28 ?_
  refine E_aload_n 1 dX12_areOne_72 rfl rfl ?_
  refine E_iload_n 3 dX12_areOne_73 rfl rfl ?_
  refine E_iload 5 dX12_areOne_74 rfl ?_
  obtain ⟨d31, v36, σ32, hD33, hC34, h⟩ := h
  have hs35 := hC34.1.2.2.2.1 hs29
  refine E_callV (As := [.int x2, .int x5]) (rest := [.int v30, .int x4]) (r1 := (some (.int v36))) (b := 124) dX12_areOne_76 ok_X12_entryAt in_X12_entryAt se_X12_entryAt ml_X12_562 hD33 rfl rfl (Nat.le_of_ble_eq_true rfl) (sk_124 hs29) (sn hs29 (by decide)) (by decide) rfl (by decide +kernel) hC34 ?_
  refine E_icmp_ne 86 dX12_areOne_79 (by decide) (fun c => ?_) (fun c => ?_)
  · rw [if_neg c] at h
    refine E_iconst (1 : Int32) dX12_areOne_86 (by decide) ?_
    exact E_lv [1, 2, 3, 0, 5] rfl (w_X12_areOne_87 hs35 h)
  · rw [if_pos c] at h
    refine E_iconst (0 : Int32) dX12_areOne_82 (by decide) ?_
    refine E_goto 87 dX12_areOne_83 (by decide) ?_
    exact E_lv [1, 2, 3, 0, 5] rfl (w_X12_areOne_87 hs35 h)
def W_X12_areOne_9 (X : Sx) (l : Launch) (D : Nat) (x1 : Int32) (x2 : Int32) (x3 : Int32) (x4 : Int32) (x5 : Int32) (σ : AH) (r : Option Value) (σ' : AH) : Prop := (if (10 : Int32) ≤ x5 then (if x3 < (2 : Int32) then (r = some (.int (0 : Int32)) ∧ σ' = σ) else (if x4 = 0 then (r = some (.int (1 : Int32)) ∧ σ' = σ) else (r = some (.int (0 : Int32)) ∧ σ' = σ))) else ∃ d1 : Nat, ∃ v6 : Int32, ∃ σ2 : AH, d1 + 1 ≤ D ∧ Call X l m_X12_entryAt d1 [.ref 124, .int x1, .int x5] σ (some (.int v6)) σ2 ∧ (if v6 = (-1 : Int32) then W_X12_areOne_90 X l D x1 x2 x3 x4 x5 σ2 r σ' else ∃ d7 : Nat, ∃ v12 : Int32, ∃ σ8 : AH, d7 + 1 ≤ D ∧ Call X l m_X12_entryAt d7 [.ref 124, .int x2, .int x5] σ2 (some (.int v12)) σ8 ∧ (if v12 = (-1 : Int32) then W_X12_areOne_90 X l D x1 x2 x3 x4 x5 σ8 r σ' else ∃ d13 : Nat, ∃ v18 : Int32, ∃ σ14 : AH, d13 + 1 ≤ D ∧ Call X l m_X12_entryAt d13 [.ref 124, .int x1, .int x5] σ8 (some (.int v18)) σ14 ∧ ∃ d19 : Nat, ∃ v24 : Int32, ∃ σ20 : AH, d19 + 1 ≤ D ∧ Call X l m_X12_entryAt d19 [.ref 124, .int x2, .int x5] σ14 (some (.int v24)) σ20 ∧ (if v18 = v24 then W_X12_areOne_61 X l D x1 x2 x4 x5 (1 : Int32) x3 σ20 r σ' else W_X12_areOne_61 X l D x1 x2 x4 x5 (0 : Int32) x3 σ20 r σ'))))
set_option maxRecDepth 100000 in
theorem w_X12_areOne_9 {X : Sx} {l : Launch} {D : Nat} {x1 : Int32} {x2 : Int32} {x3 : Int32} {x4 : Int32} {x5 : Int32} {σ : AH} {r : Option Value} {σ' : AH} (hs : Sh σ) (h : W_X12_areOne_9 X l D x1 x2 x3 x4 x5 σ r σ') : E X l m_X12_areOne D 9 [(0, .ref 124), (1, .int x1), (2, .int x2), (3, .int x3), (4, .int x4), (5, .int x5)] [] σ r σ' := by
  unfold W_X12_areOne_9 at h
  refine E_iload 5 dX12_areOne_9 rfl ?_
  refine E_bipush (10 : Int32) dX12_areOne_11 (by decide) ?_
  refine E_icmp_ge 96 dX12_areOne_13 (by decide) (fun c => ?_) (fun c => ?_)
  · rw [if_pos c] at h
    refine E_iload_n 3 dX12_areOne_96 rfl rfl ?_
    refine E_iconst (2 : Int32) dX12_areOne_97 (by decide) ?_
    refine E_icmp_lt 110 dX12_areOne_98 (by decide) (fun c => ?_) (fun c => ?_)
    · rw [if_pos c] at h
      refine E_iconst (0 : Int32) dX12_areOne_110 (by decide) ?_
      obtain ⟨rfl, rfl⟩ := h
      exact E_zret dX12_areOne_111 rfl (Or.inl rfl)
    · rw [if_neg c] at h
      refine E_iload 4 dX12_areOne_101 rfl ?_
      refine E_if_ne 110 dX12_areOne_103 (by decide) (fun c => ?_) (fun c => ?_)
      · rw [if_neg c] at h
        refine E_iconst (0 : Int32) dX12_areOne_110 (by decide) ?_
        obtain ⟨rfl, rfl⟩ := h
        exact E_zret dX12_areOne_111 rfl (Or.inl rfl)
      · rw [if_pos c] at h
        refine E_iconst (1 : Int32) dX12_areOne_106 (by decide) ?_
        refine E_goto 111 dX12_areOne_107 (by decide) ?_
        obtain ⟨rfl, rfl⟩ := h
        exact E_zret dX12_areOne_111 rfl (Or.inr rfl)
  · rw [if_neg c] at h
    refine E_aload_n 0 dX12_areOne_16 rfl rfl ?_
    refine E_iload_n 1 dX12_areOne_17 rfl rfl ?_
    refine E_iload 5 dX12_areOne_18 rfl ?_
    obtain ⟨d1, v6, σ2, hD3, hC4, h⟩ := h
    have hs5 := hC4.1.2.2.2.1 hs
    refine E_callV (As := [.int x1, .int x5]) (rest := []) (r1 := (some (.int v6))) (b := 124) dX12_areOne_20 ok_X12_entryAt in_X12_entryAt se_X12_entryAt ml_X12_562 hD3 rfl rfl (Nat.le_of_ble_eq_true rfl) (sk_124 hs) (sn hs (by decide)) (by decide) rfl (by decide +kernel) hC4 ?_
    refine E_iconst (-1 : Int32) dX12_areOne_23 (by decide) ?_
    refine E_icmp_eq 90 dX12_areOne_24 (by decide) (fun c => ?_) (fun c => ?_)
    · rw [if_pos c] at h
      exact E_lv [0, 1, 2, 3, 4, 5] rfl (w_X12_areOne_90 hs5 h)
    · rw [if_neg c] at h
      refine E_aload_n 0 dX12_areOne_27 rfl rfl ?_
      refine E_iload_n 2 dX12_areOne_28 rfl rfl ?_
      refine E_iload 5 dX12_areOne_29 rfl ?_
      obtain ⟨d7, v12, σ8, hD9, hC10, h⟩ := h
      have hs11 := hC10.1.2.2.2.1 hs5
      refine E_callV (As := [.int x2, .int x5]) (rest := []) (r1 := (some (.int v12))) (b := 124) dX12_areOne_31 ok_X12_entryAt in_X12_entryAt se_X12_entryAt ml_X12_562 hD9 rfl rfl (Nat.le_of_ble_eq_true rfl) (sk_124 hs5) (sn hs5 (by decide)) (by decide) rfl (by decide +kernel) hC10 ?_
      refine E_iconst (-1 : Int32) dX12_areOne_34 (by decide) ?_
      refine E_icmp_eq 90 dX12_areOne_35 (by decide) (fun c => ?_) (fun c => ?_)
      · rw [if_pos c] at h
        exact E_lv [0, 1, 2, 3, 4, 5] rfl (w_X12_areOne_90 hs11 h)
      · rw [if_neg c] at h
        refine E_iload_n 3 dX12_areOne_38 rfl rfl ?_
        refine E_aload_n 0 dX12_areOne_39 rfl rfl ?_
        refine E_iload_n 1 dX12_areOne_40 rfl rfl ?_
        refine E_iload 5 dX12_areOne_41 rfl ?_
        obtain ⟨d13, v18, σ14, hD15, hC16, h⟩ := h
        have hs17 := hC16.1.2.2.2.1 hs11
        refine E_callV (As := [.int x1, .int x5]) (rest := [.int x3]) (r1 := (some (.int v18))) (b := 124) dX12_areOne_43 ok_X12_entryAt in_X12_entryAt se_X12_entryAt ml_X12_562 hD15 rfl rfl (Nat.le_of_ble_eq_true rfl) (sk_124 hs11) (sn hs11 (by decide)) (by decide) rfl (by decide +kernel) hC16 ?_
        refine E_aload_n 0 dX12_areOne_46 rfl rfl ?_
        refine E_iload_n 2 dX12_areOne_47 rfl rfl ?_
        refine E_iload 5 dX12_areOne_48 rfl ?_
        obtain ⟨d19, v24, σ20, hD21, hC22, h⟩ := h
        have hs23 := hC22.1.2.2.2.1 hs17
        refine E_callV (As := [.int x2, .int x5]) (rest := [.int v18, .int x3]) (r1 := (some (.int v24))) (b := 124) dX12_areOne_50 ok_X12_entryAt in_X12_entryAt se_X12_entryAt ml_X12_562 hD21 rfl rfl (Nat.le_of_ble_eq_true rfl) (sk_124 hs17) (sn hs17 (by decide)) (by decide) rfl (by decide +kernel) hC22 ?_
        refine E_icmp_ne 60 dX12_areOne_53 (by decide) (fun c => ?_) (fun c => ?_)
        · rw [if_neg c] at h
          refine E_iconst (0 : Int32) dX12_areOne_60 (by decide) ?_
          exact E_lv [0, 1, 2, 4, 5] rfl (w_X12_areOne_61 hs23 h)
        · rw [if_pos c] at h
          refine E_iconst (1 : Int32) dX12_areOne_56 (by decide) ?_
          refine E_goto 61 dX12_areOne_57 (by decide) ?_
          exact E_lv [0, 1, 2, 4, 5] rfl (w_X12_areOne_61 hs23 h)
def W_X12_findFamilies_0 (X : Sx) (l : Launch) (D : Nat) (x1 : Int32) (σ : AH) (r : Option Value) (σ' : AH) : Prop := E X l m_X12_findFamilies D 10 [(0, .ref 124), (1, .int x1), (2, .int (gI σ 125 6)), (3, .int (0 : Int32))] [] σ r σ'
set_option maxRecDepth 100000 in
theorem w_X12_findFamilies_0 {X : Sx} {l : Launch} {D : Nat} {x1 : Int32} {σ : AH} {r : Option Value} {σ' : AH} (hs : Sh σ) (h : W_X12_findFamilies_0 X l D x1 σ r σ') : E X l m_X12_findFamilies D 0 [(0, .ref 124), (1, .int x1)] [] σ r σ' := by
  unfold W_X12_findFamilies_0 at h
  refine E_aload_n 0 dX12_findFamilies_0 rfl rfl ?_
  refine E_getR 125 dX12_findFamilies_1 fl_X12_8 rfl (sk_124 hs) (sn hs (by decide)) (sr_124_2 hs) ?_
  refine E_bipush (6 : Int32) dX12_findFamilies_4 (by decide) ?_
  refine E_iald2 6 dX12_findFamilies_6 (sk_125 hs) (sn hs (by decide)) (vp_lit (by decide)) (by decide) ?_
  refine E_istore_n [(2, .int (gI σ 125 6)), (0, .ref 124), (1, .int x1)] dX12_findFamilies_7 rfl (by decide) rfl ?_
  refine E_iconst (0 : Int32) dX12_findFamilies_8 (by decide) ?_
  refine E_istore_n [(3, .int (0 : Int32)), (2, .int (gI σ 125 6)), (0, .ref 124), (1, .int x1)] dX12_findFamilies_9 rfl (by decide) rfl ?_
  exact E_lv [2, 3, 1, 0] rfl h
def W_X12_findFamilies_36 (X : Sx) (l : Launch) (D : Nat) (x1 : Int32) (x2 : Int32) (x3 : Int32) (y0 : Int32) (y1 : Int32) (σ : AH) (r : Option Value) (σ' : AH) : Prop := vp_in y1 60 ∧ E X l m_X12_findFamilies D 10 [(0, .ref 124), (1, .int x1), (2, .int x2), (3, .int (x3 + 1))] [] (sI σ 160 y1.toNatClampNeg y0) r σ'
set_option maxRecDepth 100000 in
theorem w_X12_findFamilies_36 {X : Sx} {l : Launch} {D : Nat} {x1 : Int32} {x2 : Int32} {x3 : Int32} {y0 : Int32} {y1 : Int32} {σ : AH} {r : Option Value} {σ' : AH} (hs : Sh σ) (h : W_X12_findFamilies_36 X l D x1 x2 x3 y0 y1 σ r σ') : E X l m_X12_findFamilies D 36 [(0, .ref 124), (1, .int x1), (2, .int x2), (3, .int x3)] [.int y0, .int y1, .ref 160] σ r σ' := by
  unfold W_X12_findFamilies_36 at h
  obtain ⟨g7, h⟩ := h
  refine E_iast2 (y1.toNatClampNeg) dX12_findFamilies_36 (sk_160 hs) (sn hs (by decide)) (Or.inl (by decide)) g7 rfl ?_
  refine E_iinc 3 (x3 + 1) [(3, .int (x3 + 1)), (0, .ref 124), (1, .int x1), (2, .int x2)] dX12_findFamilies_37 rfl (congrArg (x3 + ·) (by decide : Int32.ofInt 1 = 1)) (by decide) rfl ?_
  refine E_goto 10 dX12_findFamilies_40 (by decide) ?_
  exact E_lv [1, 2, 3, 0] rfl h
def W_X12_findFamilies_10 (X : Sx) (l : Launch) (D : Nat) (x1 : Int32) (x2 : Int32) (x3 : Int32) (σ : AH) (r : Option Value) (σ' : AH) : Prop := (if x2 ≤ x3 then E X l m_X12_findFamilies D 45 [(0, .ref 124), (2, .int x2), (3, .int (1 : Int32))] [] σ r σ' else ∃ d1 : Nat, ∃ v6 : Int32, ∃ σ2 : AH, d1 + 1 ≤ D ∧ Call X l m_X12_entryAt d1 [.ref 124, .int x3, .int (6 : Int32)] σ (some (.int v6)) σ2 ∧ (if x1 < v6 then W_X12_findFamilies_36 X l D x1 x2 x3 (-1 : Int32) x3 σ2 r σ' else W_X12_findFamilies_36 X l D x1 x2 x3 x3 x3 σ2 r σ'))
set_option maxRecDepth 100000 in
theorem w_X12_findFamilies_10 {X : Sx} {l : Launch} {D : Nat} {x1 : Int32} {x2 : Int32} {x3 : Int32} {σ : AH} {r : Option Value} {σ' : AH} (hs : Sh σ) (h : W_X12_findFamilies_10 X l D x1 x2 x3 σ r σ') : E X l m_X12_findFamilies D 10 [(0, .ref 124), (1, .int x1), (2, .int x2), (3, .int x3)] [] σ r σ' := by
  unfold W_X12_findFamilies_10 at h
  refine E_iload_n 3 dX12_findFamilies_10 rfl rfl ?_
  refine E_iload_n 2 dX12_findFamilies_11 rfl rfl ?_
  refine E_icmp_ge 43 dX12_findFamilies_12 (by decide) (fun c => ?_) (fun c => ?_)
  · rw [if_pos c] at h
    refine E_iconst (1 : Int32) dX12_findFamilies_43 (by decide) ?_
    refine E_istore_n [(3, .int (1 : Int32)), (0, .ref 124), (1, .int x1), (2, .int x2)] dX12_findFamilies_44 rfl (by decide) rfl ?_
    exact E_lv [1, 3, 0] rfl h
  · rw [if_neg c] at h
    refine E_aload_n 0 dX12_findFamilies_15 rfl rfl ?_
    refine E_getR 160 dX12_findFamilies_16 fl_X12_127 rfl (sk_124 hs) (sn hs (by decide)) (sr_124_62 hs) ?_
    refine E_iload_n 3 dX12_findFamilies_19 rfl rfl ?_
    refine E_aload_n 0 dX12_findFamilies_20 rfl rfl ?_
    refine E_iload_n 3 dX12_findFamilies_21 rfl rfl ?_
    refine E_bipush (6 : Int32) dX12_findFamilies_22 (by decide) ?_
    obtain ⟨d1, v6, σ2, hD3, hC4, h⟩ := h
    have hs5 := hC4.1.2.2.2.1 hs
    refine E_callV (As := [.int x3, .int (6 : Int32)]) (rest := [.int x3, .ref 160]) (r1 := (some (.int v6))) (b := 124) dX12_findFamilies_24 ok_X12_entryAt in_X12_entryAt se_X12_entryAt ml_X12_562 hD3 rfl rfl (Nat.le_of_ble_eq_true rfl) (sk_124 hs) (sn hs (by decide)) (by decide) rfl (by decide +kernel) hC4 ?_
    refine E_iload_n 1 dX12_findFamilies_27 rfl rfl ?_
    refine E_icmp_gt 35 dX12_findFamilies_28 (by decide) (fun c => ?_) (fun c => ?_)
    · rw [if_pos c] at h
      refine E_iconst (-1 : Int32) dX12_findFamilies_35 (by decide) ?_
      exact E_lv [0, 1, 2, 3] rfl (w_X12_findFamilies_36 hs5 h)
    · rw [if_neg c] at h
      refine E_iload_n 3 dX12_findFamilies_31 rfl rfl ?_
      refine E_goto 36 dX12_findFamilies_32 (by decide) ?_
      exact E_lv [0, 1, 2, 3] rfl (w_X12_findFamilies_36 hs5 h)
def W_X12_findFamilies_45 (X : Sx) (l : Launch) (D : Nat) (x2 : Int32) (x3 : Int32) (σ : AH) (r : Option Value) (σ' : AH) : Prop := (if x3 = 0 then (r = none ∧ σ' = σ) else E X l m_X12_findFamilies D 54 [(0, .ref 124), (2, .int x2), (3, .int (0 : Int32)), (4, .int (0 : Int32))] [] σ r σ')
set_option maxRecDepth 100000 in
theorem w_X12_findFamilies_45 {X : Sx} {l : Launch} {D : Nat} {x2 : Int32} {x3 : Int32} {σ : AH} {r : Option Value} {σ' : AH} (hs : Sh σ) (h : W_X12_findFamilies_45 X l D x2 x3 σ r σ') : E X l m_X12_findFamilies D 45 [(0, .ref 124), (2, .int x2), (3, .int x3)] [] σ r σ' := by
  unfold W_X12_findFamilies_45 at h
  refine E_iload_n 2 dX12_findFamilies_45 rfl rfl ?_
  refine E_if_eq 139 dX12_findFamilies_46 (by decide) (fun c => ?_) (fun c => ?_)
  · rw [if_pos c] at h
    obtain ⟨rfl, rfl⟩ := h
    exact E_vret dX12_findFamilies_139 rfl
  · rw [if_neg c] at h
    refine E_iconst (0 : Int32) dX12_findFamilies_49 (by decide) ?_
    refine E_istore_n [(3, .int (0 : Int32)), (0, .ref 124), (2, .int x2)] dX12_findFamilies_50 rfl (by decide) rfl ?_
    refine E_iconst (0 : Int32) dX12_findFamilies_51 (by decide) ?_
    refine E_istore [(4, .int (0 : Int32)), (3, .int (0 : Int32)), (0, .ref 124), (2, .int x2)] dX12_findFamilies_52 (by decide) rfl ?_
    exact E_lv [2, 3, 1, 0] rfl h
def W_X12_findFamilies_54 (X : Sx) (l : Launch) (D : Nat) (x2 : Int32) (x3 : Int32) (x4 : Int32) (σ : AH) (r : Option Value) (σ' : AH) : Prop := (if x2 ≤ x4 then E X l m_X12_findFamilies D 45 [(0, .ref 124), (2, .int x2), (3, .int x3)] [] σ r σ' else E X l m_X12_findFamilies D 63 [(0, .ref 124), (2, .int x2), (3, .int x3), (4, .int x4), (5, .int (0 : Int32))] [] σ r σ')
set_option maxRecDepth 100000 in
theorem w_X12_findFamilies_54 {X : Sx} {l : Launch} {D : Nat} {x2 : Int32} {x3 : Int32} {x4 : Int32} {σ : AH} {r : Option Value} {σ' : AH} (hs : Sh σ) (h : W_X12_findFamilies_54 X l D x2 x3 x4 σ r σ') : E X l m_X12_findFamilies D 54 [(0, .ref 124), (2, .int x2), (3, .int x3), (4, .int x4)] [] σ r σ' := by
  unfold W_X12_findFamilies_54 at h
  refine E_iload 3 dX12_findFamilies_54 rfl ?_
  refine E_iload_n 1 dX12_findFamilies_56 rfl rfl ?_
  refine E_icmp_ge 136 dX12_findFamilies_57 (by decide) (fun c => ?_) (fun c => ?_)
  · rw [if_pos c] at h
    refine E_goto 45 dX12_findFamilies_136 (by decide) ?_
    exact E_lv [0, 1, 2] rfl h
  · rw [if_neg c] at h
    refine E_iconst (0 : Int32) dX12_findFamilies_60 (by decide) ?_
    refine E_istore [(5, .int (0 : Int32)), (0, .ref 124), (2, .int x2), (3, .int x3), (4, .int x4)] dX12_findFamilies_61 (by decide) rfl ?_
    exact E_lv [1, 2, 3, 4, 0] rfl h
def W_X12_findFamilies_124 (X : Sx) (l : Launch) (D : Nat) (x2 : Int32) (x3 : Int32) (x4 : Int32) (x5 : Int32) (σ : AH) (r : Option Value) (σ' : AH) : Prop := E X l m_X12_findFamilies D 63 [(0, .ref 124), (2, .int x2), (3, .int x3), (4, .int x4), (5, .int (x5 + 1))] [] σ r σ'
set_option maxRecDepth 100000 in
theorem w_X12_findFamilies_124 {X : Sx} {l : Launch} {D : Nat} {x2 : Int32} {x3 : Int32} {x4 : Int32} {x5 : Int32} {σ : AH} {r : Option Value} {σ' : AH} (hs : Sh σ) (h : W_X12_findFamilies_124 X l D x2 x3 x4 x5 σ r σ') : E X l m_X12_findFamilies D 124 [(0, .ref 124), (2, .int x2), (3, .int x3), (4, .int x4), (5, .int x5)] [] σ r σ' := by
  unfold W_X12_findFamilies_124 at h
  refine E_iinc 4 (x5 + 1) [(5, .int (x5 + 1)), (0, .ref 124), (2, .int x2), (3, .int x3), (4, .int x4)] dX12_findFamilies_124 rfl (congrArg (x5 + ·) (by decide : Int32.ofInt 1 = 1)) (by decide) rfl ?_
  refine E_goto 63 dX12_findFamilies_127 (by decide) ?_
  exact E_lv [1, 2, 3, 4, 0] rfl h
def W_X12_findFamilies_63 (X : Sx) (l : Launch) (D : Nat) (x2 : Int32) (x3 : Int32) (x4 : Int32) (x5 : Int32) (σ : AH) (r : Option Value) (σ' : AH) : Prop := (if x2 ≤ x5 then E X l m_X12_findFamilies D 54 [(0, .ref 124), (2, .int x2), (3, .int x3), (4, .int (x4 + 1))] [] σ r σ' else vp_in x4 60 ∧ (if (gI σ 160 x4.toNatClampNeg) = (-1 : Int32) then W_X12_findFamilies_124 X l D x2 x3 x4 x5 σ r σ' else vp_in x5 60 ∧ vp_in x4 60 ∧ (if (gI σ 160 x5.toNatClampNeg) ≤ (gI σ 160 x4.toNatClampNeg) then W_X12_findFamilies_124 X l D x2 x3 x4 x5 σ r σ' else ∃ d11 : Nat, ∃ v16 : Int32, ∃ σ12 : AH, d11 + 1 ≤ D ∧ Call X l m_X12_areOne d11 [.ref 124, .int x4, .int x5] σ (some (.int v16)) σ12 ∧ (if v16 = 0 then W_X12_findFamilies_124 X l D x2 x3 x4 x5 σ12 r σ' else vp_in x4 60 ∧ vp_in x5 60 ∧ W_X12_findFamilies_124 X l D x2 (1 : Int32) x4 x5 (sI σ12 160 x5.toNatClampNeg (gI σ12 160 x4.toNatClampNeg)) r σ'))))
set_option maxRecDepth 100000 in
theorem w_X12_findFamilies_63 {X : Sx} {l : Launch} {D : Nat} {x2 : Int32} {x3 : Int32} {x4 : Int32} {x5 : Int32} {σ : AH} {r : Option Value} {σ' : AH} (hs : Sh σ) (h : W_X12_findFamilies_63 X l D x2 x3 x4 x5 σ r σ') : E X l m_X12_findFamilies D 63 [(0, .ref 124), (2, .int x2), (3, .int x3), (4, .int x4), (5, .int x5)] [] σ r σ' := by
  unfold W_X12_findFamilies_63 at h
  refine E_iload 4 dX12_findFamilies_63 rfl ?_
  refine E_iload_n 1 dX12_findFamilies_65 rfl rfl ?_
  refine E_icmp_ge 130 dX12_findFamilies_66 (by decide) (fun c => ?_) (fun c => ?_)
  · rw [if_pos c] at h
    refine E_iinc 3 (x4 + 1) [(4, .int (x4 + 1)), (0, .ref 124), (2, .int x2), (3, .int x3), (5, .int x5)] dX12_findFamilies_130 rfl (congrArg (x4 + ·) (by decide : Int32.ofInt 1 = 1)) (by decide) rfl ?_
    refine E_goto 54 dX12_findFamilies_133 (by decide) ?_
    exact E_lv [1, 2, 3, 0] rfl h
  · rw [if_neg c] at h
    refine E_aload_n 0 dX12_findFamilies_69 rfl rfl ?_
    refine E_getR 160 dX12_findFamilies_70 fl_X12_127 rfl (sk_124 hs) (sn hs (by decide)) (sr_124_62 hs) ?_
    refine E_iload 3 dX12_findFamilies_73 rfl ?_
    obtain ⟨g8, h⟩ := h
    refine E_iald2 (x4.toNatClampNeg) dX12_findFamilies_75 (sk_160 hs) (sn hs (by decide)) g8 rfl ?_
    refine E_iconst (-1 : Int32) dX12_findFamilies_76 (by decide) ?_
    refine E_icmp_eq 124 dX12_findFamilies_77 (by decide) (fun c => ?_) (fun c => ?_)
    · rw [if_pos c] at h
      exact E_lv [0, 1, 2, 3, 4] rfl (w_X12_findFamilies_124 hs h)
    · rw [if_neg c] at h
      refine E_aload_n 0 dX12_findFamilies_80 rfl rfl ?_
      refine E_getR 160 dX12_findFamilies_81 fl_X12_127 rfl (sk_124 hs) (sn hs (by decide)) (sr_124_62 hs) ?_
      refine E_iload 4 dX12_findFamilies_84 rfl ?_
      obtain ⟨g9, h⟩ := h
      refine E_iald2 (x5.toNatClampNeg) dX12_findFamilies_86 (sk_160 hs) (sn hs (by decide)) g9 rfl ?_
      refine E_aload_n 0 dX12_findFamilies_87 rfl rfl ?_
      refine E_getR 160 dX12_findFamilies_88 fl_X12_127 rfl (sk_124 hs) (sn hs (by decide)) (sr_124_62 hs) ?_
      refine E_iload 3 dX12_findFamilies_91 rfl ?_
      obtain ⟨g10, h⟩ := h
      refine E_iald2 (x4.toNatClampNeg) dX12_findFamilies_93 (sk_160 hs) (sn hs (by decide)) g10 rfl ?_
      refine E_icmp_le 124 dX12_findFamilies_94 (by decide) (fun c => ?_) (fun c => ?_)
      · rw [if_pos c] at h
        exact E_lv [0, 1, 2, 3, 4] rfl (w_X12_findFamilies_124 hs h)
      · rw [if_neg c] at h
        refine E_aload_n 0 dX12_findFamilies_97 rfl rfl ?_
        refine E_iload 3 dX12_findFamilies_98 rfl ?_
        refine E_iload 4 dX12_findFamilies_100 rfl ?_
        obtain ⟨d11, v16, σ12, hD13, hC14, h⟩ := h
        have hs15 := hC14.1.2.2.2.1 hs
        refine E_callV (As := [.int x4, .int x5]) (rest := []) (r1 := (some (.int v16))) (b := 124) dX12_findFamilies_102 ok_X12_areOne in_X12_areOne se_X12_areOne ml_X12_565 hD13 rfl rfl (Nat.le_of_ble_eq_true rfl) (sk_124 hs) (sn hs (by decide)) (by decide) rfl (by decide +kernel) hC14 ?_
        refine E_if_eq 124 dX12_findFamilies_105 (by decide) (fun c => ?_) (fun c => ?_)
        · rw [if_pos c] at h
          exact E_lv [0, 1, 2, 3, 4] rfl (w_X12_findFamilies_124 hs15 h)
        · rw [if_neg c] at h
          refine E_aload_n 0 dX12_findFamilies_108 rfl rfl ?_
          refine E_getR 160 dX12_findFamilies_109 fl_X12_127 rfl (sk_124 hs15) (sn hs15 (by decide)) (sr_124_62 hs15) ?_
          refine E_iload 4 dX12_findFamilies_112 rfl ?_
          refine E_aload_n 0 dX12_findFamilies_114 rfl rfl ?_
          refine E_getR 160 dX12_findFamilies_115 fl_X12_127 rfl (sk_124 hs15) (sn hs15 (by decide)) (sr_124_62 hs15) ?_
          refine E_iload 3 dX12_findFamilies_118 rfl ?_
          obtain ⟨g17, h⟩ := h
          refine E_iald2 (x4.toNatClampNeg) dX12_findFamilies_120 (sk_160 hs15) (sn hs15 (by decide)) g17 rfl ?_
          obtain ⟨g18, h⟩ := h
          refine E_iast2 (x5.toNatClampNeg) dX12_findFamilies_121 (sk_160 hs15) (sn hs15 (by decide)) (Or.inl (by decide)) g18 rfl ?_
          refine E_iconst (1 : Int32) dX12_findFamilies_122 (by decide) ?_
          refine E_istore_n [(3, .int (1 : Int32)), (0, .ref 124), (2, .int x2), (4, .int x4), (5, .int x5)] dX12_findFamilies_123 rfl (by decide) rfl ?_
          exact E_lv [1, 2, 0, 3, 4] rfl (w_X12_findFamilies_124 hs15 h)
def W_X12_family_0 (X : Sx) (l : Launch) (D : Nat) (x1 : Int32) (x2 : Int32) (σ : AH) (r : Option Value) (σ' : AH) : Prop := ∃ d1 : Nat, ∃ v6 : Int32, ∃ σ2 : AH, d1 + 1 ≤ D ∧ Call X l m_X12_isEntry d1 [.ref 124, .int x1] (sI σ 124 0 (0 : Int32)) (some (.int v6)) σ2 ∧ (if v6 = 0 then (r = some (.int (-1 : Int32)) ∧ σ' = σ2) else ∃ d7 : Nat, ∃ v12 : Int32, ∃ σ8 : AH, d7 + 1 ≤ D ∧ Call X l m_X12_isWeek d7 [.int x2] σ2 (some (.int v12)) σ8 ∧ (if v12 = 0 then (r = some (.int (-1 : Int32)) ∧ σ' = σ8) else ∃ d13 : Nat, ∃ σ14 : AH, d13 + 1 ≤ D ∧ Call X l m_X12_findFamilies d13 [.ref 124, .int x2] σ8 none σ14 ∧ vp_in x1 60 ∧ (r = some (.int (gI σ14 160 x1.toNatClampNeg)) ∧ σ' = σ14)))
set_option maxRecDepth 100000 in
theorem w_X12_family_0 {X : Sx} {l : Launch} {D : Nat} {x1 : Int32} {x2 : Int32} {σ : AH} {r : Option Value} {σ' : AH} (hs : Sh σ) (h : W_X12_family_0 X l D x1 x2 σ r σ') : E X l m_X12_family D 0 [(0, .ref 124), (1, .int x1), (2, .int x2)] [] σ r σ' := by
  unfold W_X12_family_0 at h
  refine E_aload_n 0 dX12_family_0 rfl rfl ?_
  refine E_iconst (0 : Int32) dX12_family_1 (by decide) ?_
  refine E_putI dX12_family_2 fl_X12_145 rfl (Or.inl rfl) (sk_124 hs) (sn hs (by decide)) (Or.inl (by decide)) rfl rfl ?_
  refine E_aload_n 0 dX12_family_5 rfl rfl ?_
  refine E_iload_n 1 dX12_family_6 rfl rfl ?_
  obtain ⟨d1, v6, σ2, hD3, hC4, h⟩ := h
  have hs5 := hC4.1.2.2.2.1 hs
  refine E_callV (As := [.int x1]) (rest := []) (r1 := (some (.int v6))) (b := 124) dX12_family_7 ok_X12_isEntry in_X12_isEntry se_X12_isEntry ml_X12_559 hD3 rfl rfl (Nat.le_of_ble_eq_true rfl) (sk_124 hs) (sn hs (by decide)) (by decide) rfl (by decide +kernel) hC4 ?_
  refine E_if_eq 20 dX12_family_10 (by decide) (fun c => ?_) (fun c => ?_)
  · rw [if_pos c] at h
    refine E_iconst (-1 : Int32) dX12_family_20 (by decide) ?_
    obtain ⟨rfl, rfl⟩ := h
    exact E_iret dX12_family_21 rfl
  · rw [if_neg c] at h
    refine E_iload_n 2 dX12_family_13 rfl rfl ?_
    obtain ⟨d7, v12, σ8, hD9, hC10, h⟩ := h
    have hs11 := hC10.1.2.2.2.1 hs5
    refine E_callS (As := [.int x2]) (rest := []) (r1 := (some (.int v12))) dX12_family_14 ok_X12_isWeek is_X12_isWeek ml_X12_387 hD9 rfl rfl (Nat.le_of_ble_eq_true rfl) (by decide +kernel) hC10 ?_
    refine E_if_ne 22 dX12_family_17 (by decide) (fun c => ?_) (fun c => ?_)
    · rw [if_neg c] at h
      refine E_aload_n 0 dX12_family_22 rfl rfl ?_
      refine E_iload_n 2 dX12_family_23 rfl rfl ?_
      obtain ⟨d13, σ14, hD15, hC16, h⟩ := h
      have hs17 := hC16.1.2.2.2.1 hs11
      refine E_callV (As := [.int x2]) (rest := []) (r1 := none) (b := 124) dX12_family_24 ok_X12_findFamilies in_X12_findFamilies se_X12_findFamilies ml_X12_568 hD15 rfl rfl (Nat.le_of_ble_eq_true rfl) (sk_124 hs11) (sn hs11 (by decide)) (by decide) rfl (by decide +kernel) hC16 ?_
      refine E_aload_n 0 dX12_family_27 rfl rfl ?_
      refine E_getR 160 dX12_family_28 fl_X12_127 rfl (sk_124 hs17) (sn hs17 (by decide)) (sr_124_62 hs17) ?_
      refine E_iload_n 1 dX12_family_31 rfl rfl ?_
      obtain ⟨g18, h⟩ := h
      refine E_iald2 (x1.toNatClampNeg) dX12_family_32 (sk_160 hs17) (sn hs17 (by decide)) g18 rfl ?_
      obtain ⟨rfl, rfl⟩ := h
      exact E_iret dX12_family_33 rfl
    · rw [if_pos c] at h
      refine E_iconst (-1 : Int32) dX12_family_20 (by decide) ?_
      obtain ⟨rfl, rfl⟩ := h
      exact E_iret dX12_family_21 rfl
def W_X12_setEntry_0 (X : Sx) (l : Launch) (D : Nat) (x1 : Int32) (x2 : Int32) (σ : AH) (r : Option Value) (σ' : AH) : Prop := ∃ d1 : Nat, ∃ σ2 : AH, d1 + 1 ≤ D ∧ Call X l m_X12_setOnly d1 [.ref 124, .int (0 : Int32), .int x2] σ none σ2 ∧ ∃ d6 : Nat, ∃ v11 : Int32, ∃ σ7 : AH, d6 + 1 ≤ D ∧ Call X l m_X12_entryAt d6 [.ref 124, .int x1, .int (2 : Int32)] σ2 (some (.int v11)) σ7 ∧ ∃ d12 : Nat, ∃ v17 : Int32, ∃ σ13 : AH, d12 + 1 ≤ D ∧ Call X l m_X12_entryAt d12 [.ref 124, .int x1, .int (3 : Int32)] (sI σ7 136 2 v11) (some (.int v17)) σ13 ∧ ∃ d18 : Nat, ∃ v23 : Int32, ∃ σ19 : AH, d18 + 1 ≤ D ∧ Call X l m_X12_entryAt d18 [.ref 124, .int x1, .int (5 : Int32)] (sI σ13 136 3 v17) (some (.int v23)) σ19 ∧ ∃ d24 : Nat, ∃ v29 : Int32, ∃ σ25 : AH, d24 + 1 ≤ D ∧ Call X l m_X12_entryAt d24 [.ref 124, .int x1, .int (4 : Int32)] (sI σ19 136 4 v23) (some (.int v29)) σ25 ∧ (r = none ∧ σ' = (sI σ25 136 6 v29))
set_option maxRecDepth 100000 in
theorem w_X12_setEntry_0 {X : Sx} {l : Launch} {D : Nat} {x1 : Int32} {x2 : Int32} {σ : AH} {r : Option Value} {σ' : AH} (hs : Sh σ) (h : W_X12_setEntry_0 X l D x1 x2 σ r σ') : E X l m_X12_setEntry D 0 [(0, .ref 124), (1, .int x1), (2, .int x2)] [] σ r σ' := by
  unfold W_X12_setEntry_0 at h
  refine E_aload_n 0 dX12_setEntry_0 rfl rfl ?_
  refine E_iconst (0 : Int32) dX12_setEntry_1 (by decide) ?_
  refine E_iload_n 2 dX12_setEntry_2 rfl rfl ?_
  obtain ⟨d1, σ2, hD3, hC4, h⟩ := h
  have hs5 := hC4.1.2.2.2.1 hs
  refine E_callV (As := [.int (0 : Int32), .int x2]) (rest := []) (r1 := none) (b := 124) dX12_setEntry_3 ok_X12_setOnly in_X12_setOnly se_X12_setOnly ml_X12_440 hD3 rfl rfl (Nat.le_of_ble_eq_true rfl) (sk_124 hs) (sn hs (by decide)) (by decide) rfl (by decide +kernel) hC4 ?_
  refine E_aload_n 0 dX12_setEntry_6 rfl rfl ?_
  refine E_getR 136 dX12_setEntry_7 fl_X12_53 rfl (sk_124 hs5) (sn hs5 (by decide)) (sr_124_27 hs5) ?_
  refine E_iconst (2 : Int32) dX12_setEntry_10 (by decide) ?_
  refine E_aload_n 0 dX12_setEntry_11 rfl rfl ?_
  refine E_iload_n 1 dX12_setEntry_12 rfl rfl ?_
  refine E_iconst (2 : Int32) dX12_setEntry_13 (by decide) ?_
  obtain ⟨d6, v11, σ7, hD8, hC9, h⟩ := h
  have hs10 := hC9.1.2.2.2.1 hs5
  refine E_callV (As := [.int x1, .int (2 : Int32)]) (rest := [.int (2 : Int32), .ref 136]) (r1 := (some (.int v11))) (b := 124) dX12_setEntry_14 ok_X12_entryAt in_X12_entryAt se_X12_entryAt ml_X12_562 hD8 rfl rfl (Nat.le_of_ble_eq_true rfl) (sk_124 hs5) (sn hs5 (by decide)) (by decide) rfl (by decide +kernel) hC9 ?_
  refine E_iast2 2 dX12_setEntry_17 (sk_136 hs10) (sn hs10 (by decide)) (Or.inl (by decide)) (vp_lit (by decide)) (by decide) ?_
  refine E_aload_n 0 dX12_setEntry_18 rfl rfl ?_
  refine E_getR 136 dX12_setEntry_19 fl_X12_53 rfl (sk_124 hs10) (sn hs10 (by decide)) (sr_124_27 hs10) ?_
  refine E_iconst (3 : Int32) dX12_setEntry_22 (by decide) ?_
  refine E_aload_n 0 dX12_setEntry_23 rfl rfl ?_
  refine E_iload_n 1 dX12_setEntry_24 rfl rfl ?_
  refine E_iconst (3 : Int32) dX12_setEntry_25 (by decide) ?_
  obtain ⟨d12, v17, σ13, hD14, hC15, h⟩ := h
  have hs16 := hC15.1.2.2.2.1 hs10
  refine E_callV (As := [.int x1, .int (3 : Int32)]) (rest := [.int (3 : Int32), .ref 136]) (r1 := (some (.int v17))) (b := 124) dX12_setEntry_26 ok_X12_entryAt in_X12_entryAt se_X12_entryAt ml_X12_562 hD14 rfl rfl (Nat.le_of_ble_eq_true rfl) (sk_124 hs10) (sn hs10 (by decide)) (by decide) rfl (by decide +kernel) hC15 ?_
  refine E_iast2 3 dX12_setEntry_29 (sk_136 hs16) (sn hs16 (by decide)) (Or.inl (by decide)) (vp_lit (by decide)) (by decide) ?_
  refine E_aload_n 0 dX12_setEntry_30 rfl rfl ?_
  refine E_getR 136 dX12_setEntry_31 fl_X12_53 rfl (sk_124 hs16) (sn hs16 (by decide)) (sr_124_27 hs16) ?_
  refine E_iconst (4 : Int32) dX12_setEntry_34 (by decide) ?_
  refine E_aload_n 0 dX12_setEntry_35 rfl rfl ?_
  refine E_iload_n 1 dX12_setEntry_36 rfl rfl ?_
  refine E_iconst (5 : Int32) dX12_setEntry_37 (by decide) ?_
  obtain ⟨d18, v23, σ19, hD20, hC21, h⟩ := h
  have hs22 := hC21.1.2.2.2.1 hs16
  refine E_callV (As := [.int x1, .int (5 : Int32)]) (rest := [.int (4 : Int32), .ref 136]) (r1 := (some (.int v23))) (b := 124) dX12_setEntry_38 ok_X12_entryAt in_X12_entryAt se_X12_entryAt ml_X12_562 hD20 rfl rfl (Nat.le_of_ble_eq_true rfl) (sk_124 hs16) (sn hs16 (by decide)) (by decide) rfl (by decide +kernel) hC21 ?_
  refine E_iast2 4 dX12_setEntry_41 (sk_136 hs22) (sn hs22 (by decide)) (Or.inl (by decide)) (vp_lit (by decide)) (by decide) ?_
  refine E_aload_n 0 dX12_setEntry_42 rfl rfl ?_
  refine E_getR 136 dX12_setEntry_43 fl_X12_53 rfl (sk_124 hs22) (sn hs22 (by decide)) (sr_124_27 hs22) ?_
  refine E_bipush (6 : Int32) dX12_setEntry_46 (by decide) ?_
  refine E_aload_n 0 dX12_setEntry_48 rfl rfl ?_
  refine E_iload_n 1 dX12_setEntry_49 rfl rfl ?_
  refine E_iconst (4 : Int32) dX12_setEntry_50 (by decide) ?_
  obtain ⟨d24, v29, σ25, hD26, hC27, h⟩ := h
  have hs28 := hC27.1.2.2.2.1 hs22
  refine E_callV (As := [.int x1, .int (4 : Int32)]) (rest := [.int (6 : Int32), .ref 136]) (r1 := (some (.int v29))) (b := 124) dX12_setEntry_51 ok_X12_entryAt in_X12_entryAt se_X12_entryAt ml_X12_562 hD26 rfl rfl (Nat.le_of_ble_eq_true rfl) (sk_124 hs22) (sn hs22 (by decide)) (by decide) rfl (by decide +kernel) hC27 ?_
  refine E_iast2 6 dX12_setEntry_54 (sk_136 hs28) (sn hs28 (by decide)) (Or.inl (by decide)) (vp_lit (by decide)) (by decide) ?_
  obtain ⟨rfl, rfl⟩ := h
  exact E_vret dX12_setEntry_55 rfl
def W_X12_reckonPoints_33 (X : Sx) (l : Launch) (D : Nat) (x2 : Int32) (y0 : Int32) (y1 : Int32) (σ : AH) (r : Option Value) (σ' : AH) : Prop := vp_in y1 8 ∧ ∃ d19 : Nat, ∃ v24 : Int32, ∃ σ20 : AH, d19 + 1 ≤ D ∧ Call X l m_X12_find d19 [.ref 124, .int (3 : Int32), .int (0 : Int32), .int (0 : Int32), .int (0 : Int32), .int x2] (sI σ 136 y1.toNatClampNeg y0) (some (.int v24)) σ20 ∧ (r = some (.long (gL σ20 124 32)) ∧ σ' = σ20)
set_option maxRecDepth 100000 in
theorem w_X12_reckonPoints_33 {X : Sx} {l : Launch} {D : Nat} {x2 : Int32} {y0 : Int32} {y1 : Int32} {σ : AH} {r : Option Value} {σ' : AH} (hs : Sh σ) (h : W_X12_reckonPoints_33 X l D x2 y0 y1 σ r σ') : E X l m_X12_reckonPoints D 33 [(0, .ref 124), (2, .int x2)] [.int y0, .int y1, .ref 136] σ r σ' := by
  unfold W_X12_reckonPoints_33 at h
  obtain ⟨g18, h⟩ := h
  refine E_iast2 (y1.toNatClampNeg) dX12_reckonPoints_33 (sk_136 hs) (sn hs (by decide)) (Or.inl (by decide)) g18 rfl ?_
  refine E_aload_n 0 dX12_reckonPoints_34 rfl rfl ?_
  refine E_iconst (3 : Int32) dX12_reckonPoints_35 (by decide) ?_
  refine E_iconst (0 : Int32) dX12_reckonPoints_36 (by decide) ?_
  refine E_iconst (0 : Int32) dX12_reckonPoints_37 (by decide) ?_
  refine E_iconst (0 : Int32) dX12_reckonPoints_38 (by decide) ?_
  refine E_iload_n 1 dX12_reckonPoints_39 rfl rfl ?_
  obtain ⟨d19, v24, σ20, hD21, hC22, h⟩ := h
  have hs23 := hC22.1.2.2.2.1 hs
  refine E_callV (As := [.int (3 : Int32), .int (0 : Int32), .int (0 : Int32), .int (0 : Int32), .int x2]) (rest := []) (r1 := (some (.int v24))) (b := 124) dX12_reckonPoints_40 ok_X12_find in_X12_find se_X12_find ml_X12_443 hD21 rfl rfl (Nat.le_of_ble_eq_true rfl) (sk_124 hs) (sn hs (by decide)) (by decide) rfl (by decide +kernel) hC22 ?_
  refine E_pop dX12_reckonPoints_43 rfl ?_
  refine E_aload_n 0 dX12_reckonPoints_44 rfl rfl ?_
  refine E_getL dX12_reckonPoints_45 fl_X12_433 rfl (sk_124 hs23) (sn hs23 (by decide)) ?_
  obtain ⟨rfl, rfl⟩ := h
  exact E_lret dX12_reckonPoints_48 rfl
def W_X12_reckonPoints_0 (X : Sx) (l : Launch) (D : Nat) (x1 : Int32) (x2 : Int32) (σ : AH) (r : Option Value) (σ' : AH) : Prop := ∃ d1 : Nat, ∃ σ2 : AH, d1 + 1 ≤ D ∧ Call X l m_X12_setEntry d1 [.ref 124, .int x1, .int x2] σ none σ2 ∧ ∃ d6 : Nat, ∃ v11 : Int32, ∃ σ7 : AH, d6 + 1 ≤ D ∧ Call X l m_X12_entryAt d6 [.ref 124, .int x1, .int (1 : Int32)] σ2 (some (.int v11)) σ7 ∧ (if v11 ≤ x2 then ∃ d12 : Nat, ∃ v17 : Int32, ∃ σ13 : AH, d12 + 1 ≤ D ∧ Call X l m_X12_entryAt d12 [.ref 124, .int x1, .int (1 : Int32)] σ7 (some (.int v17)) σ13 ∧ W_X12_reckonPoints_33 X l D x2 (x2 - v17) (5 : Int32) σ13 r σ' else W_X12_reckonPoints_33 X l D x2 (0 : Int32) (5 : Int32) σ7 r σ')
set_option maxRecDepth 100000 in
theorem w_X12_reckonPoints_0 {X : Sx} {l : Launch} {D : Nat} {x1 : Int32} {x2 : Int32} {σ : AH} {r : Option Value} {σ' : AH} (hs : Sh σ) (h : W_X12_reckonPoints_0 X l D x1 x2 σ r σ') : E X l m_X12_reckonPoints D 0 [(0, .ref 124), (1, .int x1), (2, .int x2)] [] σ r σ' := by
  unfold W_X12_reckonPoints_0 at h
  refine E_aload_n 0 dX12_reckonPoints_0 rfl rfl ?_
  refine E_iload_n 1 dX12_reckonPoints_1 rfl rfl ?_
  refine E_iload_n 2 dX12_reckonPoints_2 rfl rfl ?_
  obtain ⟨d1, σ2, hD3, hC4, h⟩ := h
  have hs5 := hC4.1.2.2.2.1 hs
  refine E_callV (As := [.int x1, .int x2]) (rest := []) (r1 := none) (b := 124) dX12_reckonPoints_3 ok_X12_setEntry in_X12_setEntry se_X12_setEntry ml_X12_571 hD3 rfl rfl (Nat.le_of_ble_eq_true rfl) (sk_124 hs) (sn hs (by decide)) (by decide) rfl (by decide +kernel) hC4 ?_
  refine E_aload_n 0 dX12_reckonPoints_6 rfl rfl ?_
  refine E_getR 136 dX12_reckonPoints_7 fl_X12_53 rfl (sk_124 hs5) (sn hs5 (by decide)) (sr_124_27 hs5) ?_
  refine E_iconst (5 : Int32) dX12_reckonPoints_10 (by decide) ?_
  refine E_iload_n 2 dX12_reckonPoints_11 rfl rfl ?_
  refine E_aload_n 0 dX12_reckonPoints_12 rfl rfl ?_
  refine E_iload_n 1 dX12_reckonPoints_13 rfl rfl ?_
  refine E_iconst (1 : Int32) dX12_reckonPoints_14 (by decide) ?_
  obtain ⟨d6, v11, σ7, hD8, hC9, h⟩ := h
  have hs10 := hC9.1.2.2.2.1 hs5
  refine E_callV (As := [.int x1, .int (1 : Int32)]) (rest := [.int x2, .int (5 : Int32), .ref 136]) (r1 := (some (.int v11))) (b := 124) dX12_reckonPoints_15 ok_X12_entryAt in_X12_entryAt se_X12_entryAt ml_X12_562 hD8 rfl rfl (Nat.le_of_ble_eq_true rfl) (sk_124 hs5) (sn hs5 (by decide)) (by decide) rfl (by decide +kernel) hC9 ?_
  refine E_icmp_ge 25 dX12_reckonPoints_18 (by decide) (fun c => ?_) (fun c => ?_)
  · rw [if_pos c] at h
    refine E_iload_n 2 dX12_reckonPoints_25 rfl rfl ?_
    refine E_aload_n 0 dX12_reckonPoints_26 rfl rfl ?_
    refine E_iload_n 1 dX12_reckonPoints_27 rfl rfl ?_
    refine E_iconst (1 : Int32) dX12_reckonPoints_28 (by decide) ?_
    obtain ⟨d12, v17, σ13, hD14, hC15, h⟩ := h
    have hs16 := hC15.1.2.2.2.1 hs10
    refine E_callV (As := [.int x1, .int (1 : Int32)]) (rest := [.int x2, .int (5 : Int32), .ref 136]) (r1 := (some (.int v17))) (b := 124) dX12_reckonPoints_29 ok_X12_entryAt in_X12_entryAt se_X12_entryAt ml_X12_562 hD14 rfl rfl (Nat.le_of_ble_eq_true rfl) (sk_124 hs10) (sn hs10 (by decide)) (by decide) rfl (by decide +kernel) hC15 ?_
    refine E_isub dX12_reckonPoints_32 ?_
    exact E_lv [0, 2] rfl (w_X12_reckonPoints_33 hs16 h)
  · rw [if_neg c] at h
    refine E_iconst (0 : Int32) dX12_reckonPoints_21 (by decide) ?_
    refine E_goto 33 dX12_reckonPoints_22 (by decide) ?_
    exact E_lv [0, 2] rfl (w_X12_reckonPoints_33 hs10 h)
def W_X12_shown_0 (X : Sx) (l : Launch) (D : Nat) (x0 : Int64) (σ : AH) (r : Option Value) (σ' : AH) : Prop := (if x0 ≤ (1000000000 : Int64) then (if (-1000000000 : Int64) ≤ x0 then (r = some (.int (x0).toInt32) ∧ σ' = σ) else (r = some (.int (-1000000000 : Int32)) ∧ σ' = σ)) else (r = some (.int (1000000000 : Int32)) ∧ σ' = σ))
set_option maxRecDepth 100000 in
theorem w_X12_shown_0 {X : Sx} {l : Launch} {D : Nat} {x0 : Int64} {σ : AH} {r : Option Value} {σ' : AH} (hs : Sh σ) (h : W_X12_shown_0 X l D x0 σ r σ') : E X l m_X12_shown D 0 [(0, .long x0)] [] σ r σ' := by
  unfold W_X12_shown_0 at h
  refine E_lload_n 0 dX12_shown_0 rfl rfl ?_
  refine E_ldc2 (1000000000 : Int64) dX12_shown_1 cl_X12_421 ?_
  refine E_lcmp dX12_shown_4 ?_
  refine E_if_le 14 dX12_shown_5 (by decide) (fun c => ?_) (fun c => ?_)
  · rw [if_pos ((lc_le _ _).mp c)] at h
    refine E_lload_n 0 dX12_shown_14 rfl rfl ?_
    refine E_ldc2 (-1000000000 : Int64) dX12_shown_15 cl_X12_419 ?_
    refine E_lcmp dX12_shown_18 ?_
    refine E_if_ge 28 dX12_shown_19 (by decide) (fun c => ?_) (fun c => ?_)
    · rw [if_pos ((lc_ge _ _).mp c)] at h
      refine E_lload_n 0 dX12_shown_28 rfl rfl ?_
      refine E_l2i dX12_shown_29 ?_
      obtain ⟨rfl, rfl⟩ := h
      exact E_iret dX12_shown_30 rfl
    · rw [if_neg (fun q => c ((lc_ge _ _).mpr q))] at h
      refine E_ldcw (-1000000000 : Int32) dX12_shown_22 ct_X12_575 ?_
      refine E_goto 30 dX12_shown_25 (by decide) ?_
      obtain ⟨rfl, rfl⟩ := h
      exact E_iret dX12_shown_30 rfl
  · rw [if_neg (fun q => c ((lc_le _ _).mpr q))] at h
    refine E_ldcw (1000000000 : Int32) dX12_shown_8 ct_X12_574 ?_
    refine E_goto 30 dX12_shown_11 (by decide) ?_
    obtain ⟨rfl, rfl⟩ := h
    exact E_iret dX12_shown_30 rfl
def W_X12_points_0 (X : Sx) (l : Launch) (D : Nat) (x1 : Int32) (x2 : Int32) (x3 : Int32) (σ : AH) (r : Option Value) (σ' : AH) : Prop := ∃ d1 : Nat, ∃ v6 : Int32, ∃ σ2 : AH, d1 + 1 ≤ D ∧ Call X l m_X12_isEntry d1 [.ref 124, .int x1] (sI σ 124 0 (0 : Int32)) (some (.int v6)) σ2 ∧ (if v6 = 0 then (r = some (.int (-2000000000 : Int32)) ∧ σ' = σ2) else ∃ d7 : Nat, ∃ v12 : Int32, ∃ σ8 : AH, d7 + 1 ≤ D ∧ Call X l m_X12_isWeek d7 [.int x2] σ2 (some (.int v12)) σ8 ∧ (if v12 = 0 then (r = some (.int (-2000000000 : Int32)) ∧ σ' = σ8) else ∃ d13 : Nat, ∃ v18 : Int32, ∃ σ14 : AH, d13 + 1 ≤ D ∧ Call X l m_X12_isWeek d13 [.int x3] σ8 (some (.int v18)) σ14 ∧ (if v18 = 0 then (r = some (.int (-2000000000 : Int32)) ∧ σ' = σ14) else ∃ d19 : Nat, ∃ v24 : Int32, ∃ σ20 : AH, d19 + 1 ≤ D ∧ Call X l m_X12_entryAt d19 [.ref 124, .int x1, .int (6 : Int32)] σ14 (some (.int v24)) σ20 ∧ (if v24 ≤ x3 then ∃ d25 : Nat, ∃ σ26 : AH, d25 + 1 ≤ D ∧ Call X l m_X12_knowBy d25 [.ref 124, .int x3] σ20 none σ26 ∧ ∃ d30 : Nat, ∃ v35 : Int64, ∃ σ31 : AH, d30 + 1 ≤ D ∧ Call X l m_X12_reckonPoints d30 [.ref 124, .int x1, .int x2] σ26 (some (.long v35)) σ31 ∧ ∃ d36 : Nat, ∃ v41 : Int32, ∃ σ37 : AH, d36 + 1 ≤ D ∧ Call X l m_X12_shown d36 [.long v35] σ31 (some (.int v41)) σ37 ∧ (r = some (.int v41) ∧ σ' = σ37) else (r = some (.int (-2000000000 : Int32)) ∧ σ' = σ20)))))
set_option maxRecDepth 100000 in
theorem w_X12_points_0 {X : Sx} {l : Launch} {D : Nat} {x1 : Int32} {x2 : Int32} {x3 : Int32} {σ : AH} {r : Option Value} {σ' : AH} (hs : Sh σ) (h : W_X12_points_0 X l D x1 x2 x3 σ r σ') : E X l m_X12_points D 0 [(0, .ref 124), (1, .int x1), (2, .int x2), (3, .int x3)] [] σ r σ' := by
  unfold W_X12_points_0 at h
  refine E_aload_n 0 dX12_points_0 rfl rfl ?_
  refine E_iconst (0 : Int32) dX12_points_1 (by decide) ?_
  refine E_putI dX12_points_2 fl_X12_145 rfl (Or.inl rfl) (sk_124 hs) (sn hs (by decide)) (Or.inl (by decide)) rfl rfl ?_
  refine E_aload_n 0 dX12_points_5 rfl rfl ?_
  refine E_iload_n 1 dX12_points_6 rfl rfl ?_
  obtain ⟨d1, v6, σ2, hD3, hC4, h⟩ := h
  have hs5 := hC4.1.2.2.2.1 hs
  refine E_callV (As := [.int x1]) (rest := []) (r1 := (some (.int v6))) (b := 124) dX12_points_7 ok_X12_isEntry in_X12_isEntry se_X12_isEntry ml_X12_559 hD3 rfl rfl (Nat.le_of_ble_eq_true rfl) (sk_124 hs) (sn hs (by decide)) (by decide) rfl (by decide +kernel) hC4 ?_
  refine E_if_eq 38 dX12_points_10 (by decide) (fun c => ?_) (fun c => ?_)
  · rw [if_pos c] at h
    refine E_ldcw (-2000000000 : Int32) dX12_points_38 ct_X12_528 ?_
    obtain ⟨rfl, rfl⟩ := h
    exact E_iret dX12_points_41 rfl
  · rw [if_neg c] at h
    refine E_iload_n 2 dX12_points_13 rfl rfl ?_
    obtain ⟨d7, v12, σ8, hD9, hC10, h⟩ := h
    have hs11 := hC10.1.2.2.2.1 hs5
    refine E_callS (As := [.int x2]) (rest := []) (r1 := (some (.int v12))) dX12_points_14 ok_X12_isWeek is_X12_isWeek ml_X12_387 hD9 rfl rfl (Nat.le_of_ble_eq_true rfl) (by decide +kernel) hC10 ?_
    refine E_if_eq 38 dX12_points_17 (by decide) (fun c => ?_) (fun c => ?_)
    · rw [if_pos c] at h
      refine E_ldcw (-2000000000 : Int32) dX12_points_38 ct_X12_528 ?_
      obtain ⟨rfl, rfl⟩ := h
      exact E_iret dX12_points_41 rfl
    · rw [if_neg c] at h
      refine E_iload_n 3 dX12_points_20 rfl rfl ?_
      obtain ⟨d13, v18, σ14, hD15, hC16, h⟩ := h
      have hs17 := hC16.1.2.2.2.1 hs11
      refine E_callS (As := [.int x3]) (rest := []) (r1 := (some (.int v18))) dX12_points_21 ok_X12_isWeek is_X12_isWeek ml_X12_387 hD15 rfl rfl (Nat.le_of_ble_eq_true rfl) (by decide +kernel) hC16 ?_
      refine E_if_eq 38 dX12_points_24 (by decide) (fun c => ?_) (fun c => ?_)
      · rw [if_pos c] at h
        refine E_ldcw (-2000000000 : Int32) dX12_points_38 ct_X12_528 ?_
        obtain ⟨rfl, rfl⟩ := h
        exact E_iret dX12_points_41 rfl
      · rw [if_neg c] at h
        refine E_aload_n 0 dX12_points_27 rfl rfl ?_
        refine E_iload_n 1 dX12_points_28 rfl rfl ?_
        refine E_bipush (6 : Int32) dX12_points_29 (by decide) ?_
        obtain ⟨d19, v24, σ20, hD21, hC22, h⟩ := h
        have hs23 := hC22.1.2.2.2.1 hs17
        refine E_callV (As := [.int x1, .int (6 : Int32)]) (rest := []) (r1 := (some (.int v24))) (b := 124) dX12_points_31 ok_X12_entryAt in_X12_entryAt se_X12_entryAt ml_X12_562 hD21 rfl rfl (Nat.le_of_ble_eq_true rfl) (sk_124 hs17) (sn hs17 (by decide)) (by decide) rfl (by decide +kernel) hC22 ?_
        refine E_iload_n 3 dX12_points_34 rfl rfl ?_
        refine E_icmp_le 42 dX12_points_35 (by decide) (fun c => ?_) (fun c => ?_)
        · rw [if_pos c] at h
          refine E_aload_n 0 dX12_points_42 rfl rfl ?_
          refine E_iload_n 3 dX12_points_43 rfl rfl ?_
          obtain ⟨d25, σ26, hD27, hC28, h⟩ := h
          have hs29 := hC28.1.2.2.2.1 hs23
          refine E_callV (As := [.int x3]) (rest := []) (r1 := none) (b := 124) dX12_points_44 ok_X12_knowBy in_X12_knowBy se_X12_knowBy ml_X12_406 hD27 rfl rfl (Nat.le_of_ble_eq_true rfl) (sk_124 hs23) (sn hs23 (by decide)) (by decide) rfl (by decide +kernel) hC28 ?_
          refine E_aload_n 0 dX12_points_47 rfl rfl ?_
          refine E_iload_n 1 dX12_points_48 rfl rfl ?_
          refine E_iload_n 2 dX12_points_49 rfl rfl ?_
          obtain ⟨d30, v35, σ31, hD32, hC33, h⟩ := h
          have hs34 := hC33.1.2.2.2.1 hs29
          refine E_callV (As := [.int x1, .int x2]) (rest := []) (r1 := (some (.long v35))) (b := 124) dX12_points_50 ok_X12_reckonPoints in_X12_reckonPoints se_X12_reckonPoints ml_X12_576 hD32 rfl rfl (Nat.le_of_ble_eq_true rfl) (sk_124 hs29) (sn hs29 (by decide)) (by decide) rfl (by decide +kernel) hC33 ?_
          obtain ⟨d36, v41, σ37, hD38, hC39, h⟩ := h
          have hs40 := hC39.1.2.2.2.1 hs34
          refine E_callS (As := [.long v35]) (rest := []) (r1 := (some (.int v41))) dX12_points_53 ok_X12_shown is_X12_shown ml_X12_580 hD38 rfl rfl (Nat.le_of_ble_eq_true rfl) (by decide +kernel) hC39 ?_
          obtain ⟨rfl, rfl⟩ := h
          exact E_iret dX12_points_56 rfl
        · rw [if_neg c] at h
          refine E_ldcw (-2000000000 : Int32) dX12_points_38 ct_X12_528 ?_
          obtain ⟨rfl, rfl⟩ := h
          exact E_iret dX12_points_41 rfl
def W_X12_standsAhead_0 (X : Sx) (l : Launch) (D : Nat) (x1 : Int32) (x2 : Int32) (σ : AH) (r : Option Value) (σ' : AH) : Prop := vp_in x1 60 ∧ vp_in x2 60 ∧ (if (gL σ 161 x1.toNatClampNeg) = (gL σ 161 x2.toNatClampNeg) then ∃ d3 : Nat, ∃ v8 : Int32, ∃ σ4 : AH, d3 + 1 ≤ D ∧ Call X l m_X12_entryAt d3 [.ref 124, .int x1, .int (1 : Int32)] σ (some (.int v8)) σ4 ∧ ∃ d9 : Nat, ∃ v14 : Int32, ∃ σ10 : AH, d9 + 1 ≤ D ∧ Call X l m_X12_entryAt d9 [.ref 124, .int x2, .int (1 : Int32)] σ4 (some (.int v14)) σ10 ∧ (if v8 = v14 then (if x2 ≤ x1 then (r = some (.int (0 : Int32)) ∧ σ' = σ10) else (r = some (.int (1 : Int32)) ∧ σ' = σ10)) else ∃ d15 : Nat, ∃ v20 : Int32, ∃ σ16 : AH, d15 + 1 ≤ D ∧ Call X l m_X12_entryAt d15 [.ref 124, .int x1, .int (1 : Int32)] σ10 (some (.int v20)) σ16 ∧ ∃ d21 : Nat, ∃ v26 : Int32, ∃ σ22 : AH, d21 + 1 ≤ D ∧ Call X l m_X12_entryAt d21 [.ref 124, .int x2, .int (1 : Int32)] σ16 (some (.int v26)) σ22 ∧ (if v26 ≤ v20 then (r = some (.int (0 : Int32)) ∧ σ' = σ22) else (r = some (.int (1 : Int32)) ∧ σ' = σ22))) else vp_in x1 60 ∧ vp_in x2 60 ∧ (if (gL σ 161 x1.toNatClampNeg) ≤ (gL σ 161 x2.toNatClampNeg) then (r = some (.int (0 : Int32)) ∧ σ' = σ) else (r = some (.int (1 : Int32)) ∧ σ' = σ)))
set_option maxRecDepth 100000 in
theorem w_X12_standsAhead_0 {X : Sx} {l : Launch} {D : Nat} {x1 : Int32} {x2 : Int32} {σ : AH} {r : Option Value} {σ' : AH} (hs : Sh σ) (h : W_X12_standsAhead_0 X l D x1 x2 σ r σ') : E X l m_X12_standsAhead D 0 [(0, .ref 124), (1, .int x1), (2, .int x2)] [] σ r σ' := by
  unfold W_X12_standsAhead_0 at h
  refine E_aload_n 0 dX12_standsAhead_0 rfl rfl ?_
  refine E_getR 161 dX12_standsAhead_1 fl_X12_130 rfl (sk_124 hs) (sn hs (by decide)) (sr_124_63 hs) ?_
  refine E_iload_n 1 dX12_standsAhead_4 rfl rfl ?_
  obtain ⟨g1, h⟩ := h
  refine E_lald2 (x1.toNatClampNeg) dX12_standsAhead_5 (sk_161 hs) (sn hs (by decide)) g1 rfl ?_
  refine E_aload_n 0 dX12_standsAhead_6 rfl rfl ?_
  refine E_getR 161 dX12_standsAhead_7 fl_X12_130 rfl (sk_124 hs) (sn hs (by decide)) (sr_124_63 hs) ?_
  refine E_iload_n 2 dX12_standsAhead_10 rfl rfl ?_
  obtain ⟨g2, h⟩ := h
  refine E_lald2 (x2.toNatClampNeg) dX12_standsAhead_11 (sk_161 hs) (sn hs (by decide)) g2 rfl ?_
  refine E_lcmp dX12_standsAhead_12 ?_
  refine E_if_eq 38 dX12_standsAhead_13 (by decide) (fun c => ?_) (fun c => ?_)
  · rw [if_pos ((lc_eq _ _).mp c)] at h
    refine E_aload_n 0 dX12_standsAhead_38 rfl rfl ?_
    refine E_iload_n 1 dX12_standsAhead_39 rfl rfl ?_
    refine E_iconst (1 : Int32) dX12_standsAhead_40 (by decide) ?_
    obtain ⟨d3, v8, σ4, hD5, hC6, h⟩ := h
    have hs7 := hC6.1.2.2.2.1 hs
    refine E_callV (As := [.int x1, .int (1 : Int32)]) (rest := []) (r1 := (some (.int v8))) (b := 124) dX12_standsAhead_41 ok_X12_entryAt in_X12_entryAt se_X12_entryAt ml_X12_562 hD5 rfl rfl (Nat.le_of_ble_eq_true rfl) (sk_124 hs) (sn hs (by decide)) (by decide) rfl (by decide +kernel) hC6 ?_
    refine E_aload_n 0 dX12_standsAhead_44 rfl rfl ?_
    refine E_iload_n 2 dX12_standsAhead_45 rfl rfl ?_
    refine E_iconst (1 : Int32) dX12_standsAhead_46 (by decide) ?_
    obtain ⟨d9, v14, σ10, hD11, hC12, h⟩ := h
    have hs13 := hC12.1.2.2.2.1 hs7
    refine E_callV (As := [.int x2, .int (1 : Int32)]) (rest := [.int v8]) (r1 := (some (.int v14))) (b := 124) dX12_standsAhead_47 ok_X12_entryAt in_X12_entryAt se_X12_entryAt ml_X12_562 hD11 rfl rfl (Nat.le_of_ble_eq_true rfl) (sk_124 hs7) (sn hs7 (by decide)) (by decide) rfl (by decide +kernel) hC12 ?_
    refine E_icmp_eq 76 dX12_standsAhead_50 (by decide) (fun c => ?_) (fun c => ?_)
    · rw [if_pos c] at h
      refine E_iload_n 1 dX12_standsAhead_76 rfl rfl ?_
      refine E_iload_n 2 dX12_standsAhead_77 rfl rfl ?_
      refine E_icmp_ge 85 dX12_standsAhead_78 (by decide) (fun c => ?_) (fun c => ?_)
      · rw [if_pos c] at h
        refine E_iconst (0 : Int32) dX12_standsAhead_85 (by decide) ?_
        obtain ⟨rfl, rfl⟩ := h
        exact E_zret dX12_standsAhead_86 rfl (Or.inl rfl)
      · rw [if_neg c] at h
        refine E_iconst (1 : Int32) dX12_standsAhead_81 (by decide) ?_
        refine E_goto 86 dX12_standsAhead_82 (by decide) ?_
        obtain ⟨rfl, rfl⟩ := h
        exact E_zret dX12_standsAhead_86 rfl (Or.inr rfl)
    · rw [if_neg c] at h
      refine E_aload_n 0 dX12_standsAhead_53 rfl rfl ?_
      refine E_iload_n 1 dX12_standsAhead_54 rfl rfl ?_
      refine E_iconst (1 : Int32) dX12_standsAhead_55 (by decide) ?_
      obtain ⟨d15, v20, σ16, hD17, hC18, h⟩ := h
      have hs19 := hC18.1.2.2.2.1 hs13
      refine E_callV (As := [.int x1, .int (1 : Int32)]) (rest := []) (r1 := (some (.int v20))) (b := 124) dX12_standsAhead_56 ok_X12_entryAt in_X12_entryAt se_X12_entryAt ml_X12_562 hD17 rfl rfl (Nat.le_of_ble_eq_true rfl) (sk_124 hs13) (sn hs13 (by decide)) (by decide) rfl (by decide +kernel) hC18 ?_
      refine E_aload_n 0 dX12_standsAhead_59 rfl rfl ?_
      refine E_iload_n 2 dX12_standsAhead_60 rfl rfl ?_
      refine E_iconst (1 : Int32) dX12_standsAhead_61 (by decide) ?_
      obtain ⟨d21, v26, σ22, hD23, hC24, h⟩ := h
      have hs25 := hC24.1.2.2.2.1 hs19
      refine E_callV (As := [.int x2, .int (1 : Int32)]) (rest := [.int v20]) (r1 := (some (.int v26))) (b := 124) dX12_standsAhead_62 ok_X12_entryAt in_X12_entryAt se_X12_entryAt ml_X12_562 hD23 rfl rfl (Nat.le_of_ble_eq_true rfl) (sk_124 hs19) (sn hs19 (by decide)) (by decide) rfl (by decide +kernel) hC24 ?_
      refine E_icmp_ge 72 dX12_standsAhead_65 (by decide) (fun c => ?_) (fun c => ?_)
      · rw [if_pos c] at h
        refine E_iconst (0 : Int32) dX12_standsAhead_72 (by decide) ?_
        refine E_goto 86 dX12_standsAhead_73 (by decide) ?_
        obtain ⟨rfl, rfl⟩ := h
        exact E_zret dX12_standsAhead_86 rfl (Or.inl rfl)
      · rw [if_neg c] at h
        refine E_iconst (1 : Int32) dX12_standsAhead_68 (by decide) ?_
        refine E_goto 86 dX12_standsAhead_69 (by decide) ?_
        obtain ⟨rfl, rfl⟩ := h
        exact E_zret dX12_standsAhead_86 rfl (Or.inr rfl)
  · rw [if_neg (fun q => c ((lc_eq _ _).mpr q))] at h
    refine E_aload_n 0 dX12_standsAhead_16 rfl rfl ?_
    refine E_getR 161 dX12_standsAhead_17 fl_X12_130 rfl (sk_124 hs) (sn hs (by decide)) (sr_124_63 hs) ?_
    refine E_iload_n 1 dX12_standsAhead_20 rfl rfl ?_
    obtain ⟨g27, h⟩ := h
    refine E_lald2 (x1.toNatClampNeg) dX12_standsAhead_21 (sk_161 hs) (sn hs (by decide)) g27 rfl ?_
    refine E_aload_n 0 dX12_standsAhead_22 rfl rfl ?_
    refine E_getR 161 dX12_standsAhead_23 fl_X12_130 rfl (sk_124 hs) (sn hs (by decide)) (sr_124_63 hs) ?_
    refine E_iload_n 2 dX12_standsAhead_26 rfl rfl ?_
    obtain ⟨g28, h⟩ := h
    refine E_lald2 (x2.toNatClampNeg) dX12_standsAhead_27 (sk_161 hs) (sn hs (by decide)) g28 rfl ?_
    refine E_lcmp dX12_standsAhead_28 ?_
    refine E_if_le 36 dX12_standsAhead_29 (by decide) (fun c => ?_) (fun c => ?_)
    · rw [if_pos ((lc_le _ _).mp c)] at h
      refine E_iconst (0 : Int32) dX12_standsAhead_36 (by decide) ?_
      obtain ⟨rfl, rfl⟩ := h
      exact E_zret dX12_standsAhead_37 rfl (Or.inl rfl)
    · rw [if_neg (fun q => c ((lc_le _ _).mpr q))] at h
      refine E_iconst (1 : Int32) dX12_standsAhead_32 (by decide) ?_
      refine E_goto 37 dX12_standsAhead_33 (by decide) ?_
      obtain ⟨rfl, rfl⟩ := h
      exact E_zret dX12_standsAhead_37 rfl (Or.inr rfl)
