theorem dX12_goWeek_0 : decode cX12_goWeek 0 = .ok (.iconst 0, 1) := by decide +kernel
theorem dX12_goWeek_1 : decode cX12_goWeek 1 = .ok (.istore_n 2, 1) := by decide +kernel
theorem dX12_goWeek_2 : decode cX12_goWeek 2 = .ok (.iload_n 2, 1) := by decide +kernel
theorem dX12_goWeek_3 : decode cX12_goWeek 3 = .ok (.aload_n 0, 1) := by decide +kernel
theorem dX12_goWeek_4 : decode cX12_goWeek 4 = .ok (.getfield 8, 3) := by decide +kernel
theorem dX12_goWeek_7 : decode cX12_goWeek 7 = .ok (.iconst 1, 1) := by decide +kernel
theorem dX12_goWeek_8 : decode cX12_goWeek 8 = .ok (.iaload, 1) := by decide +kernel
theorem dX12_goWeek_9 : decode cX12_goWeek 9 = .ok (.if_icmp .ge 92, 3) := by decide +kernel
theorem dX12_goWeek_12 : decode cX12_goWeek 12 = .ok (.sipush 22748, 3) := by decide +kernel
theorem dX12_goWeek_15 : decode cX12_goWeek 15 = .ok (.iconst 4, 1) := by decide +kernel
theorem dX12_goWeek_16 : decode cX12_goWeek 16 = .ok (.iload_n 2, 1) := by decide +kernel
theorem dX12_goWeek_17 : decode cX12_goWeek 17 = .ok (.imul, 1) := by decide +kernel
theorem dX12_goWeek_18 : decode cX12_goWeek 18 = .ok (.iadd, 1) := by decide +kernel
theorem dX12_goWeek_19 : decode cX12_goWeek 19 = .ok (.istore_n 3, 1) := by decide +kernel
theorem dX12_goWeek_20 : decode cX12_goWeek 20 = .ok (.aload_n 0, 1) := by decide +kernel
theorem dX12_goWeek_21 : decode cX12_goWeek 21 = .ok (.getfield 8, 3) := by decide +kernel
theorem dX12_goWeek_24 : decode cX12_goWeek 24 = .ok (.iload_n 3, 1) := by decide +kernel
theorem dX12_goWeek_25 : decode cX12_goWeek 25 = .ok (.iconst 1, 1) := by decide +kernel
theorem dX12_goWeek_26 : decode cX12_goWeek 26 = .ok (.iadd, 1) := by decide +kernel
theorem dX12_goWeek_27 : decode cX12_goWeek 27 = .ok (.iaload, 1) := by decide +kernel
theorem dX12_goWeek_28 : decode cX12_goWeek 28 = .ok (.aload_n 0, 1) := by decide +kernel
theorem dX12_goWeek_29 : decode cX12_goWeek 29 = .ok (.getfield 8, 3) := by decide +kernel
theorem dX12_goWeek_32 : decode cX12_goWeek 32 = .ok (.iload_n 3, 1) := by decide +kernel
theorem dX12_goWeek_33 : decode cX12_goWeek 33 = .ok (.iaload, 1) := by decide +kernel
theorem dX12_goWeek_34 : decode cX12_goWeek 34 = .ok (.ifCond .ne 10, 3) := by decide +kernel
theorem dX12_goWeek_37 : decode cX12_goWeek 37 = .ok (.aload_n 0, 1) := by decide +kernel
theorem dX12_goWeek_38 : decode cX12_goWeek 38 = .ok (.getfield 480, 3) := by decide +kernel
theorem dX12_goWeek_41 : decode cX12_goWeek 41 = .ok (.goto 4, 3) := by decide +kernel
theorem dX12_goWeek_44 : decode cX12_goWeek 44 = .ok (.iconst 0, 1) := by decide +kernel
theorem dX12_goWeek_45 : decode cX12_goWeek 45 = .ok (.iadd, 1) := by decide +kernel
theorem dX12_goWeek_46 : decode cX12_goWeek 46 = .ok (.istore 4, 2) := by decide +kernel
theorem dX12_goWeek_48 : decode cX12_goWeek 48 = .ok (.aload_n 0, 1) := by decide +kernel
theorem dX12_goWeek_49 : decode cX12_goWeek 49 = .ok (.getfield 73, 3) := by decide +kernel
theorem dX12_goWeek_52 : decode cX12_goWeek 52 = .ok (.aload_n 0, 1) := by decide +kernel
theorem dX12_goWeek_53 : decode cX12_goWeek 53 = .ok (.getfield 8, 3) := by decide +kernel
theorem dX12_goWeek_56 : decode cX12_goWeek 56 = .ok (.iload_n 3, 1) := by decide +kernel
theorem dX12_goWeek_57 : decode cX12_goWeek 57 = .ok (.iaload, 1) := by decide +kernel
theorem dX12_goWeek_58 : decode cX12_goWeek 58 = .ok (.dup2, 1) := by decide +kernel
theorem dX12_goWeek_59 : decode cX12_goWeek 59 = .ok (.iaload, 1) := by decide +kernel
theorem dX12_goWeek_60 : decode cX12_goWeek 60 = .ok (.aload_n 0, 1) := by decide +kernel
theorem dX12_goWeek_61 : decode cX12_goWeek 61 = .ok (.getfield 8, 3) := by decide +kernel
theorem dX12_goWeek_64 : decode cX12_goWeek 64 = .ok (.iload_n 3, 1) := by decide +kernel
theorem dX12_goWeek_65 : decode cX12_goWeek 65 = .ok (.iconst 3, 1) := by decide +kernel
theorem dX12_goWeek_66 : decode cX12_goWeek 66 = .ok (.iadd, 1) := by decide +kernel
theorem dX12_goWeek_67 : decode cX12_goWeek 67 = .ok (.iaload, 1) := by decide +kernel
theorem dX12_goWeek_68 : decode cX12_goWeek 68 = .ok (.aload_n 0, 1) := by decide +kernel
theorem dX12_goWeek_69 : decode cX12_goWeek 69 = .ok (.getfield 399, 3) := by decide +kernel
theorem dX12_goWeek_72 : decode cX12_goWeek 72 = .ok (.if_icmp .gt 20, 3) := by decide +kernel
theorem dX12_goWeek_75 : decode cX12_goWeek 75 = .ok (.iload 4, 2) := by decide +kernel
theorem dX12_goWeek_77 : decode cX12_goWeek 77 = .ok (.iload_n 1, 1) := by decide +kernel
theorem dX12_goWeek_78 : decode cX12_goWeek 78 = .ok (.if_icmp .ne 14, 3) := by decide +kernel
theorem dX12_goWeek_81 : decode cX12_goWeek 81 = .ok (.aload_n 0, 1) := by decide +kernel
theorem dX12_goWeek_82 : decode cX12_goWeek 82 = .ok (.getfield 8, 3) := by decide +kernel
theorem dX12_goWeek_85 : decode cX12_goWeek 85 = .ok (.iload_n 3, 1) := by decide +kernel
theorem dX12_goWeek_86 : decode cX12_goWeek 86 = .ok (.iconst 2, 1) := by decide +kernel
theorem dX12_goWeek_87 : decode cX12_goWeek 87 = .ok (.iadd, 1) := by decide +kernel
theorem dX12_goWeek_88 : decode cX12_goWeek 88 = .ok (.iaload, 1) := by decide +kernel
theorem dX12_goWeek_89 : decode cX12_goWeek 89 = .ok (.goto 4, 3) := by decide +kernel
theorem dX12_goWeek_92 : decode cX12_goWeek 92 = .ok (.iconst 0, 1) := by decide +kernel
theorem dX12_goWeek_93 : decode cX12_goWeek 93 = .ok (.iadd, 1) := by decide +kernel
theorem dX12_goWeek_94 : decode cX12_goWeek 94 = .ok (.iastore, 1) := by decide +kernel
theorem dX12_goWeek_95 : decode cX12_goWeek 95 = .ok (.iinc 2 1, 3) := by decide +kernel
theorem dX12_goWeek_98 : decode cX12_goWeek 98 = .ok (.goto (-96), 3) := by decide +kernel
theorem dX12_goWeek_101 : decode cX12_goWeek 101 = .ok (.iconst 0, 1) := by decide +kernel
theorem dX12_goWeek_102 : decode cX12_goWeek 102 = .ok (.istore_n 2, 1) := by decide +kernel
theorem dX12_goWeek_103 : decode cX12_goWeek 103 = .ok (.iload_n 2, 1) := by decide +kernel
theorem dX12_goWeek_104 : decode cX12_goWeek 104 = .ok (.aload_n 0, 1) := by decide +kernel
theorem dX12_goWeek_105 : decode cX12_goWeek 105 = .ok (.getfield 8, 3) := by decide +kernel
theorem dX12_goWeek_108 : decode cX12_goWeek 108 = .ok (.iconst 2, 1) := by decide +kernel
theorem dX12_goWeek_109 : decode cX12_goWeek 109 = .ok (.iaload, 1) := by decide +kernel
theorem dX12_goWeek_110 : decode cX12_goWeek 110 = .ok (.if_icmp .ge 22, 3) := by decide +kernel
theorem dX12_goWeek_113 : decode cX12_goWeek 113 = .ok (.aload_n 0, 1) := by decide +kernel
theorem dX12_goWeek_114 : decode cX12_goWeek 114 = .ok (.sipush 23228, 3) := by decide +kernel
theorem dX12_goWeek_117 : decode cX12_goWeek 117 = .ok (.bipush 8, 2) := by decide +kernel
theorem dX12_goWeek_119 : decode cX12_goWeek 119 = .ok (.iload_n 2, 1) := by decide +kernel
theorem dX12_goWeek_120 : decode cX12_goWeek 120 = .ok (.imul, 1) := by decide +kernel
theorem dX12_goWeek_121 : decode cX12_goWeek 121 = .ok (.iadd, 1) := by decide +kernel
theorem dX12_goWeek_122 : decode cX12_goWeek 122 = .ok (.iload_n 1, 1) := by decide +kernel
theorem dX12_goWeek_123 : decode cX12_goWeek 123 = .ok (.invokevirtual 489, 3) := by decide +kernel
theorem dX12_goWeek_126 : decode cX12_goWeek 126 = .ok (.iinc 2 1, 3) := by decide +kernel
theorem dX12_goWeek_129 : decode cX12_goWeek 129 = .ok (.goto (-26), 3) := by decide +kernel
theorem dX12_goWeek_132 : decode cX12_goWeek 132 = .ok (.iconst 0, 1) := by decide +kernel
theorem dX12_goWeek_133 : decode cX12_goWeek 133 = .ok (.istore_n 2, 1) := by decide +kernel
theorem dX12_goWeek_134 : decode cX12_goWeek 134 = .ok (.iload_n 2, 1) := by decide +kernel
theorem dX12_goWeek_135 : decode cX12_goWeek 135 = .ok (.bipush 6, 2) := by decide +kernel
theorem dX12_goWeek_137 : decode cX12_goWeek 137 = .ok (.if_icmp .ge 21, 3) := by decide +kernel
theorem dX12_goWeek_140 : decode cX12_goWeek 140 = .ok (.aload_n 0, 1) := by decide +kernel
theorem dX12_goWeek_141 : decode cX12_goWeek 141 = .ok (.getfield 76, 3) := by decide +kernel
theorem dX12_goWeek_144 : decode cX12_goWeek 144 = .ok (.iload_n 2, 1) := by decide +kernel
theorem dX12_goWeek_145 : decode cX12_goWeek 145 = .ok (.aload_n 0, 1) := by decide +kernel
theorem dX12_goWeek_146 : decode cX12_goWeek 146 = .ok (.iload_n 2, 1) := by decide +kernel
theorem dX12_goWeek_147 : decode cX12_goWeek 147 = .ok (.iload_n 1, 1) := by decide +kernel
theorem dX12_goWeek_148 : decode cX12_goWeek 148 = .ok (.invokevirtual 492, 3) := by decide +kernel
theorem dX12_goWeek_151 : decode cX12_goWeek 151 = .ok (.iastore, 1) := by decide +kernel
theorem dX12_goWeek_152 : decode cX12_goWeek 152 = .ok (.iinc 2 1, 3) := by decide +kernel
theorem dX12_goWeek_155 : decode cX12_goWeek 155 = .ok (.goto (-21), 3) := by decide +kernel
theorem dX12_goWeek_158 : decode cX12_goWeek 158 = .ok (.aload_n 0, 1) := by decide +kernel
theorem dX12_goWeek_159 : decode cX12_goWeek 159 = .ok (.iload_n 1, 1) := by decide +kernel
theorem dX12_goWeek_160 : decode cX12_goWeek 160 = .ok (.invokevirtual 495, 3) := by decide +kernel
theorem dX12_goWeek_163 : decode cX12_goWeek 163 = .ok (.istore_n 2, 1) := by decide +kernel
theorem dX12_goWeek_164 : decode cX12_goWeek 164 = .ok (.iconst 0, 1) := by decide +kernel
theorem dX12_goWeek_165 : decode cX12_goWeek 165 = .ok (.istore_n 3, 1) := by decide +kernel
theorem dX12_goWeek_166 : decode cX12_goWeek 166 = .ok (.iconst 0, 1) := by decide +kernel
theorem dX12_goWeek_167 : decode cX12_goWeek 167 = .ok (.istore 4, 2) := by decide +kernel
theorem dX12_goWeek_169 : decode cX12_goWeek 169 = .ok (.iload 4, 2) := by decide +kernel
theorem dX12_goWeek_171 : decode cX12_goWeek 171 = .ok (.aload_n 0, 1) := by decide +kernel
theorem dX12_goWeek_172 : decode cX12_goWeek 172 = .ok (.getfield 8, 3) := by decide +kernel
theorem dX12_goWeek_175 : decode cX12_goWeek 175 = .ok (.iconst 4, 1) := by decide +kernel
theorem dX12_goWeek_176 : decode cX12_goWeek 176 = .ok (.iaload, 1) := by decide +kernel
theorem dX12_goWeek_177 : decode cX12_goWeek 177 = .ok (.if_icmp .ge 152, 3) := by decide +kernel
theorem dX12_goWeek_180 : decode cX12_goWeek 180 = .ok (.aload_n 0, 1) := by decide +kernel
theorem dX12_goWeek_181 : decode cX12_goWeek 181 = .ok (.getfield 88, 3) := by decide +kernel
theorem dX12_goWeek_184 : decode cX12_goWeek 184 = .ok (.iload 4, 2) := by decide +kernel
theorem dX12_goWeek_186 : decode cX12_goWeek 186 = .ok (.iconst 0, 1) := by decide +kernel
theorem dX12_goWeek_187 : decode cX12_goWeek 187 = .ok (.bastore, 1) := by decide +kernel
theorem dX12_goWeek_188 : decode cX12_goWeek 188 = .ok (.aload_n 0, 1) := by decide +kernel
theorem dX12_goWeek_189 : decode cX12_goWeek 189 = .ok (.getfield 67, 3) := by decide +kernel
theorem dX12_goWeek_192 : decode cX12_goWeek 192 = .ok (.iload 4, 2) := by decide +kernel
theorem dX12_goWeek_194 : decode cX12_goWeek 194 = .ok (.iaload, 1) := by decide +kernel
theorem dX12_goWeek_195 : decode cX12_goWeek 195 = .ok (.iconst (-1), 1) := by decide +kernel
theorem dX12_goWeek_196 : decode cX12_goWeek 196 = .ok (.if_icmp .eq 58, 3) := by decide +kernel
theorem dX12_goWeek_199 : decode cX12_goWeek 199 = .ok (.aload_n 0, 1) := by decide +kernel
theorem dX12_goWeek_200 : decode cX12_goWeek 200 = .ok (.getfield 67, 3) := by decide +kernel
theorem dX12_goWeek_203 : decode cX12_goWeek 203 = .ok (.iload 4, 2) := by decide +kernel
theorem dX12_goWeek_205 : decode cX12_goWeek 205 = .ok (.iaload, 1) := by decide +kernel
theorem dX12_goWeek_206 : decode cX12_goWeek 206 = .ok (.iload_n 1, 1) := by decide +kernel
theorem dX12_goWeek_207 : decode cX12_goWeek 207 = .ok (.if_icmp .gt 47, 3) := by decide +kernel
theorem dX12_goWeek_210 : decode cX12_goWeek 210 = .ok (.aload_n 0, 1) := by decide +kernel
theorem dX12_goWeek_211 : decode cX12_goWeek 211 = .ok (.getfield 8, 3) := by decide +kernel
theorem dX12_goWeek_214 : decode cX12_goWeek 214 = .ok (.sipush 23532, 3) := by decide +kernel
theorem dX12_goWeek_217 : decode cX12_goWeek 217 = .ok (.iconst 4, 1) := by decide +kernel
theorem dX12_goWeek_218 : decode cX12_goWeek 218 = .ok (.iload 4, 2) := by decide +kernel
theorem dX12_goWeek_220 : decode cX12_goWeek 220 = .ok (.imul, 1) := by decide +kernel
theorem dX12_goWeek_221 : decode cX12_goWeek 221 = .ok (.iadd, 1) := by decide +kernel
theorem dX12_goWeek_222 : decode cX12_goWeek 222 = .ok (.iconst 3, 1) := by decide +kernel
theorem dX12_goWeek_223 : decode cX12_goWeek 223 = .ok (.iadd, 1) := by decide +kernel
theorem dX12_goWeek_224 : decode cX12_goWeek 224 = .ok (.iaload, 1) := by decide +kernel
theorem dX12_goWeek_225 : decode cX12_goWeek 225 = .ok (.iload_n 1, 1) := by decide +kernel
theorem dX12_goWeek_226 : decode cX12_goWeek 226 = .ok (.if_icmp .gt 28, 3) := by decide +kernel
theorem dX12_goWeek_229 : decode cX12_goWeek 229 = .ok (.aload_n 0, 1) := by decide +kernel
theorem dX12_goWeek_230 : decode cX12_goWeek 230 = .ok (.getfield 70, 3) := by decide +kernel
theorem dX12_goWeek_233 : decode cX12_goWeek 233 = .ok (.iload 4, 2) := by decide +kernel
theorem dX12_goWeek_235 : decode cX12_goWeek 235 = .ok (.baload, 1) := by decide +kernel
theorem dX12_goWeek_236 : decode cX12_goWeek 236 = .ok (.ifCond .eq 18, 3) := by decide +kernel
theorem dX12_goWeek_239 : decode cX12_goWeek 239 = .ok (.aload_n 0, 1) := by decide +kernel
theorem dX12_goWeek_240 : decode cX12_goWeek 240 = .ok (.getfield 79, 3) := by decide +kernel
theorem dX12_goWeek_243 : decode cX12_goWeek 243 = .ok (.iload 4, 2) := by decide +kernel
theorem dX12_goWeek_245 : decode cX12_goWeek 245 = .ok (.iaload, 1) := by decide +kernel
theorem dX12_goWeek_246 : decode cX12_goWeek 246 = .ok (.iconst 3, 1) := by decide +kernel
theorem dX12_goWeek_247 : decode cX12_goWeek 247 = .ok (.if_icmp .ge 7, 3) := by decide +kernel
theorem dX12_goWeek_250 : decode cX12_goWeek 250 = .ok (.iconst 1, 1) := by decide +kernel
theorem dX12_goWeek_251 : decode cX12_goWeek 251 = .ok (.goto 4, 3) := by decide +kernel
theorem dX12_goWeek_254 : decode cX12_goWeek 254 = .ok (.iconst 0, 1) := by decide +kernel
theorem dX12_goWeek_255 : decode cX12_goWeek 255 = .ok (.istore 5, 2) := by decide +kernel
theorem dX12_goWeek_257 : decode cX12_goWeek 257 = .ok (.iload 5, 2) := by decide +kernel
theorem dX12_goWeek_259 : decode cX12_goWeek 259 = .ok (.ifCond .eq 64, 3) := by decide +kernel
theorem dX12_goWeek_262 : decode cX12_goWeek 262 = .ok (.iload_n 3, 1) := by decide +kernel
theorem dX12_goWeek_263 : decode cX12_goWeek 263 = .ok (.istore 6, 2) := by decide +kernel
theorem dX12_goWeek_265 : decode cX12_goWeek 265 = .ok (.iload 6, 2) := by decide +kernel
theorem dX12_goWeek_267 : decode cX12_goWeek 267 = .ok (.ifCond .le 44, 3) := by decide +kernel
theorem dX12_goWeek_270 : decode cX12_goWeek 270 = .ok (.aload_n 0, 1) := by decide +kernel
theorem dX12_goWeek_271 : decode cX12_goWeek 271 = .ok (.iload 4, 2) := by decide +kernel
theorem dX12_goWeek_273 : decode cX12_goWeek 273 = .ok (.aload_n 0, 1) := by decide +kernel
theorem dX12_goWeek_274 : decode cX12_goWeek 274 = .ok (.getfield 97, 3) := by decide +kernel
theorem dX12_goWeek_277 : decode cX12_goWeek 277 = .ok (.iload 6, 2) := by decide +kernel
theorem dX12_goWeek_279 : decode cX12_goWeek 279 = .ok (.iconst 1, 1) := by decide +kernel
theorem dX12_goWeek_280 : decode cX12_goWeek 280 = .ok (.isub, 1) := by decide +kernel
theorem dX12_goWeek_281 : decode cX12_goWeek 281 = .ok (.iaload, 1) := by decide +kernel
theorem dX12_goWeek_282 : decode cX12_goWeek 282 = .ok (.iload_n 2, 1) := by decide +kernel
theorem dX12_goWeek_283 : decode cX12_goWeek 283 = .ok (.invokevirtual 498, 3) := by decide +kernel
theorem dX12_goWeek_286 : decode cX12_goWeek 286 = .ok (.ifCond .eq 25, 3) := by decide +kernel
theorem dX12_goWeek_289 : decode cX12_goWeek 289 = .ok (.aload_n 0, 1) := by decide +kernel
theorem dX12_goWeek_290 : decode cX12_goWeek 290 = .ok (.getfield 97, 3) := by decide +kernel
theorem dX12_goWeek_293 : decode cX12_goWeek 293 = .ok (.iload 6, 2) := by decide +kernel
theorem dX12_goWeek_295 : decode cX12_goWeek 295 = .ok (.aload_n 0, 1) := by decide +kernel
theorem dX12_goWeek_296 : decode cX12_goWeek 296 = .ok (.getfield 97, 3) := by decide +kernel
theorem dX12_goWeek_299 : decode cX12_goWeek 299 = .ok (.iload 6, 2) := by decide +kernel
theorem dX12_goWeek_301 : decode cX12_goWeek 301 = .ok (.iconst 1, 1) := by decide +kernel
theorem dX12_goWeek_302 : decode cX12_goWeek 302 = .ok (.isub, 1) := by decide +kernel
theorem dX12_goWeek_303 : decode cX12_goWeek 303 = .ok (.iaload, 1) := by decide +kernel
theorem dX12_goWeek_304 : decode cX12_goWeek 304 = .ok (.iastore, 1) := by decide +kernel
theorem dX12_goWeek_305 : decode cX12_goWeek 305 = .ok (.iinc 6 (-1), 3) := by decide +kernel
theorem dX12_goWeek_308 : decode cX12_goWeek 308 = .ok (.goto (-43), 3) := by decide +kernel
theorem dX12_goWeek_311 : decode cX12_goWeek 311 = .ok (.aload_n 0, 1) := by decide +kernel
theorem dX12_goWeek_312 : decode cX12_goWeek 312 = .ok (.getfield 97, 3) := by decide +kernel
theorem dX12_goWeek_315 : decode cX12_goWeek 315 = .ok (.iload 6, 2) := by decide +kernel
theorem dX12_goWeek_317 : decode cX12_goWeek 317 = .ok (.iload 4, 2) := by decide +kernel
theorem dX12_goWeek_319 : decode cX12_goWeek 319 = .ok (.iastore, 1) := by decide +kernel
theorem dX12_goWeek_320 : decode cX12_goWeek 320 = .ok (.iinc 3 1, 3) := by decide +kernel
theorem dX12_goWeek_323 : decode cX12_goWeek 323 = .ok (.iinc 4 1, 3) := by decide +kernel
theorem dX12_goWeek_326 : decode cX12_goWeek 326 = .ok (.goto (-157), 3) := by decide +kernel
theorem dX12_goWeek_329 : decode cX12_goWeek 329 = .ok (.iconst 0, 1) := by decide +kernel
theorem dX12_goWeek_330 : decode cX12_goWeek 330 = .ok (.istore 4, 2) := by decide +kernel
theorem dX12_goWeek_332 : decode cX12_goWeek 332 = .ok (.iload 4, 2) := by decide +kernel
theorem dX12_goWeek_334 : decode cX12_goWeek 334 = .ok (.iload_n 3, 1) := by decide +kernel
theorem dX12_goWeek_335 : decode cX12_goWeek 335 = .ok (.if_icmp .ge 21, 3) := by decide +kernel
theorem dX12_goWeek_338 : decode cX12_goWeek 338 = .ok (.aload_n 0, 1) := by decide +kernel
theorem dX12_goWeek_339 : decode cX12_goWeek 339 = .ok (.aload_n 0, 1) := by decide +kernel
theorem dX12_goWeek_340 : decode cX12_goWeek 340 = .ok (.getfield 97, 3) := by decide +kernel
theorem dX12_goWeek_343 : decode cX12_goWeek 343 = .ok (.iload 4, 2) := by decide +kernel
theorem dX12_goWeek_345 : decode cX12_goWeek 345 = .ok (.iaload, 1) := by decide +kernel
theorem dX12_goWeek_346 : decode cX12_goWeek 346 = .ok (.iload_n 1, 1) := by decide +kernel
theorem dX12_goWeek_347 : decode cX12_goWeek 347 = .ok (.invokevirtual 501, 3) := by decide +kernel
theorem dX12_goWeek_350 : decode cX12_goWeek 350 = .ok (.iinc 4 1, 3) := by decide +kernel
theorem dX12_goWeek_353 : decode cX12_goWeek 353 = .ok (.goto (-21), 3) := by decide +kernel
theorem dX12_goWeek_356 : decode cX12_goWeek 356 = .ok (.return_, 1) := by decide +kernel
theorem dX12_canTake_0 : decode cX12_canTake 0 = .ok (.iconst 1, 1) := by decide +kernel
theorem dX12_canTake_1 : decode cX12_canTake 1 = .ok (.istore_n 3, 1) := by decide +kernel
theorem dX12_canTake_2 : decode cX12_canTake 2 = .ok (.iconst 0, 1) := by decide +kernel
theorem dX12_canTake_3 : decode cX12_canTake 3 = .ok (.istore 4, 2) := by decide +kernel
theorem dX12_canTake_5 : decode cX12_canTake 5 = .ok (.iload 4, 2) := by decide +kernel
theorem dX12_canTake_7 : decode cX12_canTake 7 = .ok (.iconst 5, 1) := by decide +kernel
theorem dX12_canTake_8 : decode cX12_canTake 8 = .ok (.if_icmp .ge 52, 3) := by decide +kernel
theorem dX12_canTake_11 : decode cX12_canTake 11 = .ok (.iload_n 3, 1) := by decide +kernel
theorem dX12_canTake_12 : decode cX12_canTake 12 = .ok (.ifCond .eq 40, 3) := by decide +kernel
theorem dX12_canTake_15 : decode cX12_canTake 15 = .ok (.aload_n 0, 1) := by decide +kernel
theorem dX12_canTake_16 : decode cX12_canTake 16 = .ok (.getfield 73, 3) := by decide +kernel
theorem dX12_canTake_19 : decode cX12_canTake 19 = .ok (.iload 4, 2) := by decide +kernel
theorem dX12_canTake_21 : decode cX12_canTake 21 = .ok (.iaload, 1) := by decide +kernel
theorem dX12_canTake_22 : decode cX12_canTake 22 = .ok (.aload_n 0, 1) := by decide +kernel
theorem dX12_canTake_23 : decode cX12_canTake 23 = .ok (.aload_n 0, 1) := by decide +kernel
theorem dX12_canTake_24 : decode cX12_canTake 24 = .ok (.iload_n 1, 1) := by decide +kernel
theorem dX12_canTake_25 : decode cX12_canTake 25 = .ok (.invokevirtual 477, 3) := by decide +kernel
theorem dX12_canTake_28 : decode cX12_canTake 28 = .ok (.aload_n 0, 1) := by decide +kernel
theorem dX12_canTake_29 : decode cX12_canTake 29 = .ok (.getfield 79, 3) := by decide +kernel
theorem dX12_canTake_32 : decode cX12_canTake 32 = .ok (.iload_n 1, 1) := by decide +kernel
theorem dX12_canTake_33 : decode cX12_canTake 33 = .ok (.iaload, 1) := by decide +kernel
theorem dX12_canTake_34 : decode cX12_canTake 34 = .ok (.iload 4, 2) := by decide +kernel
theorem dX12_canTake_36 : decode cX12_canTake 36 = .ok (.aload_n 0, 1) := by decide +kernel
theorem dX12_canTake_37 : decode cX12_canTake 37 = .ok (.iload_n 1, 1) := by decide +kernel
theorem dX12_canTake_38 : decode cX12_canTake 38 = .ok (.invokevirtual 504, 3) := by decide +kernel
theorem dX12_canTake_41 : decode cX12_canTake 41 = .ok (.iload_n 2, 1) := by decide +kernel
theorem dX12_canTake_42 : decode cX12_canTake 42 = .ok (.invokevirtual 452, 3) := by decide +kernel
theorem dX12_canTake_45 : decode cX12_canTake 45 = .ok (.if_icmp .lt 7, 3) := by decide +kernel
theorem dX12_canTake_48 : decode cX12_canTake 48 = .ok (.iconst 1, 1) := by decide +kernel
theorem dX12_canTake_49 : decode cX12_canTake 49 = .ok (.goto 4, 3) := by decide +kernel
theorem dX12_canTake_52 : decode cX12_canTake 52 = .ok (.iconst 0, 1) := by decide +kernel
theorem dX12_canTake_53 : decode cX12_canTake 53 = .ok (.istore_n 3, 1) := by decide +kernel
theorem dX12_canTake_54 : decode cX12_canTake 54 = .ok (.iinc 4 1, 3) := by decide +kernel
theorem dX12_canTake_57 : decode cX12_canTake 57 = .ok (.goto (-52), 3) := by decide +kernel
theorem dX12_canTake_60 : decode cX12_canTake 60 = .ok (.iload_n 3, 1) := by decide +kernel
theorem dX12_canTake_61 : decode cX12_canTake 61 = .ok (.ireturn, 1) := by decide +kernel
theorem dX12_goPlot_0 : decode cX12_goPlot 0 = .ok (.iconst 1, 1) := by decide +kernel
theorem dX12_goPlot_1 : decode cX12_goPlot 1 = .ok (.istore_n 3, 1) := by decide +kernel
theorem dX12_goPlot_2 : decode cX12_goPlot 2 = .ok (.iload_n 3, 1) := by decide +kernel
theorem dX12_goPlot_3 : decode cX12_goPlot 3 = .ok (.ifCond .eq 224, 3) := by decide +kernel
theorem dX12_goPlot_6 : decode cX12_goPlot 6 = .ok (.aload_n 0, 1) := by decide +kernel
theorem dX12_goPlot_7 : decode cX12_goPlot 7 = .ok (.getfield 79, 3) := by decide +kernel
theorem dX12_goPlot_10 : decode cX12_goPlot 10 = .ok (.iload_n 1, 1) := by decide +kernel
theorem dX12_goPlot_11 : decode cX12_goPlot 11 = .ok (.iaload, 1) := by decide +kernel
theorem dX12_goPlot_12 : decode cX12_goPlot 12 = .ok (.iconst 3, 1) := by decide +kernel
theorem dX12_goPlot_13 : decode cX12_goPlot 13 = .ok (.if_icmp .ge 214, 3) := by decide +kernel
theorem dX12_goPlot_16 : decode cX12_goPlot 16 = .ok (.iconst 0, 1) := by decide +kernel
theorem dX12_goPlot_17 : decode cX12_goPlot 17 = .ok (.istore_n 3, 1) := by decide +kernel
theorem dX12_goPlot_18 : decode cX12_goPlot 18 = .ok (.aload_n 0, 1) := by decide +kernel
theorem dX12_goPlot_19 : decode cX12_goPlot 19 = .ok (.getfield 82, 3) := by decide +kernel
theorem dX12_goPlot_22 : decode cX12_goPlot 22 = .ok (.iload_n 1, 1) := by decide +kernel
theorem dX12_goPlot_23 : decode cX12_goPlot 23 = .ok (.baload, 1) := by decide +kernel
theorem dX12_goPlot_24 : decode cX12_goPlot 24 = .ok (.ifCond .ne 128, 3) := by decide +kernel
theorem dX12_goPlot_27 : decode cX12_goPlot 27 = .ok (.aload_n 0, 1) := by decide +kernel
theorem dX12_goPlot_28 : decode cX12_goPlot 28 = .ok (.iload_n 1, 1) := by decide +kernel
theorem dX12_goPlot_29 : decode cX12_goPlot 29 = .ok (.iload_n 2, 1) := by decide +kernel
theorem dX12_goPlot_30 : decode cX12_goPlot 30 = .ok (.invokevirtual 507, 3) := by decide +kernel
theorem dX12_goPlot_33 : decode cX12_goPlot 33 = .ok (.ifCond .eq 119, 3) := by decide +kernel
theorem dX12_goPlot_36 : decode cX12_goPlot 36 = .ok (.iconst 0, 1) := by decide +kernel
theorem dX12_goPlot_37 : decode cX12_goPlot 37 = .ok (.istore 4, 2) := by decide +kernel
theorem dX12_goPlot_39 : decode cX12_goPlot 39 = .ok (.iload 4, 2) := by decide +kernel
theorem dX12_goPlot_41 : decode cX12_goPlot 41 = .ok (.iconst 5, 1) := by decide +kernel
theorem dX12_goPlot_42 : decode cX12_goPlot 42 = .ok (.if_icmp .ge 42, 3) := by decide +kernel
theorem dX12_goPlot_45 : decode cX12_goPlot 45 = .ok (.aload_n 0, 1) := by decide +kernel
theorem dX12_goPlot_46 : decode cX12_goPlot 46 = .ok (.getfield 73, 3) := by decide +kernel
theorem dX12_goPlot_49 : decode cX12_goPlot 49 = .ok (.iload 4, 2) := by decide +kernel
theorem dX12_goPlot_51 : decode cX12_goPlot 51 = .ok (.dup2, 1) := by decide +kernel
theorem dX12_goPlot_52 : decode cX12_goPlot 52 = .ok (.iaload, 1) := by decide +kernel
theorem dX12_goPlot_53 : decode cX12_goPlot 53 = .ok (.aload_n 0, 1) := by decide +kernel
theorem dX12_goPlot_54 : decode cX12_goPlot 54 = .ok (.aload_n 0, 1) := by decide +kernel
theorem dX12_goPlot_55 : decode cX12_goPlot 55 = .ok (.iload_n 1, 1) := by decide +kernel
theorem dX12_goPlot_56 : decode cX12_goPlot 56 = .ok (.invokevirtual 477, 3) := by decide +kernel
theorem dX12_goPlot_59 : decode cX12_goPlot 59 = .ok (.aload_n 0, 1) := by decide +kernel
theorem dX12_goPlot_60 : decode cX12_goPlot 60 = .ok (.getfield 79, 3) := by decide +kernel
theorem dX12_goPlot_63 : decode cX12_goPlot 63 = .ok (.iload_n 1, 1) := by decide +kernel
theorem dX12_goPlot_64 : decode cX12_goPlot 64 = .ok (.iaload, 1) := by decide +kernel
theorem dX12_goPlot_65 : decode cX12_goPlot 65 = .ok (.iload 4, 2) := by decide +kernel
theorem dX12_goPlot_67 : decode cX12_goPlot 67 = .ok (.aload_n 0, 1) := by decide +kernel
theorem dX12_goPlot_68 : decode cX12_goPlot 68 = .ok (.iload_n 1, 1) := by decide +kernel
theorem dX12_goPlot_69 : decode cX12_goPlot 69 = .ok (.invokevirtual 504, 3) := by decide +kernel
theorem dX12_goPlot_72 : decode cX12_goPlot 72 = .ok (.iload_n 2, 1) := by decide +kernel
theorem dX12_goPlot_73 : decode cX12_goPlot 73 = .ok (.invokevirtual 452, 3) := by decide +kernel
theorem dX12_goPlot_76 : decode cX12_goPlot 76 = .ok (.isub, 1) := by decide +kernel
theorem dX12_goPlot_77 : decode cX12_goPlot 77 = .ok (.iastore, 1) := by decide +kernel
theorem dX12_goPlot_78 : decode cX12_goPlot 78 = .ok (.iinc 4 1, 3) := by decide +kernel
theorem dX12_goPlot_81 : decode cX12_goPlot 81 = .ok (.goto (-42), 3) := by decide +kernel
theorem dX12_goPlot_84 : decode cX12_goPlot 84 = .ok (.aload_n 0, 1) := by decide +kernel
theorem dX12_goPlot_85 : decode cX12_goPlot 85 = .ok (.getfield 82, 3) := by decide +kernel
theorem dX12_goPlot_88 : decode cX12_goPlot 88 = .ok (.iload_n 1, 1) := by decide +kernel
theorem dX12_goPlot_89 : decode cX12_goPlot 89 = .ok (.iconst 1, 1) := by decide +kernel
theorem dX12_goPlot_90 : decode cX12_goPlot 90 = .ok (.bastore, 1) := by decide +kernel
theorem dX12_goPlot_91 : decode cX12_goPlot 91 = .ok (.aload_n 0, 1) := by decide +kernel
theorem dX12_goPlot_92 : decode cX12_goPlot 92 = .ok (.getfield 91, 3) := by decide +kernel
theorem dX12_goPlot_95 : decode cX12_goPlot 95 = .ok (.iconst 3, 1) := by decide +kernel
theorem dX12_goPlot_96 : decode cX12_goPlot 96 = .ok (.iload_n 1, 1) := by decide +kernel
theorem dX12_goPlot_97 : decode cX12_goPlot 97 = .ok (.imul, 1) := by decide +kernel
theorem dX12_goPlot_98 : decode cX12_goPlot 98 = .ok (.aload_n 0, 1) := by decide +kernel
theorem dX12_goPlot_99 : decode cX12_goPlot 99 = .ok (.getfield 79, 3) := by decide +kernel
theorem dX12_goPlot_102 : decode cX12_goPlot 102 = .ok (.iload_n 1, 1) := by decide +kernel
theorem dX12_goPlot_103 : decode cX12_goPlot 103 = .ok (.iaload, 1) := by decide +kernel
theorem dX12_goPlot_104 : decode cX12_goPlot 104 = .ok (.iadd, 1) := by decide +kernel
theorem dX12_goPlot_105 : decode cX12_goPlot 105 = .ok (.iload_n 2, 1) := by decide +kernel
theorem dX12_goPlot_106 : decode cX12_goPlot 106 = .ok (.iastore, 1) := by decide +kernel
theorem dX12_goPlot_107 : decode cX12_goPlot 107 = .ok (.aload_n 0, 1) := by decide +kernel
theorem dX12_goPlot_108 : decode cX12_goPlot 108 = .ok (.getfield 85, 3) := by decide +kernel
theorem dX12_goPlot_111 : decode cX12_goPlot 111 = .ok (.iload_n 1, 1) := by decide +kernel
theorem dX12_goPlot_112 : decode cX12_goPlot 112 = .ok (.aload_n 0, 1) := by decide +kernel
theorem dX12_goPlot_113 : decode cX12_goPlot 113 = .ok (.aload_n 0, 1) := by decide +kernel
theorem dX12_goPlot_114 : decode cX12_goPlot 114 = .ok (.iload_n 1, 1) := by decide +kernel
theorem dX12_goPlot_115 : decode cX12_goPlot 115 = .ok (.invokevirtual 477, 3) := by decide +kernel
theorem dX12_goPlot_118 : decode cX12_goPlot 118 = .ok (.aload_n 0, 1) := by decide +kernel
theorem dX12_goPlot_119 : decode cX12_goPlot 119 = .ok (.getfield 79, 3) := by decide +kernel
theorem dX12_goPlot_122 : decode cX12_goPlot 122 = .ok (.iload_n 1, 1) := by decide +kernel
theorem dX12_goPlot_123 : decode cX12_goPlot 123 = .ok (.iaload, 1) := by decide +kernel
theorem dX12_goPlot_124 : decode cX12_goPlot 124 = .ok (.iconst 5, 1) := by decide +kernel
theorem dX12_goPlot_125 : decode cX12_goPlot 125 = .ok (.aload_n 0, 1) := by decide +kernel
theorem dX12_goPlot_126 : decode cX12_goPlot 126 = .ok (.iload_n 1, 1) := by decide +kernel
theorem dX12_goPlot_127 : decode cX12_goPlot 127 = .ok (.invokevirtual 504, 3) := by decide +kernel
theorem dX12_goPlot_130 : decode cX12_goPlot 130 = .ok (.iload_n 2, 1) := by decide +kernel
theorem dX12_goPlot_131 : decode cX12_goPlot 131 = .ok (.invokevirtual 452, 3) := by decide +kernel
theorem dX12_goPlot_134 : decode cX12_goPlot 134 = .ok (.iastore, 1) := by decide +kernel
theorem dX12_goPlot_135 : decode cX12_goPlot 135 = .ok (.aload_n 0, 1) := by decide +kernel
theorem dX12_goPlot_136 : decode cX12_goPlot 136 = .ok (.getfield 85, 3) := by decide +kernel
theorem dX12_goPlot_139 : decode cX12_goPlot 139 = .ok (.iload_n 1, 1) := by decide +kernel
theorem dX12_goPlot_140 : decode cX12_goPlot 140 = .ok (.iaload, 1) := by decide +kernel
theorem dX12_goPlot_141 : decode cX12_goPlot 141 = .ok (.ifCond .ne 11, 3) := by decide +kernel
theorem dX12_goPlot_144 : decode cX12_goPlot 144 = .ok (.aload_n 0, 1) := by decide +kernel
theorem dX12_goPlot_145 : decode cX12_goPlot 145 = .ok (.iload_n 1, 1) := by decide +kernel
theorem dX12_goPlot_146 : decode cX12_goPlot 146 = .ok (.iload_n 2, 1) := by decide +kernel
theorem dX12_goPlot_147 : decode cX12_goPlot 147 = .ok (.invokevirtual 511, 3) := by decide +kernel
theorem dX12_goPlot_150 : decode cX12_goPlot 150 = .ok (.iconst 1, 1) := by decide +kernel
theorem dX12_goPlot_151 : decode cX12_goPlot 151 = .ok (.istore_n 3, 1) := by decide +kernel
theorem dX12_goPlot_152 : decode cX12_goPlot 152 = .ok (.iload_n 3, 1) := by decide +kernel
theorem dX12_goPlot_153 : decode cX12_goPlot 153 = .ok (.ifCond .ne (-151), 3) := by decide +kernel
theorem dX12_goPlot_156 : decode cX12_goPlot 156 = .ok (.aload_n 0, 1) := by decide +kernel
theorem dX12_goPlot_157 : decode cX12_goPlot 157 = .ok (.getfield 82, 3) := by decide +kernel
theorem dX12_goPlot_160 : decode cX12_goPlot 160 = .ok (.iload_n 1, 1) := by decide +kernel
theorem dX12_goPlot_161 : decode cX12_goPlot 161 = .ok (.baload, 1) := by decide +kernel
theorem dX12_goPlot_162 : decode cX12_goPlot 162 = .ok (.ifCond .eq (-160), 3) := by decide +kernel
theorem dX12_goPlot_165 : decode cX12_goPlot 165 = .ok (.aload_n 0, 1) := by decide +kernel
theorem dX12_goPlot_166 : decode cX12_goPlot 166 = .ok (.getfield 76, 3) := by decide +kernel
theorem dX12_goPlot_169 : decode cX12_goPlot 169 = .ok (.aload_n 0, 1) := by decide +kernel
theorem dX12_goPlot_170 : decode cX12_goPlot 170 = .ok (.iload_n 1, 1) := by decide +kernel
theorem dX12_goPlot_171 : decode cX12_goPlot 171 = .ok (.invokevirtual 474, 3) := by decide +kernel
theorem dX12_goPlot_174 : decode cX12_goPlot 174 = .ok (.iaload, 1) := by decide +kernel
theorem dX12_goPlot_175 : decode cX12_goPlot 175 = .ok (.ifCond .le (-173), 3) := by decide +kernel
theorem dX12_goPlot_178 : decode cX12_goPlot 178 = .ok (.aload_n 0, 1) := by decide +kernel
theorem dX12_goPlot_179 : decode cX12_goPlot 179 = .ok (.getfield 76, 3) := by decide +kernel
theorem dX12_goPlot_182 : decode cX12_goPlot 182 = .ok (.aload_n 0, 1) := by decide +kernel
theorem dX12_goPlot_183 : decode cX12_goPlot 183 = .ok (.iload_n 1, 1) := by decide +kernel
theorem dX12_goPlot_184 : decode cX12_goPlot 184 = .ok (.invokevirtual 474, 3) := by decide +kernel
theorem dX12_goPlot_187 : decode cX12_goPlot 187 = .ok (.dup2, 1) := by decide +kernel
theorem dX12_goPlot_188 : decode cX12_goPlot 188 = .ok (.iaload, 1) := by decide +kernel
theorem dX12_goPlot_189 : decode cX12_goPlot 189 = .ok (.iconst 1, 1) := by decide +kernel
theorem dX12_goPlot_190 : decode cX12_goPlot 190 = .ok (.isub, 1) := by decide +kernel
theorem dX12_goPlot_191 : decode cX12_goPlot 191 = .ok (.iastore, 1) := by decide +kernel
theorem dX12_goPlot_192 : decode cX12_goPlot 192 = .ok (.aload_n 0, 1) := by decide +kernel
theorem dX12_goPlot_193 : decode cX12_goPlot 193 = .ok (.getfield 85, 3) := by decide +kernel
theorem dX12_goPlot_196 : decode cX12_goPlot 196 = .ok (.iload_n 1, 1) := by decide +kernel
theorem dX12_goPlot_197 : decode cX12_goPlot 197 = .ok (.dup2, 1) := by decide +kernel
theorem dX12_goPlot_198 : decode cX12_goPlot 198 = .ok (.iaload, 1) := by decide +kernel
theorem dX12_goPlot_199 : decode cX12_goPlot 199 = .ok (.iconst 1, 1) := by decide +kernel
theorem dX12_goPlot_200 : decode cX12_goPlot 200 = .ok (.isub, 1) := by decide +kernel
theorem dX12_goPlot_201 : decode cX12_goPlot 201 = .ok (.iastore, 1) := by decide +kernel
theorem dX12_goPlot_202 : decode cX12_goPlot 202 = .ok (.aload_n 0, 1) := by decide +kernel
theorem dX12_goPlot_203 : decode cX12_goPlot 203 = .ok (.getfield 85, 3) := by decide +kernel
theorem dX12_goPlot_206 : decode cX12_goPlot 206 = .ok (.iload_n 1, 1) := by decide +kernel
theorem dX12_goPlot_207 : decode cX12_goPlot 207 = .ok (.iaload, 1) := by decide +kernel
theorem dX12_goPlot_208 : decode cX12_goPlot 208 = .ok (.ifCond .ne (-206), 3) := by decide +kernel
theorem dX12_goPlot_211 : decode cX12_goPlot 211 = .ok (.aload_n 0, 1) := by decide +kernel
theorem dX12_goPlot_212 : decode cX12_goPlot 212 = .ok (.iload_n 1, 1) := by decide +kernel
theorem dX12_goPlot_213 : decode cX12_goPlot 213 = .ok (.iload_n 2, 1) := by decide +kernel
theorem dX12_goPlot_214 : decode cX12_goPlot 214 = .ok (.invokevirtual 511, 3) := by decide +kernel
theorem dX12_goPlot_217 : decode cX12_goPlot 217 = .ok (.aload_n 0, 1) := by decide +kernel
theorem dX12_goPlot_218 : decode cX12_goPlot 218 = .ok (.getfield 88, 3) := by decide +kernel
theorem dX12_goPlot_221 : decode cX12_goPlot 221 = .ok (.iload_n 1, 1) := by decide +kernel
theorem dX12_goPlot_222 : decode cX12_goPlot 222 = .ok (.iconst 1, 1) := by decide +kernel
theorem dX12_goPlot_223 : decode cX12_goPlot 223 = .ok (.bastore, 1) := by decide +kernel
theorem dX12_goPlot_224 : decode cX12_goPlot 224 = .ok (.goto (-222), 3) := by decide +kernel
theorem dX12_goPlot_227 : decode cX12_goPlot 227 = .ok (.return_, 1) := by decide +kernel
theorem dX12_finish_0 : decode cX12_finish 0 = .ok (.aload_n 0, 1) := by decide +kernel
theorem dX12_finish_1 : decode cX12_finish 1 = .ok (.getfield 94, 3) := by decide +kernel
theorem dX12_finish_4 : decode cX12_finish 4 = .ok (.iconst 3, 1) := by decide +kernel
theorem dX12_finish_5 : decode cX12_finish 5 = .ok (.iload_n 1, 1) := by decide +kernel
theorem dX12_finish_6 : decode cX12_finish 6 = .ok (.imul, 1) := by decide +kernel
theorem dX12_finish_7 : decode cX12_finish 7 = .ok (.aload_n 0, 1) := by decide +kernel
theorem dX12_finish_8 : decode cX12_finish 8 = .ok (.getfield 79, 3) := by decide +kernel
theorem dX12_finish_11 : decode cX12_finish 11 = .ok (.iload_n 1, 1) := by decide +kernel
theorem dX12_finish_12 : decode cX12_finish 12 = .ok (.iaload, 1) := by decide +kernel
theorem dX12_finish_13 : decode cX12_finish 13 = .ok (.iadd, 1) := by decide +kernel
theorem dX12_finish_14 : decode cX12_finish 14 = .ok (.iload_n 2, 1) := by decide +kernel
theorem dX12_finish_15 : decode cX12_finish 15 = .ok (.iastore, 1) := by decide +kernel
theorem dX12_finish_16 : decode cX12_finish 16 = .ok (.aload_n 0, 1) := by decide +kernel
theorem dX12_finish_17 : decode cX12_finish 17 = .ok (.getfield 79, 3) := by decide +kernel
theorem dX12_finish_20 : decode cX12_finish 20 = .ok (.iload_n 1, 1) := by decide +kernel
theorem dX12_finish_21 : decode cX12_finish 21 = .ok (.dup2, 1) := by decide +kernel
theorem dX12_finish_22 : decode cX12_finish 22 = .ok (.iaload, 1) := by decide +kernel
theorem dX12_finish_23 : decode cX12_finish 23 = .ok (.iconst 1, 1) := by decide +kernel
theorem dX12_finish_24 : decode cX12_finish 24 = .ok (.iadd, 1) := by decide +kernel
theorem dX12_finish_25 : decode cX12_finish 25 = .ok (.iastore, 1) := by decide +kernel
theorem dX12_finish_26 : decode cX12_finish 26 = .ok (.aload_n 0, 1) := by decide +kernel
theorem dX12_finish_27 : decode cX12_finish 27 = .ok (.getfield 82, 3) := by decide +kernel
theorem dX12_finish_30 : decode cX12_finish 30 = .ok (.iload_n 1, 1) := by decide +kernel
theorem dX12_finish_31 : decode cX12_finish 31 = .ok (.iconst 0, 1) := by decide +kernel
theorem dX12_finish_32 : decode cX12_finish 32 = .ok (.bastore, 1) := by decide +kernel
theorem dX12_finish_33 : decode cX12_finish 33 = .ok (.return_, 1) := by decide +kernel
theorem dX12_goTo_0 : decode cX12_goTo 0 = .ok (.iload_n 1, 1) := by decide +kernel
theorem dX12_goTo_1 : decode cX12_goTo 1 = .ok (.istore_n 3, 1) := by decide +kernel
theorem dX12_goTo_2 : decode cX12_goTo 2 = .ok (.iload_n 3, 1) := by decide +kernel
theorem dX12_goTo_3 : decode cX12_goTo 3 = .ok (.iload_n 2, 1) := by decide +kernel
theorem dX12_goTo_4 : decode cX12_goTo 4 = .ok (.if_icmp .gt 14, 3) := by decide +kernel
theorem dX12_goTo_7 : decode cX12_goTo 7 = .ok (.aload_n 0, 1) := by decide +kernel
theorem dX12_goTo_8 : decode cX12_goTo 8 = .ok (.iload_n 3, 1) := by decide +kernel
theorem dX12_goTo_9 : decode cX12_goTo 9 = .ok (.invokevirtual 514, 3) := by decide +kernel
theorem dX12_goTo_12 : decode cX12_goTo 12 = .ok (.iinc 3 1, 3) := by decide +kernel
theorem dX12_goTo_15 : decode cX12_goTo 15 = .ok (.goto (-13), 3) := by decide +kernel
theorem dX12_goTo_18 : decode cX12_goTo 18 = .ok (.return_, 1) := by decide +kernel
theorem dX12_runAll_0 : decode cX12_runAll 0 = .ok (.aload_n 0, 1) := by decide +kernel
theorem dX12_runAll_1 : decode cX12_runAll 1 = .ok (.iload_n 1, 1) := by decide +kernel
theorem dX12_runAll_2 : decode cX12_runAll 2 = .ok (.invokevirtual 406, 3) := by decide +kernel
theorem dX12_runAll_5 : decode cX12_runAll 5 = .ok (.aload_n 0, 1) := by decide +kernel
theorem dX12_runAll_6 : decode cX12_runAll 6 = .ok (.iload_n 2, 1) := by decide +kernel
theorem dX12_runAll_7 : decode cX12_runAll 7 = .ok (.invokevirtual 517, 3) := by decide +kernel
theorem dX12_runAll_10 : decode cX12_runAll 10 = .ok (.aload_n 0, 1) := by decide +kernel
theorem dX12_runAll_11 : decode cX12_runAll 11 = .ok (.iconst 0, 1) := by decide +kernel
theorem dX12_runAll_12 : decode cX12_runAll 12 = .ok (.sipush 259, 3) := by decide +kernel
theorem dX12_runAll_15 : decode cX12_runAll 15 = .ok (.invokevirtual 520, 3) := by decide +kernel
theorem dX12_runAll_18 : decode cX12_runAll 18 = .ok (.return_, 1) := by decide +kernel
theorem dX12_stock_0 : decode cX12_stock 0 = .ok (.aload_n 0, 1) := by decide +kernel
theorem dX12_stock_1 : decode cX12_stock 1 = .ok (.iconst 0, 1) := by decide +kernel
theorem dX12_stock_2 : decode cX12_stock 2 = .ok (.putfield 145, 3) := by decide +kernel
theorem dX12_stock_5 : decode cX12_stock 5 = .ok (.iload_n 1, 1) := by decide +kernel
theorem dX12_stock_6 : decode cX12_stock 6 = .ok (.i2l, 1) := by decide +kernel
theorem dX12_stock_7 : decode cX12_stock 7 = .ok (.lconst 0, 1) := by decide +kernel
theorem dX12_stock_8 : decode cX12_stock 8 = .ok (.ldc2_w 456, 3) := by decide +kernel
theorem dX12_stock_11 : decode cX12_stock 11 = .ok (.invokestatic 153, 3) := by decide +kernel
theorem dX12_stock_14 : decode cX12_stock 14 = .ok (.ifCond .eq 30, 3) := by decide +kernel
theorem dX12_stock_17 : decode cX12_stock 17 = .ok (.iload_n 2, 1) := by decide +kernel
theorem dX12_stock_18 : decode cX12_stock 18 = .ok (.invokestatic 387, 3) := by decide +kernel
theorem dX12_stock_21 : decode cX12_stock 21 = .ok (.ifCond .eq 23, 3) := by decide +kernel
theorem dX12_stock_24 : decode cX12_stock 24 = .ok (.iload_n 3, 1) := by decide +kernel
theorem dX12_stock_25 : decode cX12_stock 25 = .ok (.invokestatic 387, 3) := by decide +kernel
theorem dX12_stock_28 : decode cX12_stock 28 = .ok (.ifCond .eq 16, 3) := by decide +kernel
theorem dX12_stock_31 : decode cX12_stock 31 = .ok (.iload 4, 2) := by decide +kernel
theorem dX12_stock_33 : decode cX12_stock 33 = .ok (.i2l, 1) := by decide +kernel
theorem dX12_stock_34 : decode cX12_stock 34 = .ok (.lconst 0, 1) := by decide +kernel
theorem dX12_stock_35 : decode cX12_stock 35 = .ok (.ldc2_w 523, 3) := by decide +kernel
theorem dX12_stock_38 : decode cX12_stock 38 = .ok (.invokestatic 153, 3) := by decide +kernel
theorem dX12_stock_41 : decode cX12_stock 41 = .ok (.ifCond .ne 5, 3) := by decide +kernel
theorem dX12_stock_44 : decode cX12_stock 44 = .ok (.iconst (-1), 1) := by decide +kernel
theorem dX12_stock_45 : decode cX12_stock 45 = .ok (.ireturn, 1) := by decide +kernel
theorem dX12_stock_46 : decode cX12_stock 46 = .ok (.aload_n 0, 1) := by decide +kernel
theorem dX12_stock_47 : decode cX12_stock 47 = .ok (.iload_n 3, 1) := by decide +kernel
theorem dX12_stock_48 : decode cX12_stock 48 = .ok (.invokevirtual 406, 3) := by decide +kernel
theorem dX12_stock_51 : decode cX12_stock 51 = .ok (.aload_n 0, 1) := by decide +kernel
theorem dX12_stock_52 : decode cX12_stock 52 = .ok (.iload 4, 2) := by decide +kernel
theorem dX12_stock_54 : decode cX12_stock 54 = .ok (.invokevirtual 517, 3) := by decide +kernel
theorem dX12_stock_57 : decode cX12_stock 57 = .ok (.aload_n 0, 1) := by decide +kernel
theorem dX12_stock_58 : decode cX12_stock 58 = .ok (.iconst 0, 1) := by decide +kernel
theorem dX12_stock_59 : decode cX12_stock 59 = .ok (.iload_n 2, 1) := by decide +kernel
theorem dX12_stock_60 : decode cX12_stock 60 = .ok (.invokevirtual 520, 3) := by decide +kernel
theorem dX12_stock_63 : decode cX12_stock 63 = .ok (.aload_n 0, 1) := by decide +kernel
theorem dX12_stock_64 : decode cX12_stock 64 = .ok (.getfield 73, 3) := by decide +kernel
theorem dX12_stock_67 : decode cX12_stock 67 = .ok (.iload_n 1, 1) := by decide +kernel
theorem dX12_stock_68 : decode cX12_stock 68 = .ok (.iaload, 1) := by decide +kernel
theorem dX12_stock_69 : decode cX12_stock 69 = .ok (.ireturn, 1) := by decide +kernel
theorem dX12_built_0 : decode cX12_built 0 = .ok (.aload_n 0, 1) := by decide +kernel
theorem dX12_built_1 : decode cX12_built 1 = .ok (.iconst 0, 1) := by decide +kernel
theorem dX12_built_2 : decode cX12_built 2 = .ok (.putfield 145, 3) := by decide +kernel
theorem dX12_built_5 : decode cX12_built 5 = .ok (.aload_n 0, 1) := by decide +kernel
theorem dX12_built_6 : decode cX12_built 6 = .ok (.iload_n 1, 1) := by decide +kernel
theorem dX12_built_7 : decode cX12_built 7 = .ok (.invokevirtual 471, 3) := by decide +kernel
theorem dX12_built_10 : decode cX12_built 10 = .ok (.ifCond .eq 35, 3) := by decide +kernel
theorem dX12_built_13 : decode cX12_built 13 = .ok (.iload_n 2, 1) := by decide +kernel
theorem dX12_built_14 : decode cX12_built 14 = .ok (.invokestatic 387, 3) := by decide +kernel
theorem dX12_built_17 : decode cX12_built 17 = .ok (.ifCond .eq 28, 3) := by decide +kernel
theorem dX12_built_20 : decode cX12_built 20 = .ok (.iload_n 3, 1) := by decide +kernel
theorem dX12_built_21 : decode cX12_built 21 = .ok (.i2l, 1) := by decide +kernel
theorem dX12_built_22 : decode cX12_built 22 = .ok (.lconst 0, 1) := by decide +kernel
theorem dX12_built_23 : decode cX12_built 23 = .ok (.ldc2_w 523, 3) := by decide +kernel
theorem dX12_built_26 : decode cX12_built 26 = .ok (.invokestatic 153, 3) := by decide +kernel
theorem dX12_built_29 : decode cX12_built 29 = .ok (.ifCond .eq 16, 3) := by decide +kernel
theorem dX12_built_32 : decode cX12_built 32 = .ok (.iload 4, 2) := by decide +kernel
theorem dX12_built_34 : decode cX12_built 34 = .ok (.i2l, 1) := by decide +kernel
theorem dX12_built_35 : decode cX12_built 35 = .ok (.lconst 0, 1) := by decide +kernel
theorem dX12_built_36 : decode cX12_built 36 = .ok (.ldc2_w 450, 3) := by decide +kernel
theorem dX12_built_39 : decode cX12_built 39 = .ok (.invokestatic 153, 3) := by decide +kernel
theorem dX12_built_42 : decode cX12_built 42 = .ok (.ifCond .ne 5, 3) := by decide +kernel
theorem dX12_built_45 : decode cX12_built 45 = .ok (.iconst (-1), 1) := by decide +kernel
theorem dX12_built_46 : decode cX12_built 46 = .ok (.ireturn, 1) := by decide +kernel
theorem dX12_built_47 : decode cX12_built 47 = .ok (.aload_n 0, 1) := by decide +kernel
theorem dX12_built_48 : decode cX12_built 48 = .ok (.iload_n 2, 1) := by decide +kernel
theorem dX12_built_49 : decode cX12_built 49 = .ok (.iload_n 3, 1) := by decide +kernel
theorem dX12_built_50 : decode cX12_built 50 = .ok (.invokevirtual 525, 3) := by decide +kernel
theorem dX12_built_53 : decode cX12_built 53 = .ok (.iload 4, 2) := by decide +kernel
theorem dX12_built_55 : decode cX12_built 55 = .ok (.iconst 3, 1) := by decide +kernel
theorem dX12_built_56 : decode cX12_built 56 = .ok (.if_icmp .ge 17, 3) := by decide +kernel
theorem dX12_built_59 : decode cX12_built 59 = .ok (.aload_n 0, 1) := by decide +kernel
theorem dX12_built_60 : decode cX12_built 60 = .ok (.getfield 94, 3) := by decide +kernel
theorem dX12_built_63 : decode cX12_built 63 = .ok (.iconst 3, 1) := by decide +kernel
theorem dX12_built_64 : decode cX12_built 64 = .ok (.iload_n 1, 1) := by decide +kernel
theorem dX12_built_65 : decode cX12_built 65 = .ok (.imul, 1) := by decide +kernel
theorem dX12_built_66 : decode cX12_built 66 = .ok (.iload 4, 2) := by decide +kernel
theorem dX12_built_68 : decode cX12_built 68 = .ok (.iadd, 1) := by decide +kernel
theorem dX12_built_69 : decode cX12_built 69 = .ok (.iaload, 1) := by decide +kernel
theorem dX12_built_70 : decode cX12_built 70 = .ok (.goto 40, 3) := by decide +kernel
theorem dX12_built_73 : decode cX12_built 73 = .ok (.iload 4, 2) := by decide +kernel
theorem dX12_built_75 : decode cX12_built 75 = .ok (.bipush 6, 2) := by decide +kernel
theorem dX12_built_77 : decode cX12_built 77 = .ok (.if_icmp .ge 19, 3) := by decide +kernel
theorem dX12_built_80 : decode cX12_built 80 = .ok (.aload_n 0, 1) := by decide +kernel
theorem dX12_built_81 : decode cX12_built 81 = .ok (.getfield 91, 3) := by decide +kernel
theorem dX12_built_84 : decode cX12_built 84 = .ok (.iconst 3, 1) := by decide +kernel
theorem dX12_built_85 : decode cX12_built 85 = .ok (.iload_n 1, 1) := by decide +kernel
theorem dX12_built_86 : decode cX12_built 86 = .ok (.imul, 1) := by decide +kernel
theorem dX12_built_87 : decode cX12_built 87 = .ok (.iload 4, 2) := by decide +kernel
theorem dX12_built_89 : decode cX12_built 89 = .ok (.iadd, 1) := by decide +kernel
theorem dX12_built_90 : decode cX12_built 90 = .ok (.iconst 3, 1) := by decide +kernel
theorem dX12_built_91 : decode cX12_built 91 = .ok (.isub, 1) := by decide +kernel
theorem dX12_built_92 : decode cX12_built 92 = .ok (.iaload, 1) := by decide +kernel
theorem dX12_built_93 : decode cX12_built 93 = .ok (.goto 17, 3) := by decide +kernel
theorem dX12_built_96 : decode cX12_built 96 = .ok (.aload_n 0, 1) := by decide +kernel
theorem dX12_built_97 : decode cX12_built 97 = .ok (.getfield 70, 3) := by decide +kernel
theorem dX12_built_100 : decode cX12_built 100 = .ok (.iload_n 1, 1) := by decide +kernel
theorem dX12_built_101 : decode cX12_built 101 = .ok (.baload, 1) := by decide +kernel
theorem dX12_built_102 : decode cX12_built 102 = .ok (.ifCond .eq 7, 3) := by decide +kernel
theorem dX12_built_105 : decode cX12_built 105 = .ok (.iconst 1, 1) := by decide +kernel
theorem dX12_built_106 : decode cX12_built 106 = .ok (.goto 4, 3) := by decide +kernel
theorem dX12_built_109 : decode cX12_built 109 = .ok (.iconst 0, 1) := by decide +kernel
theorem dX12_built_110 : decode cX12_built 110 = .ok (.ireturn, 1) := by decide +kernel
theorem dX12_lacks_0 : decode cX12_lacks 0 = .ok (.aload_n 0, 1) := by decide +kernel
theorem dX12_lacks_1 : decode cX12_lacks 1 = .ok (.iconst 0, 1) := by decide +kernel
theorem dX12_lacks_2 : decode cX12_lacks 2 = .ok (.putfield 145, 3) := by decide +kernel
theorem dX12_lacks_5 : decode cX12_lacks 5 = .ok (.aload_n 0, 1) := by decide +kernel
theorem dX12_lacks_6 : decode cX12_lacks 6 = .ok (.iload_n 1, 1) := by decide +kernel
theorem dX12_lacks_7 : decode cX12_lacks 7 = .ok (.invokevirtual 471, 3) := by decide +kernel
theorem dX12_lacks_10 : decode cX12_lacks 10 = .ok (.ifCond .eq 17, 3) := by decide +kernel
theorem dX12_lacks_13 : decode cX12_lacks 13 = .ok (.iload_n 2, 1) := by decide +kernel
theorem dX12_lacks_14 : decode cX12_lacks 14 = .ok (.invokestatic 387, 3) := by decide +kernel
theorem dX12_lacks_17 : decode cX12_lacks 17 = .ok (.ifCond .eq 10, 3) := by decide +kernel
theorem dX12_lacks_20 : decode cX12_lacks 20 = .ok (.iload_n 3, 1) := by decide +kernel
theorem dX12_lacks_21 : decode cX12_lacks 21 = .ok (.invokestatic 387, 3) := by decide +kernel
theorem dX12_lacks_24 : decode cX12_lacks 24 = .ok (.ifCond .ne 5, 3) := by decide +kernel
theorem dX12_lacks_27 : decode cX12_lacks 27 = .ok (.iconst (-1), 1) := by decide +kernel
theorem dX12_lacks_28 : decode cX12_lacks 28 = .ok (.ireturn, 1) := by decide +kernel
theorem dX12_lacks_29 : decode cX12_lacks 29 = .ok (.aload_n 0, 1) := by decide +kernel
theorem dX12_lacks_30 : decode cX12_lacks 30 = .ok (.iload_n 3, 1) := by decide +kernel
theorem dX12_lacks_31 : decode cX12_lacks 31 = .ok (.invokevirtual 406, 3) := by decide +kernel
theorem dX12_lacks_34 : decode cX12_lacks 34 = .ok (.aload_n 0, 1) := by decide +kernel
theorem dX12_lacks_35 : decode cX12_lacks 35 = .ok (.iconst 0, 1) := by decide +kernel
theorem dX12_lacks_36 : decode cX12_lacks 36 = .ok (.invokevirtual 517, 3) := by decide +kernel
theorem dX12_lacks_39 : decode cX12_lacks 39 = .ok (.aload_n 0, 1) := by decide +kernel
theorem dX12_lacks_40 : decode cX12_lacks 40 = .ok (.iconst 0, 1) := by decide +kernel
theorem dX12_lacks_41 : decode cX12_lacks 41 = .ok (.iload_n 2, 1) := by decide +kernel
theorem dX12_lacks_42 : decode cX12_lacks 42 = .ok (.invokevirtual 520, 3) := by decide +kernel
theorem dX12_lacks_45 : decode cX12_lacks 45 = .ok (.aload_n 0, 1) := by decide +kernel
theorem dX12_lacks_46 : decode cX12_lacks 46 = .ok (.getfield 79, 3) := by decide +kernel
theorem dX12_lacks_49 : decode cX12_lacks 49 = .ok (.iload_n 1, 1) := by decide +kernel
theorem dX12_lacks_50 : decode cX12_lacks 50 = .ok (.iaload, 1) := by decide +kernel
theorem dX12_lacks_51 : decode cX12_lacks 51 = .ok (.iconst 3, 1) := by decide +kernel
theorem dX12_lacks_52 : decode cX12_lacks 52 = .ok (.if_icmp .ne 5, 3) := by decide +kernel
theorem dX12_lacks_55 : decode cX12_lacks 55 = .ok (.iconst 0, 1) := by decide +kernel
theorem dX12_lacks_56 : decode cX12_lacks 56 = .ok (.ireturn, 1) := by decide +kernel
theorem dX12_lacks_57 : decode cX12_lacks 57 = .ok (.aload_n 0, 1) := by decide +kernel
theorem dX12_lacks_58 : decode cX12_lacks 58 = .ok (.getfield 67, 3) := by decide +kernel
theorem dX12_lacks_61 : decode cX12_lacks 61 = .ok (.iload_n 1, 1) := by decide +kernel
theorem dX12_lacks_62 : decode cX12_lacks 62 = .ok (.iaload, 1) := by decide +kernel
theorem dX12_lacks_63 : decode cX12_lacks 63 = .ok (.iconst (-1), 1) := by decide +kernel
theorem dX12_lacks_64 : decode cX12_lacks 64 = .ok (.if_icmp .eq 13, 3) := by decide +kernel
theorem dX12_lacks_67 : decode cX12_lacks 67 = .ok (.aload_n 0, 1) := by decide +kernel
theorem dX12_lacks_68 : decode cX12_lacks 68 = .ok (.getfield 67, 3) := by decide +kernel
theorem dX12_lacks_71 : decode cX12_lacks 71 = .ok (.iload_n 1, 1) := by decide +kernel
theorem dX12_lacks_72 : decode cX12_lacks 72 = .ok (.iaload, 1) := by decide +kernel
theorem dX12_lacks_73 : decode cX12_lacks 73 = .ok (.iload_n 2, 1) := by decide +kernel
theorem dX12_lacks_74 : decode cX12_lacks 74 = .ok (.if_icmp .le 5, 3) := by decide +kernel
theorem dX12_lacks_77 : decode cX12_lacks 77 = .ok (.iconst 1, 1) := by decide +kernel
theorem dX12_lacks_78 : decode cX12_lacks 78 = .ok (.ireturn, 1) := by decide +kernel
theorem dX12_lacks_79 : decode cX12_lacks 79 = .ok (.aload_n 0, 1) := by decide +kernel
theorem dX12_lacks_80 : decode cX12_lacks 80 = .ok (.getfield 70, 3) := by decide +kernel
theorem dX12_lacks_83 : decode cX12_lacks 83 = .ok (.iload_n 1, 1) := by decide +kernel
theorem dX12_lacks_84 : decode cX12_lacks 84 = .ok (.baload, 1) := by decide +kernel
theorem dX12_lacks_85 : decode cX12_lacks 85 = .ok (.ifCond .ne 7, 3) := by decide +kernel
theorem dX12_lacks_88 : decode cX12_lacks 88 = .ok (.iconst 2, 1) := by decide +kernel
theorem dX12_lacks_89 : decode cX12_lacks 89 = .ok (.goto 48, 3) := by decide +kernel
theorem dX12_lacks_92 : decode cX12_lacks 92 = .ok (.aload_n 0, 1) := by decide +kernel
theorem dX12_lacks_93 : decode cX12_lacks 93 = .ok (.getfield 8, 3) := by decide +kernel
theorem dX12_lacks_96 : decode cX12_lacks 96 = .ok (.sipush 23532, 3) := by decide +kernel
theorem dX12_lacks_99 : decode cX12_lacks 99 = .ok (.iconst 4, 1) := by decide +kernel
theorem dX12_lacks_100 : decode cX12_lacks 100 = .ok (.iload_n 1, 1) := by decide +kernel
theorem dX12_lacks_101 : decode cX12_lacks 101 = .ok (.imul, 1) := by decide +kernel
theorem dX12_lacks_102 : decode cX12_lacks 102 = .ok (.iadd, 1) := by decide +kernel
theorem dX12_lacks_103 : decode cX12_lacks 103 = .ok (.iconst 3, 1) := by decide +kernel
theorem dX12_lacks_104 : decode cX12_lacks 104 = .ok (.iadd, 1) := by decide +kernel
theorem dX12_lacks_105 : decode cX12_lacks 105 = .ok (.iaload, 1) := by decide +kernel
theorem dX12_lacks_106 : decode cX12_lacks 106 = .ok (.iload_n 2, 1) := by decide +kernel
theorem dX12_lacks_107 : decode cX12_lacks 107 = .ok (.if_icmp .le 7, 3) := by decide +kernel
theorem dX12_lacks_110 : decode cX12_lacks 110 = .ok (.iconst 3, 1) := by decide +kernel
theorem dX12_lacks_111 : decode cX12_lacks 111 = .ok (.goto 26, 3) := by decide +kernel
theorem dX12_lacks_114 : decode cX12_lacks 114 = .ok (.aload_n 0, 1) := by decide +kernel
theorem dX12_lacks_115 : decode cX12_lacks 115 = .ok (.getfield 82, 3) := by decide +kernel
theorem dX12_lacks_118 : decode cX12_lacks 118 = .ok (.iload_n 1, 1) := by decide +kernel
theorem dX12_lacks_119 : decode cX12_lacks 119 = .ok (.baload, 1) := by decide +kernel
theorem dX12_lacks_120 : decode cX12_lacks 120 = .ok (.ifCond .ne 12, 3) := by decide +kernel
theorem dX12_lacks_123 : decode cX12_lacks 123 = .ok (.aload_n 0, 1) := by decide +kernel
theorem dX12_lacks_124 : decode cX12_lacks 124 = .ok (.getfield 88, 3) := by decide +kernel
theorem dX12_lacks_127 : decode cX12_lacks 127 = .ok (.iload_n 1, 1) := by decide +kernel
theorem dX12_lacks_128 : decode cX12_lacks 128 = .ok (.baload, 1) := by decide +kernel
theorem dX12_lacks_129 : decode cX12_lacks 129 = .ok (.ifCond .eq 7, 3) := by decide +kernel
theorem dX12_lacks_132 : decode cX12_lacks 132 = .ok (.iconst 5, 1) := by decide +kernel
theorem dX12_lacks_133 : decode cX12_lacks 133 = .ok (.goto 4, 3) := by decide +kernel
theorem dX12_lacks_136 : decode cX12_lacks 136 = .ok (.iconst 4, 1) := by decide +kernel
theorem dX12_lacks_137 : decode cX12_lacks 137 = .ok (.ireturn, 1) := by decide +kernel
theorem dX12_knock_0 : decode cX12_knock 0 = .ok (.aload_n 0, 1) := by decide +kernel
theorem dX12_knock_1 : decode cX12_knock 1 = .ok (.iconst 0, 1) := by decide +kernel
theorem dX12_knock_2 : decode cX12_knock 2 = .ok (.putfield 145, 3) := by decide +kernel
theorem dX12_knock_5 : decode cX12_knock 5 = .ok (.iload_n 1, 1) := by decide +kernel
theorem dX12_knock_6 : decode cX12_knock 6 = .ok (.invokestatic 387, 3) := by decide +kernel
theorem dX12_knock_9 : decode cX12_knock 9 = .ok (.ifCond .eq 15, 3) := by decide +kernel
theorem dX12_knock_12 : decode cX12_knock 12 = .ok (.iload_n 2, 1) := by decide +kernel
theorem dX12_knock_13 : decode cX12_knock 13 = .ok (.i2l, 1) := by decide +kernel
theorem dX12_knock_14 : decode cX12_knock 14 = .ok (.lconst 1, 1) := by decide +kernel
theorem dX12_knock_15 : decode cX12_knock 15 = .ok (.ldc2_w 523, 3) := by decide +kernel
theorem dX12_knock_18 : decode cX12_knock 18 = .ok (.invokestatic 153, 3) := by decide +kernel
theorem dX12_knock_21 : decode cX12_knock 21 = .ok (.ifCond .ne 7, 3) := by decide +kernel
theorem dX12_knock_24 : decode cX12_knock 24 = .ok (.ldc_w 528, 3) := by decide +kernel
theorem dX12_knock_27 : decode cX12_knock 27 = .ok (.ireturn, 1) := by decide +kernel
theorem dX12_knock_28 : decode cX12_knock 28 = .ok (.aload_n 0, 1) := by decide +kernel
theorem dX12_knock_29 : decode cX12_knock 29 = .ok (.iload_n 1, 1) := by decide +kernel
theorem dX12_knock_30 : decode cX12_knock 30 = .ok (.iconst 0, 1) := by decide +kernel
theorem dX12_knock_31 : decode cX12_knock 31 = .ok (.invokevirtual 525, 3) := by decide +kernel
theorem dX12_knock_34 : decode cX12_knock 34 = .ok (.iconst 0, 1) := by decide +kernel
theorem dX12_knock_35 : decode cX12_knock 35 = .ok (.istore_n 3, 1) := by decide +kernel
theorem dX12_knock_36 : decode cX12_knock 36 = .ok (.iload_n 3, 1) := by decide +kernel
theorem dX12_knock_37 : decode cX12_knock 37 = .ok (.aload_n 0, 1) := by decide +kernel
theorem dX12_knock_38 : decode cX12_knock 38 = .ok (.getfield 8, 3) := by decide +kernel
theorem dX12_knock_41 : decode cX12_knock 41 = .ok (.iconst 4, 1) := by decide +kernel
theorem dX12_knock_42 : decode cX12_knock 42 = .ok (.iaload, 1) := by decide +kernel
theorem dX12_knock_43 : decode cX12_knock 43 = .ok (.if_icmp .ge 25, 3) := by decide +kernel
theorem dX12_knock_46 : decode cX12_knock 46 = .ok (.aload_n 0, 1) := by decide +kernel
theorem dX12_knock_47 : decode cX12_knock 47 = .ok (.getfield 100, 3) := by decide +kernel
theorem dX12_knock_50 : decode cX12_knock 50 = .ok (.iload_n 3, 1) := by decide +kernel
theorem dX12_knock_51 : decode cX12_knock 51 = .ok (.aload_n 0, 1) := by decide +kernel
theorem dX12_knock_52 : decode cX12_knock 52 = .ok (.getfield 94, 3) := by decide +kernel
theorem dX12_knock_55 : decode cX12_knock 55 = .ok (.iconst 3, 1) := by decide +kernel
theorem dX12_knock_56 : decode cX12_knock 56 = .ok (.iload_n 3, 1) := by decide +kernel
theorem dX12_knock_57 : decode cX12_knock 57 = .ok (.imul, 1) := by decide +kernel
theorem dX12_knock_58 : decode cX12_knock 58 = .ok (.iconst 2, 1) := by decide +kernel
theorem dX12_knock_59 : decode cX12_knock 59 = .ok (.iadd, 1) := by decide +kernel
theorem dX12_knock_60 : decode cX12_knock 60 = .ok (.iaload, 1) := by decide +kernel
theorem dX12_knock_61 : decode cX12_knock 61 = .ok (.iastore, 1) := by decide +kernel
theorem dX12_knock_62 : decode cX12_knock 62 = .ok (.iinc 3 1, 3) := by decide +kernel
theorem dX12_knock_65 : decode cX12_knock 65 = .ok (.goto (-29), 3) := by decide +kernel
theorem dX12_knock_68 : decode cX12_knock 68 = .ok (.aload_n 0, 1) := by decide +kernel
theorem dX12_knock_69 : decode cX12_knock 69 = .ok (.iload_n 2, 1) := by decide +kernel
theorem dX12_knock_70 : decode cX12_knock 70 = .ok (.invokevirtual 517, 3) := by decide +kernel
theorem dX12_knock_73 : decode cX12_knock 73 = .ok (.aload_n 0, 1) := by decide +kernel
theorem dX12_knock_74 : decode cX12_knock 74 = .ok (.iconst 0, 1) := by decide +kernel
theorem dX12_knock_75 : decode cX12_knock 75 = .ok (.sipush 259, 3) := by decide +kernel
theorem dX12_knock_78 : decode cX12_knock 78 = .ok (.invokevirtual 520, 3) := by decide +kernel
theorem dX12_knock_81 : decode cX12_knock 81 = .ok (.iconst 0, 1) := by decide +kernel
theorem dX12_knock_82 : decode cX12_knock 82 = .ok (.istore_n 3, 1) := by decide +kernel
theorem dX12_knock_83 : decode cX12_knock 83 = .ok (.iconst 0, 1) := by decide +kernel
theorem dX12_knock_84 : decode cX12_knock 84 = .ok (.istore 4, 2) := by decide +kernel
theorem dX12_knock_86 : decode cX12_knock 86 = .ok (.iload 4, 2) := by decide +kernel
theorem dX12_knock_88 : decode cX12_knock 88 = .ok (.aload_n 0, 1) := by decide +kernel
theorem dX12_knock_89 : decode cX12_knock 89 = .ok (.getfield 8, 3) := by decide +kernel
theorem dX12_knock_92 : decode cX12_knock 92 = .ok (.iconst 4, 1) := by decide +kernel
theorem dX12_knock_93 : decode cX12_knock 93 = .ok (.iaload, 1) := by decide +kernel
theorem dX12_knock_94 : decode cX12_knock 94 = .ok (.if_icmp .ge 63, 3) := by decide +kernel
theorem dX12_knock_97 : decode cX12_knock 97 = .ok (.aload_n 0, 1) := by decide +kernel
theorem dX12_knock_98 : decode cX12_knock 98 = .ok (.getfield 100, 3) := by decide +kernel
theorem dX12_knock_101 : decode cX12_knock 101 = .ok (.iload 4, 2) := by decide +kernel
theorem dX12_knock_103 : decode cX12_knock 103 = .ok (.iaload, 1) := by decide +kernel
theorem dX12_knock_104 : decode cX12_knock 104 = .ok (.iconst (-1), 1) := by decide +kernel
theorem dX12_knock_105 : decode cX12_knock 105 = .ok (.if_icmp .eq 46, 3) := by decide +kernel
theorem dX12_knock_108 : decode cX12_knock 108 = .ok (.iload_n 3, 1) := by decide +kernel
theorem dX12_knock_109 : decode cX12_knock 109 = .ok (.aload_n 0, 1) := by decide +kernel
theorem dX12_knock_110 : decode cX12_knock 110 = .ok (.getfield 94, 3) := by decide +kernel
theorem dX12_knock_113 : decode cX12_knock 113 = .ok (.iconst 3, 1) := by decide +kernel
theorem dX12_knock_114 : decode cX12_knock 114 = .ok (.iload 4, 2) := by decide +kernel
theorem dX12_knock_116 : decode cX12_knock 116 = .ok (.imul, 1) := by decide +kernel
theorem dX12_knock_117 : decode cX12_knock 117 = .ok (.iconst 2, 1) := by decide +kernel
theorem dX12_knock_118 : decode cX12_knock 118 = .ok (.iadd, 1) := by decide +kernel
theorem dX12_knock_119 : decode cX12_knock 119 = .ok (.iaload, 1) := by decide +kernel
theorem dX12_knock_120 : decode cX12_knock 120 = .ok (.iconst (-1), 1) := by decide +kernel
theorem dX12_knock_121 : decode cX12_knock 121 = .ok (.if_icmp .ne 9, 3) := by decide +kernel
theorem dX12_knock_124 : decode cX12_knock 124 = .ok (.sipush 260, 3) := by decide +kernel
theorem dX12_knock_127 : decode cX12_knock 127 = .ok (.goto 14, 3) := by decide +kernel
theorem dX12_knock_130 : decode cX12_knock 130 = .ok (.aload_n 0, 1) := by decide +kernel
theorem dX12_knock_131 : decode cX12_knock 131 = .ok (.getfield 94, 3) := by decide +kernel
theorem dX12_knock_134 : decode cX12_knock 134 = .ok (.iconst 3, 1) := by decide +kernel
theorem dX12_knock_135 : decode cX12_knock 135 = .ok (.iload 4, 2) := by decide +kernel
theorem dX12_knock_137 : decode cX12_knock 137 = .ok (.imul, 1) := by decide +kernel
theorem dX12_knock_138 : decode cX12_knock 138 = .ok (.iconst 2, 1) := by decide +kernel
theorem dX12_knock_139 : decode cX12_knock 139 = .ok (.iadd, 1) := by decide +kernel
theorem dX12_knock_140 : decode cX12_knock 140 = .ok (.iaload, 1) := by decide +kernel
theorem dX12_knock_141 : decode cX12_knock 141 = .ok (.aload_n 0, 1) := by decide +kernel
theorem dX12_knock_142 : decode cX12_knock 142 = .ok (.getfield 100, 3) := by decide +kernel
theorem dX12_knock_145 : decode cX12_knock 145 = .ok (.iload 4, 2) := by decide +kernel
theorem dX12_knock_147 : decode cX12_knock 147 = .ok (.iaload, 1) := by decide +kernel
theorem dX12_knock_148 : decode cX12_knock 148 = .ok (.isub, 1) := by decide +kernel
theorem dX12_knock_149 : decode cX12_knock 149 = .ok (.iadd, 1) := by decide +kernel
theorem dX12_knock_150 : decode cX12_knock 150 = .ok (.istore_n 3, 1) := by decide +kernel
theorem dX12_knock_151 : decode cX12_knock 151 = .ok (.iinc 4 1, 3) := by decide +kernel
theorem dX12_knock_154 : decode cX12_knock 154 = .ok (.goto (-68), 3) := by decide +kernel
theorem dX12_knock_157 : decode cX12_knock 157 = .ok (.iload_n 3, 1) := by decide +kernel
theorem dX12_knock_158 : decode cX12_knock 158 = .ok (.ireturn, 1) := by decide +kernel
theorem dX12_wish_0 : decode cX12_wish 0 = .ok (.aload_n 0, 1) := by decide +kernel
theorem dX12_wish_1 : decode cX12_wish 1 = .ok (.iconst 0, 1) := by decide +kernel
theorem dX12_wish_2 : decode cX12_wish 2 = .ok (.putfield 145, 3) := by decide +kernel
theorem dX12_wish_5 : decode cX12_wish 5 = .ok (.aload_n 0, 1) := by decide +kernel
theorem dX12_wish_6 : decode cX12_wish 6 = .ok (.iload_n 1, 1) := by decide +kernel
theorem dX12_wish_7 : decode cX12_wish 7 = .ok (.invokevirtual 471, 3) := by decide +kernel
theorem dX12_wish_10 : decode cX12_wish 10 = .ok (.ifCond .ne 10, 3) := by decide +kernel
theorem dX12_wish_13 : decode cX12_wish 13 = .ok (.aload_n 0, 1) := by decide +kernel
theorem dX12_wish_14 : decode cX12_wish 14 = .ok (.bipush (-2), 2) := by decide +kernel
theorem dX12_wish_16 : decode cX12_wish 16 = .ok (.invokevirtual 163, 3) := by decide +kernel
theorem dX12_wish_19 : decode cX12_wish 19 = .ok (.ireturn, 1) := by decide +kernel
theorem dX12_wish_20 : decode cX12_wish 20 = .ok (.iconst 0, 1) := by decide +kernel
theorem dX12_wish_21 : decode cX12_wish 21 = .ok (.istore_n 2, 1) := by decide +kernel
theorem dX12_wish_22 : decode cX12_wish 22 = .ok (.iload_n 2, 1) := by decide +kernel
theorem dX12_wish_23 : decode cX12_wish 23 = .ok (.aload_n 0, 1) := by decide +kernel
theorem dX12_wish_24 : decode cX12_wish 24 = .ok (.getfield 8, 3) := by decide +kernel
theorem dX12_wish_27 : decode cX12_wish 27 = .ok (.iconst 5, 1) := by decide +kernel
theorem dX12_wish_28 : decode cX12_wish 28 = .ok (.iaload, 1) := by decide +kernel
theorem dX12_wish_29 : decode cX12_wish 29 = .ok (.if_icmp .ge 32, 3) := by decide +kernel
theorem dX12_wish_32 : decode cX12_wish 32 = .ok (.aload_n 0, 1) := by decide +kernel
theorem dX12_wish_33 : decode cX12_wish 33 = .ok (.getfield 8, 3) := by decide +kernel
theorem dX12_wish_36 : decode cX12_wish 36 = .ok (.sipush 23652, 3) := by decide +kernel
theorem dX12_wish_39 : decode cX12_wish 39 = .ok (.iconst 3, 1) := by decide +kernel
theorem dX12_wish_40 : decode cX12_wish 40 = .ok (.iload_n 2, 1) := by decide +kernel
theorem dX12_wish_41 : decode cX12_wish 41 = .ok (.imul, 1) := by decide +kernel
theorem dX12_wish_42 : decode cX12_wish 42 = .ok (.iadd, 1) := by decide +kernel
theorem dX12_wish_43 : decode cX12_wish 43 = .ok (.iaload, 1) := by decide +kernel
theorem dX12_wish_44 : decode cX12_wish 44 = .ok (.iload_n 1, 1) := by decide +kernel
theorem dX12_wish_45 : decode cX12_wish 45 = .ok (.if_icmp .ne 10, 3) := by decide +kernel
theorem dX12_wish_48 : decode cX12_wish 48 = .ok (.aload_n 0, 1) := by decide +kernel
theorem dX12_wish_49 : decode cX12_wish 49 = .ok (.bipush (-3), 2) := by decide +kernel
theorem dX12_wish_51 : decode cX12_wish 51 = .ok (.invokevirtual 163, 3) := by decide +kernel
theorem dX12_wish_54 : decode cX12_wish 54 = .ok (.ireturn, 1) := by decide +kernel
theorem dX12_wish_55 : decode cX12_wish 55 = .ok (.iinc 2 1, 3) := by decide +kernel
theorem dX12_wish_58 : decode cX12_wish 58 = .ok (.goto (-36), 3) := by decide +kernel
theorem dX12_wish_61 : decode cX12_wish 61 = .ok (.iconst 0, 1) := by decide +kernel
theorem dX12_wish_62 : decode cX12_wish 62 = .ok (.istore_n 2, 1) := by decide +kernel
theorem dX12_wish_63 : decode cX12_wish 63 = .ok (.iload_n 2, 1) := by decide +kernel
theorem dX12_wish_64 : decode cX12_wish 64 = .ok (.aload_n 0, 1) := by decide +kernel
theorem dX12_wish_65 : decode cX12_wish 65 = .ok (.getfield 170, 3) := by decide +kernel
theorem dX12_wish_68 : decode cX12_wish 68 = .ok (.if_icmp .ge 26, 3) := by decide +kernel
theorem dX12_wish_71 : decode cX12_wish 71 = .ok (.aload_n 0, 1) := by decide +kernel
theorem dX12_wish_72 : decode cX12_wish 72 = .ok (.getfield 103, 3) := by decide +kernel
theorem dX12_wish_75 : decode cX12_wish 75 = .ok (.iload_n 2, 1) := by decide +kernel
theorem dX12_wish_76 : decode cX12_wish 76 = .ok (.iaload, 1) := by decide +kernel
theorem dX12_wish_77 : decode cX12_wish 77 = .ok (.iload_n 1, 1) := by decide +kernel
theorem dX12_wish_78 : decode cX12_wish 78 = .ok (.if_icmp .ne 10, 3) := by decide +kernel
theorem dX12_wish_81 : decode cX12_wish 81 = .ok (.aload_n 0, 1) := by decide +kernel
theorem dX12_wish_82 : decode cX12_wish 82 = .ok (.bipush (-4), 2) := by decide +kernel
theorem dX12_wish_84 : decode cX12_wish 84 = .ok (.invokevirtual 163, 3) := by decide +kernel
theorem dX12_wish_87 : decode cX12_wish 87 = .ok (.ireturn, 1) := by decide +kernel
theorem dX12_wish_88 : decode cX12_wish 88 = .ok (.iinc 2 1, 3) := by decide +kernel
theorem dX12_wish_91 : decode cX12_wish 91 = .ok (.goto (-28), 3) := by decide +kernel
theorem dX12_wish_94 : decode cX12_wish 94 = .ok (.aload_n 0, 1) := by decide +kernel
theorem dX12_wish_95 : decode cX12_wish 95 = .ok (.getfield 170, 3) := by decide +kernel
theorem dX12_wish_98 : decode cX12_wish 98 = .ok (.bipush 6, 2) := by decide +kernel
theorem dX12_wish_100 : decode cX12_wish 100 = .ok (.if_icmp .ne 10, 3) := by decide +kernel
theorem dX12_wish_103 : decode cX12_wish 103 = .ok (.aload_n 0, 1) := by decide +kernel
theorem dX12_wish_104 : decode cX12_wish 104 = .ok (.bipush (-5), 2) := by decide +kernel
theorem dX12_wish_106 : decode cX12_wish 106 = .ok (.invokevirtual 163, 3) := by decide +kernel
theorem dX12_wish_109 : decode cX12_wish 109 = .ok (.ireturn, 1) := by decide +kernel
theorem dX12_wish_110 : decode cX12_wish 110 = .ok (.aload_n 0, 1) := by decide +kernel
theorem dX12_wish_111 : decode cX12_wish 111 = .ok (.getfield 103, 3) := by decide +kernel
theorem dX12_wish_114 : decode cX12_wish 114 = .ok (.aload_n 0, 1) := by decide +kernel
theorem dX12_wish_115 : decode cX12_wish 115 = .ok (.getfield 170, 3) := by decide +kernel
theorem dX12_wish_118 : decode cX12_wish 118 = .ok (.iload_n 1, 1) := by decide +kernel
theorem dX12_wish_119 : decode cX12_wish 119 = .ok (.iastore, 1) := by decide +kernel
theorem dX12_wish_120 : decode cX12_wish 120 = .ok (.aload_n 0, 1) := by decide +kernel
theorem dX12_wish_121 : decode cX12_wish 121 = .ok (.dup, 1) := by decide +kernel
theorem dX12_wish_122 : decode cX12_wish 122 = .ok (.getfield 170, 3) := by decide +kernel
theorem dX12_wish_125 : decode cX12_wish 125 = .ok (.iconst 1, 1) := by decide +kernel
theorem dX12_wish_126 : decode cX12_wish 126 = .ok (.iadd, 1) := by decide +kernel
theorem dX12_wish_127 : decode cX12_wish 127 = .ok (.putfield 170, 3) := by decide +kernel
theorem dX12_wish_130 : decode cX12_wish 130 = .ok (.aload_n 0, 1) := by decide +kernel
theorem dX12_wish_131 : decode cX12_wish 131 = .ok (.aload_n 0, 1) := by decide +kernel
theorem dX12_wish_132 : decode cX12_wish 132 = .ok (.getfield 170, 3) := by decide +kernel
theorem dX12_wish_135 : decode cX12_wish 135 = .ok (.invokevirtual 163, 3) := by decide +kernel
theorem dX12_wish_138 : decode cX12_wish 138 = .ok (.ireturn, 1) := by decide +kernel
theorem dX12_clear_0 : decode cX12_clear 0 = .ok (.aload_n 0, 1) := by decide +kernel
theorem dX12_clear_1 : decode cX12_clear 1 = .ok (.iconst 0, 1) := by decide +kernel
theorem dX12_clear_2 : decode cX12_clear 2 = .ok (.putfield 145, 3) := by decide +kernel
theorem dX12_clear_5 : decode cX12_clear 5 = .ok (.aload_n 0, 1) := by decide +kernel
theorem dX12_clear_6 : decode cX12_clear 6 = .ok (.getfield 170, 3) := by decide +kernel
theorem dX12_clear_9 : decode cX12_clear 9 = .ok (.istore_n 1, 1) := by decide +kernel
theorem dX12_clear_10 : decode cX12_clear 10 = .ok (.aload_n 0, 1) := by decide +kernel
theorem dX12_clear_11 : decode cX12_clear 11 = .ok (.iconst 0, 1) := by decide +kernel
theorem dX12_clear_12 : decode cX12_clear 12 = .ok (.putfield 170, 3) := by decide +kernel
theorem dX12_clear_15 : decode cX12_clear 15 = .ok (.iload_n 1, 1) := by decide +kernel
theorem dX12_clear_16 : decode cX12_clear 16 = .ok (.ireturn, 1) := by decide +kernel
theorem dX12_goAhead_0 : decode cX12_goAhead 0 = .ok (.aload_n 0, 1) := by decide +kernel
theorem dX12_goAhead_1 : decode cX12_goAhead 1 = .ok (.bipush 13, 2) := by decide +kernel
theorem dX12_goAhead_3 : decode cX12_goAhead 3 = .ok (.iload_n 1, 1) := by decide +kernel
theorem dX12_goAhead_4 : decode cX12_goAhead 4 = .ok (.imul, 1) := by decide +kernel
theorem dX12_goAhead_5 : decode cX12_goAhead 5 = .ok (.invokevirtual 406, 3) := by decide +kernel
theorem dX12_goAhead_8 : decode cX12_goAhead 8 = .ok (.aload_n 0, 1) := by decide +kernel
theorem dX12_goAhead_9 : decode cX12_goAhead 9 = .ok (.iconst 0, 1) := by decide +kernel
theorem dX12_goAhead_10 : decode cX12_goAhead 10 = .ok (.invokevirtual 517, 3) := by decide +kernel
theorem dX12_goAhead_13 : decode cX12_goAhead 13 = .ok (.aload_n 0, 1) := by decide +kernel
theorem dX12_goAhead_14 : decode cX12_goAhead 14 = .ok (.iconst 0, 1) := by decide +kernel
theorem dX12_goAhead_15 : decode cX12_goAhead 15 = .ok (.bipush 13, 2) := by decide +kernel
theorem dX12_goAhead_17 : decode cX12_goAhead 17 = .ok (.iload_n 1, 1) := by decide +kernel
theorem dX12_goAhead_18 : decode cX12_goAhead 18 = .ok (.imul, 1) := by decide +kernel
theorem dX12_goAhead_19 : decode cX12_goAhead 19 = .ok (.iconst 1, 1) := by decide +kernel
theorem dX12_goAhead_20 : decode cX12_goAhead 20 = .ok (.isub, 1) := by decide +kernel
theorem dX12_goAhead_21 : decode cX12_goAhead 21 = .ok (.invokevirtual 520, 3) := by decide +kernel
theorem dX12_goAhead_24 : decode cX12_goAhead 24 = .ok (.iconst 0, 1) := by decide +kernel
theorem dX12_goAhead_25 : decode cX12_goAhead 25 = .ok (.istore_n 2, 1) := by decide +kernel
theorem dX12_goAhead_26 : decode cX12_goAhead 26 = .ok (.iload_n 2, 1) := by decide +kernel
theorem dX12_goAhead_27 : decode cX12_goAhead 27 = .ok (.iconst 5, 1) := by decide +kernel
theorem dX12_goAhead_28 : decode cX12_goAhead 28 = .ok (.if_icmp .ge 21, 3) := by decide +kernel
theorem dX12_goAhead_31 : decode cX12_goAhead 31 = .ok (.aload_n 0, 1) := by decide +kernel
theorem dX12_goAhead_32 : decode cX12_goAhead 32 = .ok (.getfield 109, 3) := by decide +kernel
theorem dX12_goAhead_35 : decode cX12_goAhead 35 = .ok (.iload_n 2, 1) := by decide +kernel
theorem dX12_goAhead_36 : decode cX12_goAhead 36 = .ok (.aload_n 0, 1) := by decide +kernel
theorem dX12_goAhead_37 : decode cX12_goAhead 37 = .ok (.getfield 73, 3) := by decide +kernel
theorem dX12_goAhead_40 : decode cX12_goAhead 40 = .ok (.iload_n 2, 1) := by decide +kernel
theorem dX12_goAhead_41 : decode cX12_goAhead 41 = .ok (.iaload, 1) := by decide +kernel
theorem dX12_goAhead_42 : decode cX12_goAhead 42 = .ok (.iastore, 1) := by decide +kernel
theorem dX12_goAhead_43 : decode cX12_goAhead 43 = .ok (.iinc 2 1, 3) := by decide +kernel
theorem dX12_goAhead_46 : decode cX12_goAhead 46 = .ok (.goto (-20), 3) := by decide +kernel
theorem dX12_goAhead_49 : decode cX12_goAhead 49 = .ok (.iconst 0, 1) := by decide +kernel
theorem dX12_goAhead_50 : decode cX12_goAhead 50 = .ok (.istore_n 2, 1) := by decide +kernel
theorem dX12_goAhead_51 : decode cX12_goAhead 51 = .ok (.iload_n 2, 1) := by decide +kernel
theorem dX12_goAhead_52 : decode cX12_goAhead 52 = .ok (.bipush 30, 2) := by decide +kernel
theorem dX12_goAhead_54 : decode cX12_goAhead 54 = .ok (.if_icmp .ge 45, 3) := by decide +kernel
theorem dX12_goAhead_57 : decode cX12_goAhead 57 = .ok (.aload_n 0, 1) := by decide +kernel
theorem dX12_goAhead_58 : decode cX12_goAhead 58 = .ok (.getfield 112, 3) := by decide +kernel
theorem dX12_goAhead_61 : decode cX12_goAhead 61 = .ok (.iload_n 2, 1) := by decide +kernel
theorem dX12_goAhead_62 : decode cX12_goAhead 62 = .ok (.aload_n 0, 1) := by decide +kernel
theorem dX12_goAhead_63 : decode cX12_goAhead 63 = .ok (.getfield 79, 3) := by decide +kernel
theorem dX12_goAhead_66 : decode cX12_goAhead 66 = .ok (.iload_n 2, 1) := by decide +kernel
theorem dX12_goAhead_67 : decode cX12_goAhead 67 = .ok (.iaload, 1) := by decide +kernel
theorem dX12_goAhead_68 : decode cX12_goAhead 68 = .ok (.iastore, 1) := by decide +kernel
theorem dX12_goAhead_69 : decode cX12_goAhead 69 = .ok (.aload_n 0, 1) := by decide +kernel
theorem dX12_goAhead_70 : decode cX12_goAhead 70 = .ok (.getfield 115, 3) := by decide +kernel
theorem dX12_goAhead_73 : decode cX12_goAhead 73 = .ok (.iload_n 2, 1) := by decide +kernel
theorem dX12_goAhead_74 : decode cX12_goAhead 74 = .ok (.aload_n 0, 1) := by decide +kernel
theorem dX12_goAhead_75 : decode cX12_goAhead 75 = .ok (.getfield 82, 3) := by decide +kernel
theorem dX12_goAhead_78 : decode cX12_goAhead 78 = .ok (.iload_n 2, 1) := by decide +kernel
theorem dX12_goAhead_79 : decode cX12_goAhead 79 = .ok (.baload, 1) := by decide +kernel
theorem dX12_goAhead_80 : decode cX12_goAhead 80 = .ok (.bastore, 1) := by decide +kernel
theorem dX12_goAhead_81 : decode cX12_goAhead 81 = .ok (.aload_n 0, 1) := by decide +kernel
theorem dX12_goAhead_82 : decode cX12_goAhead 82 = .ok (.getfield 118, 3) := by decide +kernel
theorem dX12_goAhead_85 : decode cX12_goAhead 85 = .ok (.iload_n 2, 1) := by decide +kernel
theorem dX12_goAhead_86 : decode cX12_goAhead 86 = .ok (.aload_n 0, 1) := by decide +kernel
theorem dX12_goAhead_87 : decode cX12_goAhead 87 = .ok (.getfield 85, 3) := by decide +kernel
theorem dX12_goAhead_90 : decode cX12_goAhead 90 = .ok (.iload_n 2, 1) := by decide +kernel
theorem dX12_goAhead_91 : decode cX12_goAhead 91 = .ok (.iaload, 1) := by decide +kernel
theorem dX12_goAhead_92 : decode cX12_goAhead 92 = .ok (.iastore, 1) := by decide +kernel
theorem dX12_goAhead_93 : decode cX12_goAhead 93 = .ok (.iinc 2 1, 3) := by decide +kernel
theorem dX12_goAhead_96 : decode cX12_goAhead 96 = .ok (.goto (-45), 3) := by decide +kernel
theorem dX12_goAhead_99 : decode cX12_goAhead 99 = .ok (.iconst 0, 1) := by decide +kernel
theorem dX12_goAhead_100 : decode cX12_goAhead 100 = .ok (.istore_n 2, 1) := by decide +kernel
theorem dX12_goAhead_101 : decode cX12_goAhead 101 = .ok (.iload_n 2, 1) := by decide +kernel
theorem dX12_goAhead_102 : decode cX12_goAhead 102 = .ok (.bipush 90, 2) := by decide +kernel
theorem dX12_goAhead_104 : decode cX12_goAhead 104 = .ok (.if_icmp .ge 33, 3) := by decide +kernel
theorem dX12_goAhead_107 : decode cX12_goAhead 107 = .ok (.aload_n 0, 1) := by decide +kernel
theorem dX12_goAhead_108 : decode cX12_goAhead 108 = .ok (.getfield 121, 3) := by decide +kernel
theorem dX12_goAhead_111 : decode cX12_goAhead 111 = .ok (.iload_n 2, 1) := by decide +kernel
theorem dX12_goAhead_112 : decode cX12_goAhead 112 = .ok (.aload_n 0, 1) := by decide +kernel
theorem dX12_goAhead_113 : decode cX12_goAhead 113 = .ok (.getfield 91, 3) := by decide +kernel
theorem dX12_goAhead_116 : decode cX12_goAhead 116 = .ok (.iload_n 2, 1) := by decide +kernel
theorem dX12_goAhead_117 : decode cX12_goAhead 117 = .ok (.iaload, 1) := by decide +kernel
theorem dX12_goAhead_118 : decode cX12_goAhead 118 = .ok (.iastore, 1) := by decide +kernel
theorem dX12_goAhead_119 : decode cX12_goAhead 119 = .ok (.aload_n 0, 1) := by decide +kernel
theorem dX12_goAhead_120 : decode cX12_goAhead 120 = .ok (.getfield 124, 3) := by decide +kernel
theorem dX12_goAhead_123 : decode cX12_goAhead 123 = .ok (.iload_n 2, 1) := by decide +kernel
theorem dX12_goAhead_124 : decode cX12_goAhead 124 = .ok (.aload_n 0, 1) := by decide +kernel
theorem dX12_goAhead_125 : decode cX12_goAhead 125 = .ok (.getfield 94, 3) := by decide +kernel
theorem dX12_goAhead_128 : decode cX12_goAhead 128 = .ok (.iload_n 2, 1) := by decide +kernel
theorem dX12_goAhead_129 : decode cX12_goAhead 129 = .ok (.iaload, 1) := by decide +kernel
theorem dX12_goAhead_130 : decode cX12_goAhead 130 = .ok (.iastore, 1) := by decide +kernel
theorem dX12_goAhead_131 : decode cX12_goAhead 131 = .ok (.iinc 2 1, 3) := by decide +kernel
theorem dX12_goAhead_134 : decode cX12_goAhead 134 = .ok (.goto (-33), 3) := by decide +kernel
theorem dX12_goAhead_137 : decode cX12_goAhead 137 = .ok (.return_, 1) := by decide +kernel
def W_X12_goWeek_0 (X : Sx) (l : Launch) (D : Nat) (x1 : Int32) (σ : AH) (r : Option Value) (σ' : AH) : Prop := E X l m_X12_goWeek D 2 [(0, .ref 124), (1, .int x1), (2, .int (0 : Int32))] [] σ r σ'
set_option maxRecDepth 100000 in
theorem w_X12_goWeek_0 {X : Sx} {l : Launch} {D : Nat} {x1 : Int32} {σ : AH} {r : Option Value} {σ' : AH} (hs : Sh σ) (h : W_X12_goWeek_0 X l D x1 σ r σ') : E X l m_X12_goWeek D 0 [(0, .ref 124), (1, .int x1)] [] σ r σ' := by
  unfold W_X12_goWeek_0 at h
  refine E_iconst (0 : Int32) dX12_goWeek_0 (by decide) ?_
  refine E_istore_n [(2, .int (0 : Int32)), (0, .ref 124), (1, .int x1)] dX12_goWeek_1 rfl (by decide) rfl ?_
  exact E_lv [1, 2, 0] rfl h
def W_X12_goWeek_93 (X : Sx) (l : Launch) (D : Nat) (x1 : Int32) (x2 : Int32) (y0 : Int32) (y1 : Int32) (y2 : Int32) (σ : AH) (r : Option Value) (σ' : AH) : Prop := vp_in y2 5 ∧ E X l m_X12_goWeek D 2 [(0, .ref 124), (1, .int x1), (2, .int (x2 + 1))] [] (sI σ 142 y2.toNatClampNeg (y1 + y0)) r σ'
set_option maxRecDepth 100000 in
theorem w_X12_goWeek_93 {X : Sx} {l : Launch} {D : Nat} {x1 : Int32} {x2 : Int32} {y0 : Int32} {y1 : Int32} {y2 : Int32} {σ : AH} {r : Option Value} {σ' : AH} (hs : Sh σ) (h : W_X12_goWeek_93 X l D x1 x2 y0 y1 y2 σ r σ') : E X l m_X12_goWeek D 93 [(0, .ref 124), (1, .int x1), (2, .int x2)] [.int y0, .int y1, .int y2, .ref 142] σ r σ' := by
  unfold W_X12_goWeek_93 at h
  refine E_iadd dX12_goWeek_93 ?_
  obtain ⟨g25, h⟩ := h
  refine E_iast2 (y2.toNatClampNeg) dX12_goWeek_94 (sk_142 hs) (sn hs (by decide)) (Or.inl (by decide)) g25 rfl ?_
  refine E_iinc 2 (x2 + 1) [(2, .int (x2 + 1)), (0, .ref 124), (1, .int x1)] dX12_goWeek_95 rfl (congrArg (x2 + ·) (by decide : Int32.ofInt 1 = 1)) (by decide) rfl ?_
  refine E_goto 2 dX12_goWeek_98 (by decide) ?_
  exact E_lv [1, 2, 0] rfl h
def W_X12_goWeek_92 (X : Sx) (l : Launch) (D : Nat) (x1 : Int32) (x2 : Int32) (y0 : Int32) (y1 : Int32) (σ : AH) (r : Option Value) (σ' : AH) : Prop := W_X12_goWeek_93 X l D x1 x2 (0 : Int32) y0 y1 σ r σ'
set_option maxRecDepth 100000 in
theorem w_X12_goWeek_92 {X : Sx} {l : Launch} {D : Nat} {x1 : Int32} {x2 : Int32} {y0 : Int32} {y1 : Int32} {σ : AH} {r : Option Value} {σ' : AH} (hs : Sh σ) (h : W_X12_goWeek_92 X l D x1 x2 y0 y1 σ r σ') : E X l m_X12_goWeek D 92 [(0, .ref 124), (1, .int x1), (2, .int x2)] [.int y0, .int y1, .ref 142] σ r σ' := by
  unfold W_X12_goWeek_92 at h
  refine E_iconst (0 : Int32) dX12_goWeek_92 (by decide) ?_
  exact E_lv [0, 1, 2] rfl (w_X12_goWeek_93 hs h)
def W_X12_goWeek_45 (X : Sx) (l : Launch) (D : Nat) (x1 : Int32) (x2 : Int32) (x3 : Int32) (y0 : Int32) (y1 : Int32) (σ : AH) (r : Option Value) (σ' : AH) : Prop := vp_in x3 269832 ∧ vp_in (gI σ 125 x3.toNatClampNeg) 5 ∧ vp_in (x3 + (3 : Int32)) 269832 ∧ (if (gI σ 124 23) < (gI σ 125 (x3 + (3 : Int32)).toNatClampNeg) then W_X12_goWeek_92 X l D x1 x2 (gI σ 142 (gI σ 125 x3.toNatClampNeg).toNatClampNeg) (gI σ 125 x3.toNatClampNeg) σ r σ' else (if (y1 + y0) = x1 then vp_in (x3 + (2 : Int32)) 269832 ∧ W_X12_goWeek_93 X l D x1 x2 (gI σ 125 (x3 + (2 : Int32)).toNatClampNeg) (gI σ 142 (gI σ 125 x3.toNatClampNeg).toNatClampNeg) (gI σ 125 x3.toNatClampNeg) σ r σ' else W_X12_goWeek_92 X l D x1 x2 (gI σ 142 (gI σ 125 x3.toNatClampNeg).toNatClampNeg) (gI σ 125 x3.toNatClampNeg) σ r σ'))
set_option maxRecDepth 100000 in
theorem w_X12_goWeek_45 {X : Sx} {l : Launch} {D : Nat} {x1 : Int32} {x2 : Int32} {x3 : Int32} {y0 : Int32} {y1 : Int32} {σ : AH} {r : Option Value} {σ' : AH} (hs : Sh σ) (h : W_X12_goWeek_45 X l D x1 x2 x3 y0 y1 σ r σ') : E X l m_X12_goWeek D 45 [(0, .ref 124), (1, .int x1), (2, .int x2), (3, .int x3)] [.int y0, .int y1] σ r σ' := by
  unfold W_X12_goWeek_45 at h
  refine E_iadd dX12_goWeek_45 ?_
  refine E_istore [(4, .int (y1 + y0)), (0, .ref 124), (1, .int x1), (2, .int x2), (3, .int x3)] dX12_goWeek_46 (by decide) rfl ?_
  refine E_aload_n 1 dX12_goWeek_48 rfl rfl ?_
  refine E_getR 142 dX12_goWeek_49 fl_X12_73 rfl (sk_124 hs) (sn hs (by decide)) (sr_124_37 hs) ?_
  refine E_aload_n 1 dX12_goWeek_52 rfl rfl ?_
  refine E_getR 125 dX12_goWeek_53 fl_X12_8 rfl (sk_124 hs) (sn hs (by decide)) (sr_124_2 hs) ?_
  refine E_iload_n 4 dX12_goWeek_56 rfl rfl ?_
  obtain ⟨g8, h⟩ := h
  refine E_iald2 (x3.toNatClampNeg) dX12_goWeek_57 (sk_125 hs) (sn hs (by decide)) g8 rfl ?_
  refine E_dup2 dX12_goWeek_58 rfl rfl ?_
  obtain ⟨g9, h⟩ := h
  refine E_iald2 ((gI σ 125 x3.toNatClampNeg).toNatClampNeg) dX12_goWeek_59 (sk_142 hs) (sn hs (by decide)) g9 rfl ?_
  refine E_aload_n 1 dX12_goWeek_60 rfl rfl ?_
  refine E_getR 125 dX12_goWeek_61 fl_X12_8 rfl (sk_124 hs) (sn hs (by decide)) (sr_124_2 hs) ?_
  refine E_iload_n 4 dX12_goWeek_64 rfl rfl ?_
  refine E_iconst (3 : Int32) dX12_goWeek_65 (by decide) ?_
  refine E_iadd dX12_goWeek_66 ?_
  obtain ⟨g10, h⟩ := h
  refine E_iald2 ((x3 + (3 : Int32)).toNatClampNeg) dX12_goWeek_67 (sk_125 hs) (sn hs (by decide)) g10 rfl ?_
  refine E_aload_n 1 dX12_goWeek_68 rfl rfl ?_
  refine E_getI dX12_goWeek_69 fl_X12_399 rfl (sk_124 hs) (sn hs (by decide)) ?_
  refine E_icmp_gt 92 dX12_goWeek_72 (by decide) (fun c => ?_) (fun c => ?_)
  · rw [if_pos c] at h
    exact E_lv [1, 2, 3] rfl (w_X12_goWeek_92 hs h)
  · rw [if_neg c] at h
    refine E_iload 0 dX12_goWeek_75 rfl ?_
    refine E_iload_n 2 dX12_goWeek_77 rfl rfl ?_
    refine E_icmp_ne 92 dX12_goWeek_78 (by decide) (fun c => ?_) (fun c => ?_)
    · rw [if_neg c] at h
      exact E_lv [1, 2, 3] rfl (w_X12_goWeek_92 hs h)
    · rw [if_pos c] at h
      refine E_aload_n 1 dX12_goWeek_81 rfl rfl ?_
      refine E_getR 125 dX12_goWeek_82 fl_X12_8 rfl (sk_124 hs) (sn hs (by decide)) (sr_124_2 hs) ?_
      refine E_iload_n 4 dX12_goWeek_85 rfl rfl ?_
      refine E_iconst (2 : Int32) dX12_goWeek_86 (by decide) ?_
      refine E_iadd dX12_goWeek_87 ?_
      obtain ⟨g11, h⟩ := h
      refine E_iald2 ((x3 + (2 : Int32)).toNatClampNeg) dX12_goWeek_88 (sk_125 hs) (sn hs (by decide)) g11 rfl ?_
      refine E_goto 93 dX12_goWeek_89 (by decide) ?_
      exact E_lv [1, 2, 3] rfl (w_X12_goWeek_93 hs h)
def W_X12_goWeek_2 (X : Sx) (l : Launch) (D : Nat) (x1 : Int32) (x2 : Int32) (σ : AH) (r : Option Value) (σ' : AH) : Prop := (if (gI σ 125 1) ≤ x2 then E X l m_X12_goWeek D 103 [(0, .ref 124), (1, .int x1), (2, .int (0 : Int32))] [] σ r σ' else vp_in (((22748 : Int32) + ((4 : Int32) * x2)) + (1 : Int32)) 269832 ∧ vp_in ((22748 : Int32) + ((4 : Int32) * x2)) 269832 ∧ (if (gI σ 125 ((22748 : Int32) + ((4 : Int32) * x2)).toNatClampNeg) = 0 then W_X12_goWeek_45 X l D x1 x2 ((22748 : Int32) + ((4 : Int32) * x2)) (gI σ 124 45) (gI σ 125 (((22748 : Int32) + ((4 : Int32) * x2)) + (1 : Int32)).toNatClampNeg) σ r σ' else W_X12_goWeek_45 X l D x1 x2 ((22748 : Int32) + ((4 : Int32) * x2)) (0 : Int32) (gI σ 125 (((22748 : Int32) + ((4 : Int32) * x2)) + (1 : Int32)).toNatClampNeg) σ r σ'))
set_option maxRecDepth 100000 in
theorem w_X12_goWeek_2 {X : Sx} {l : Launch} {D : Nat} {x1 : Int32} {x2 : Int32} {σ : AH} {r : Option Value} {σ' : AH} (hs : Sh σ) (h : W_X12_goWeek_2 X l D x1 x2 σ r σ') : E X l m_X12_goWeek D 2 [(0, .ref 124), (1, .int x1), (2, .int x2)] [] σ r σ' := by
  unfold W_X12_goWeek_2 at h
  refine E_iload_n 2 dX12_goWeek_2 rfl rfl ?_
  refine E_aload_n 0 dX12_goWeek_3 rfl rfl ?_
  refine E_getR 125 dX12_goWeek_4 fl_X12_8 rfl (sk_124 hs) (sn hs (by decide)) (sr_124_2 hs) ?_
  refine E_iconst (1 : Int32) dX12_goWeek_7 (by decide) ?_
  refine E_iald2 1 dX12_goWeek_8 (sk_125 hs) (sn hs (by decide)) (vp_lit (by decide)) (by decide) ?_
  refine E_icmp_ge 101 dX12_goWeek_9 (by decide) (fun c => ?_) (fun c => ?_)
  · rw [if_pos c] at h
    refine E_iconst (0 : Int32) dX12_goWeek_101 (by decide) ?_
    refine E_istore_n [(2, .int (0 : Int32)), (0, .ref 124), (1, .int x1)] dX12_goWeek_102 rfl (by decide) rfl ?_
    exact E_lv [1, 2, 0] rfl h
  · rw [if_neg c] at h
    refine E_sipush (22748 : Int32) dX12_goWeek_12 (by decide) ?_
    refine E_iconst (4 : Int32) dX12_goWeek_15 (by decide) ?_
    refine E_iload_n 2 dX12_goWeek_16 rfl rfl ?_
    refine E_imul dX12_goWeek_17 ?_
    refine E_iadd dX12_goWeek_18 ?_
    refine E_istore_n [(3, .int ((22748 : Int32) + ((4 : Int32) * x2))), (0, .ref 124), (1, .int x1), (2, .int x2)] dX12_goWeek_19 rfl (by decide) rfl ?_
    refine E_aload_n 1 dX12_goWeek_20 rfl rfl ?_
    refine E_getR 125 dX12_goWeek_21 fl_X12_8 rfl (sk_124 hs) (sn hs (by decide)) (sr_124_2 hs) ?_
    refine E_iload_n 0 dX12_goWeek_24 rfl rfl ?_
    refine E_iconst (1 : Int32) dX12_goWeek_25 (by decide) ?_
    refine E_iadd dX12_goWeek_26 ?_
    obtain ⟨g1, h⟩ := h
    refine E_iald2 ((((22748 : Int32) + ((4 : Int32) * x2)) + (1 : Int32)).toNatClampNeg) dX12_goWeek_27 (sk_125 hs) (sn hs (by decide)) g1 rfl ?_
    refine E_aload_n 1 dX12_goWeek_28 rfl rfl ?_
    refine E_getR 125 dX12_goWeek_29 fl_X12_8 rfl (sk_124 hs) (sn hs (by decide)) (sr_124_2 hs) ?_
    refine E_iload_n 0 dX12_goWeek_32 rfl rfl ?_
    obtain ⟨g2, h⟩ := h
    refine E_iald2 (((22748 : Int32) + ((4 : Int32) * x2)).toNatClampNeg) dX12_goWeek_33 (sk_125 hs) (sn hs (by decide)) g2 rfl ?_
    refine E_if_ne 44 dX12_goWeek_34 (by decide) (fun c => ?_) (fun c => ?_)
    · rw [if_neg c] at h
      refine E_iconst (0 : Int32) dX12_goWeek_44 (by decide) ?_
      exact E_lv [1, 2, 3, 0] rfl (w_X12_goWeek_45 hs h)
    · rw [if_pos c] at h
      refine E_aload_n 1 dX12_goWeek_37 rfl rfl ?_
      refine E_getI dX12_goWeek_38 fl_X12_480 rfl (sk_124 hs) (sn hs (by decide)) ?_
      refine E_goto 45 dX12_goWeek_41 (by decide) ?_
      exact E_lv [1, 2, 3, 0] rfl (w_X12_goWeek_45 hs h)
def W_X12_goWeek_103 (X : Sx) (l : Launch) (D : Nat) (x1 : Int32) (x2 : Int32) (σ : AH) (r : Option Value) (σ' : AH) : Prop := (if (gI σ 125 2) ≤ x2 then E X l m_X12_goWeek D 134 [(0, .ref 124), (1, .int x1), (2, .int (0 : Int32))] [] σ r σ' else ∃ d3 : Nat, ∃ σ4 : AH, d3 + 1 ≤ D ∧ Call X l m_X12_doWork d3 [.ref 124, .int ((23228 : Int32) + ((8 : Int32) * x2)), .int x1] σ none σ4 ∧ E X l m_X12_goWeek D 103 [(0, .ref 124), (1, .int x1), (2, .int (x2 + 1))] [] σ4 r σ')
set_option maxRecDepth 100000 in
theorem w_X12_goWeek_103 {X : Sx} {l : Launch} {D : Nat} {x1 : Int32} {x2 : Int32} {σ : AH} {r : Option Value} {σ' : AH} (hs : Sh σ) (h : W_X12_goWeek_103 X l D x1 x2 σ r σ') : E X l m_X12_goWeek D 103 [(0, .ref 124), (1, .int x1), (2, .int x2)] [] σ r σ' := by
  unfold W_X12_goWeek_103 at h
  refine E_iload_n 2 dX12_goWeek_103 rfl rfl ?_
  refine E_aload_n 0 dX12_goWeek_104 rfl rfl ?_
  refine E_getR 125 dX12_goWeek_105 fl_X12_8 rfl (sk_124 hs) (sn hs (by decide)) (sr_124_2 hs) ?_
  refine E_iconst (2 : Int32) dX12_goWeek_108 (by decide) ?_
  refine E_iald2 2 dX12_goWeek_109 (sk_125 hs) (sn hs (by decide)) (vp_lit (by decide)) (by decide) ?_
  refine E_icmp_ge 132 dX12_goWeek_110 (by decide) (fun c => ?_) (fun c => ?_)
  · rw [if_pos c] at h
    refine E_iconst (0 : Int32) dX12_goWeek_132 (by decide) ?_
    refine E_istore_n [(2, .int (0 : Int32)), (0, .ref 124), (1, .int x1)] dX12_goWeek_133 rfl (by decide) rfl ?_
    exact E_lv [1, 2, 0] rfl h
  · rw [if_neg c] at h
    refine E_aload_n 0 dX12_goWeek_113 rfl rfl ?_
    refine E_sipush (23228 : Int32) dX12_goWeek_114 (by decide) ?_
    refine E_bipush (8 : Int32) dX12_goWeek_117 (by decide) ?_
    refine E_iload_n 2 dX12_goWeek_119 rfl rfl ?_
    refine E_imul dX12_goWeek_120 ?_
    refine E_iadd dX12_goWeek_121 ?_
    refine E_iload_n 1 dX12_goWeek_122 rfl rfl ?_
    obtain ⟨d3, σ4, hD5, hC6, h⟩ := h
    have hs7 := hC6.1.2.2.2.1 hs
    refine E_callV (As := [.int ((23228 : Int32) + ((8 : Int32) * x2)), .int x1]) (rest := []) (r1 := none) (b := 124) dX12_goWeek_123 ok_X12_doWork in_X12_doWork se_X12_doWork ml_X12_489 hD5 rfl rfl (Nat.le_of_ble_eq_true rfl) (sk_124 hs) (sn hs (by decide)) (by decide) rfl (by decide +kernel) hC6 ?_
    refine E_iinc 2 (x2 + 1) [(2, .int (x2 + 1)), (0, .ref 124), (1, .int x1)] dX12_goWeek_126 rfl (congrArg (x2 + ·) (by decide : Int32.ofInt 1 = 1)) (by decide) rfl ?_
    refine E_goto 103 dX12_goWeek_129 (by decide) ?_
    exact E_lv [1, 2, 0] rfl h
def W_X12_goWeek_134 (X : Sx) (l : Launch) (D : Nat) (x1 : Int32) (x2 : Int32) (σ : AH) (r : Option Value) (σ' : AH) : Prop := (if (6 : Int32) ≤ x2 then ∃ d12 : Nat, ∃ v17 : Int32, ∃ σ13 : AH, d12 + 1 ≤ D ∧ Call X l m_X12_firstOf d12 [.ref 124, .int x1] σ (some (.int v17)) σ13 ∧ E X l m_X12_goWeek D 169 [(0, .ref 124), (1, .int x1), (2, .int v17), (3, .int (0 : Int32)), (4, .int (0 : Int32))] [] σ13 r σ' else ∃ d18 : Nat, ∃ v23 : Int32, ∃ σ19 : AH, d18 + 1 ≤ D ∧ Call X l m_X12_gangsOf d18 [.ref 124, .int x2, .int x1] σ (some (.int v23)) σ19 ∧ vp_in x2 6 ∧ E X l m_X12_goWeek D 134 [(0, .ref 124), (1, .int x1), (2, .int (x2 + 1))] [] (sI σ19 143 x2.toNatClampNeg v23) r σ')
set_option maxRecDepth 100000 in
theorem w_X12_goWeek_134 {X : Sx} {l : Launch} {D : Nat} {x1 : Int32} {x2 : Int32} {σ : AH} {r : Option Value} {σ' : AH} (hs : Sh σ) (h : W_X12_goWeek_134 X l D x1 x2 σ r σ') : E X l m_X12_goWeek D 134 [(0, .ref 124), (1, .int x1), (2, .int x2)] [] σ r σ' := by
  unfold W_X12_goWeek_134 at h
  refine E_iload_n 2 dX12_goWeek_134 rfl rfl ?_
  refine E_bipush (6 : Int32) dX12_goWeek_135 (by decide) ?_
  refine E_icmp_ge 158 dX12_goWeek_137 (by decide) (fun c => ?_) (fun c => ?_)
  · rw [if_pos c] at h
    refine E_aload_n 0 dX12_goWeek_158 rfl rfl ?_
    refine E_iload_n 1 dX12_goWeek_159 rfl rfl ?_
    obtain ⟨d12, v17, σ13, hD14, hC15, h⟩ := h
    have hs16 := hC15.1.2.2.2.1 hs
    refine E_callV (As := [.int x1]) (rest := []) (r1 := (some (.int v17))) (b := 124) dX12_goWeek_160 ok_X12_firstOf in_X12_firstOf se_X12_firstOf ml_X12_495 hD14 rfl rfl (Nat.le_of_ble_eq_true rfl) (sk_124 hs) (sn hs (by decide)) (by decide) rfl (by decide +kernel) hC15 ?_
    refine E_istore_n [(2, .int v17), (0, .ref 124), (1, .int x1)] dX12_goWeek_163 rfl (by decide) rfl ?_
    refine E_iconst (0 : Int32) dX12_goWeek_164 (by decide) ?_
    refine E_istore_n [(3, .int (0 : Int32)), (2, .int v17), (0, .ref 124), (1, .int x1)] dX12_goWeek_165 rfl (by decide) rfl ?_
    refine E_iconst (0 : Int32) dX12_goWeek_166 (by decide) ?_
    refine E_istore [(4, .int (0 : Int32)), (3, .int (0 : Int32)), (2, .int v17), (0, .ref 124), (1, .int x1)] dX12_goWeek_167 (by decide) rfl ?_
    exact E_lv [3, 4, 2, 1, 0] rfl h
  · rw [if_neg c] at h
    refine E_aload_n 0 dX12_goWeek_140 rfl rfl ?_
    refine E_getR 143 dX12_goWeek_141 fl_X12_76 rfl (sk_124 hs) (sn hs (by decide)) (sr_124_38 hs) ?_
    refine E_iload_n 2 dX12_goWeek_144 rfl rfl ?_
    refine E_aload_n 0 dX12_goWeek_145 rfl rfl ?_
    refine E_iload_n 2 dX12_goWeek_146 rfl rfl ?_
    refine E_iload_n 1 dX12_goWeek_147 rfl rfl ?_
    obtain ⟨d18, v23, σ19, hD20, hC21, h⟩ := h
    have hs22 := hC21.1.2.2.2.1 hs
    refine E_callV (As := [.int x2, .int x1]) (rest := [.int x2, .ref 143]) (r1 := (some (.int v23))) (b := 124) dX12_goWeek_148 ok_X12_gangsOf in_X12_gangsOf se_X12_gangsOf ml_X12_492 hD20 rfl rfl (Nat.le_of_ble_eq_true rfl) (sk_124 hs) (sn hs (by decide)) (by decide) rfl (by decide +kernel) hC21 ?_
    obtain ⟨g24, h⟩ := h
    refine E_iast2 (x2.toNatClampNeg) dX12_goWeek_151 (sk_143 hs22) (sn hs22 (by decide)) (Or.inl (by decide)) g24 rfl ?_
    refine E_iinc 2 (x2 + 1) [(2, .int (x2 + 1)), (0, .ref 124), (1, .int x1)] dX12_goWeek_152 rfl (congrArg (x2 + ·) (by decide : Int32.ofInt 1 = 1)) (by decide) rfl ?_
    refine E_goto 134 dX12_goWeek_155 (by decide) ?_
    exact E_lv [1, 2, 0] rfl h
def W_X12_goWeek_323 (X : Sx) (l : Launch) (D : Nat) (x1 : Int32) (x2 : Int32) (x3 : Int32) (x4 : Int32) (σ : AH) (r : Option Value) (σ' : AH) : Prop := E X l m_X12_goWeek D 169 [(0, .ref 124), (1, .int x1), (2, .int x2), (3, .int x3), (4, .int (x4 + 1))] [] σ r σ'
set_option maxRecDepth 100000 in
theorem w_X12_goWeek_323 {X : Sx} {l : Launch} {D : Nat} {x1 : Int32} {x2 : Int32} {x3 : Int32} {x4 : Int32} {σ : AH} {r : Option Value} {σ' : AH} (hs : Sh σ) (h : W_X12_goWeek_323 X l D x1 x2 x3 x4 σ r σ') : E X l m_X12_goWeek D 323 [(0, .ref 124), (1, .int x1), (2, .int x2), (3, .int x3), (4, .int x4)] [] σ r σ' := by
  unfold W_X12_goWeek_323 at h
  refine E_iinc 4 (x4 + 1) [(4, .int (x4 + 1)), (0, .ref 124), (1, .int x1), (2, .int x2), (3, .int x3)] dX12_goWeek_323 rfl (congrArg (x4 + ·) (by decide : Int32.ofInt 1 = 1)) (by decide) rfl ?_
  refine E_goto 169 dX12_goWeek_326 (by decide) ?_
  exact E_lv [1, 2, 3, 4, 0] rfl h
def W_X12_goWeek_255 (X : Sx) (l : Launch) (D : Nat) (x1 : Int32) (x2 : Int32) (x3 : Int32) (x4 : Int32) (y0 : Int32) (σ : AH) (r : Option Value) (σ' : AH) : Prop := (if y0 = 0 then W_X12_goWeek_323 X l D x1 x2 x3 x4 σ r σ' else E X l m_X12_goWeek D 265 [(0, .ref 124), (1, .int x1), (2, .int x2), (3, .int x3), (4, .int x4), (6, .int x3)] [] σ r σ')
set_option maxRecDepth 100000 in
theorem w_X12_goWeek_255 {X : Sx} {l : Launch} {D : Nat} {x1 : Int32} {x2 : Int32} {x3 : Int32} {x4 : Int32} {y0 : Int32} {σ : AH} {r : Option Value} {σ' : AH} (hs : Sh σ) (h : W_X12_goWeek_255 X l D x1 x2 x3 x4 y0 σ r σ') : E X l m_X12_goWeek D 255 [(0, .ref 124), (1, .int x1), (2, .int x2), (3, .int x3), (4, .int x4)] [.int y0] σ r σ' := by
  unfold W_X12_goWeek_255 at h
  refine E_istore [(5, .int y0), (0, .ref 124), (1, .int x1), (2, .int x2), (3, .int x3), (4, .int x4)] dX12_goWeek_255 (by decide) rfl ?_
  refine E_iload 0 dX12_goWeek_257 rfl ?_
  refine E_if_eq 323 dX12_goWeek_259 (by decide) (fun c => ?_) (fun c => ?_)
  · rw [if_pos c] at h
    exact E_lv [1, 2, 3, 4, 5] rfl (w_X12_goWeek_323 hs h)
  · rw [if_neg c] at h
    refine E_iload_n 4 dX12_goWeek_262 rfl rfl ?_
    refine E_istore [(6, .int x3), (5, .int y0), (0, .ref 124), (1, .int x1), (2, .int x2), (3, .int x3), (4, .int x4)] dX12_goWeek_263 (by decide) rfl ?_
    exact E_lv [2, 3, 4, 5, 6, 0] rfl h
def W_X12_goWeek_254 (X : Sx) (l : Launch) (D : Nat) (x1 : Int32) (x2 : Int32) (x3 : Int32) (x4 : Int32) (σ : AH) (r : Option Value) (σ' : AH) : Prop := W_X12_goWeek_255 X l D x1 x2 x3 x4 (0 : Int32) σ r σ'
set_option maxRecDepth 100000 in
theorem w_X12_goWeek_254 {X : Sx} {l : Launch} {D : Nat} {x1 : Int32} {x2 : Int32} {x3 : Int32} {x4 : Int32} {σ : AH} {r : Option Value} {σ' : AH} (hs : Sh σ) (h : W_X12_goWeek_254 X l D x1 x2 x3 x4 σ r σ') : E X l m_X12_goWeek D 254 [(0, .ref 124), (1, .int x1), (2, .int x2), (3, .int x3), (4, .int x4)] [] σ r σ' := by
  unfold W_X12_goWeek_254 at h
  refine E_iconst (0 : Int32) dX12_goWeek_254 (by decide) ?_
  exact E_lv [0, 1, 2, 3, 4] rfl (w_X12_goWeek_255 hs h)
def W_X12_goWeek_169 (X : Sx) (l : Launch) (D : Nat) (x1 : Int32) (x2 : Int32) (x3 : Int32) (x4 : Int32) (σ : AH) (r : Option Value) (σ' : AH) : Prop := (if (gI σ 125 4) ≤ x4 then E X l m_X12_goWeek D 332 [(0, .ref 124), (1, .int x1), (3, .int x3), (4, .int (0 : Int32))] [] σ r σ' else vp_in x4 30 ∧ vp_in x4 30 ∧ (if (gI (sI σ 147 x4.toNatClampNeg (0 : Int32)) 140 x4.toNatClampNeg) = (-1 : Int32) then W_X12_goWeek_254 X l D x1 x2 x3 x4 (sI σ 147 x4.toNatClampNeg (0 : Int32)) r σ' else vp_in x4 30 ∧ (if x1 < (gI (sI σ 147 x4.toNatClampNeg (0 : Int32)) 140 x4.toNatClampNeg) then W_X12_goWeek_254 X l D x1 x2 x3 x4 (sI σ 147 x4.toNatClampNeg (0 : Int32)) r σ' else vp_in (((23532 : Int32) + ((4 : Int32) * x4)) + (3 : Int32)) 269832 ∧ (if x1 < (gI (sI σ 147 x4.toNatClampNeg (0 : Int32)) 125 (((23532 : Int32) + ((4 : Int32) * x4)) + (3 : Int32)).toNatClampNeg) then W_X12_goWeek_254 X l D x1 x2 x3 x4 (sI σ 147 x4.toNatClampNeg (0 : Int32)) r σ' else vp_in x4 30 ∧ (if (gI (sI σ 147 x4.toNatClampNeg (0 : Int32)) 141 x4.toNatClampNeg) = 0 then W_X12_goWeek_254 X l D x1 x2 x3 x4 (sI σ 147 x4.toNatClampNeg (0 : Int32)) r σ' else vp_in x4 30 ∧ (if (3 : Int32) ≤ (gI (sI σ 147 x4.toNatClampNeg (0 : Int32)) 144 x4.toNatClampNeg) then W_X12_goWeek_254 X l D x1 x2 x3 x4 (sI σ 147 x4.toNatClampNeg (0 : Int32)) r σ' else W_X12_goWeek_255 X l D x1 x2 x3 x4 (1 : Int32) (sI σ 147 x4.toNatClampNeg (0 : Int32)) r σ'))))))
set_option maxRecDepth 100000 in
theorem w_X12_goWeek_169 {X : Sx} {l : Launch} {D : Nat} {x1 : Int32} {x2 : Int32} {x3 : Int32} {x4 : Int32} {σ : AH} {r : Option Value} {σ' : AH} (hs : Sh σ) (h : W_X12_goWeek_169 X l D x1 x2 x3 x4 σ r σ') : E X l m_X12_goWeek D 169 [(0, .ref 124), (1, .int x1), (2, .int x2), (3, .int x3), (4, .int x4)] [] σ r σ' := by
  unfold W_X12_goWeek_169 at h
  refine E_iload 4 dX12_goWeek_169 rfl ?_
  refine E_aload_n 0 dX12_goWeek_171 rfl rfl ?_
  refine E_getR 125 dX12_goWeek_172 fl_X12_8 rfl (sk_124 hs) (sn hs (by decide)) (sr_124_2 hs) ?_
  refine E_iconst (4 : Int32) dX12_goWeek_175 (by decide) ?_
  refine E_iald2 4 dX12_goWeek_176 (sk_125 hs) (sn hs (by decide)) (vp_lit (by decide)) (by decide) ?_
  refine E_icmp_ge 329 dX12_goWeek_177 (by decide) (fun c => ?_) (fun c => ?_)
  · rw [if_pos c] at h
    refine E_iconst (0 : Int32) dX12_goWeek_329 (by decide) ?_
    refine E_istore [(4, .int (0 : Int32)), (0, .ref 124), (1, .int x1), (2, .int x2), (3, .int x3)] dX12_goWeek_330 (by decide) rfl ?_
    exact E_lv [1, 2, 4, 0] rfl h
  · rw [if_neg c] at h
    refine E_aload_n 0 dX12_goWeek_180 rfl rfl ?_
    refine E_getR 147 dX12_goWeek_181 fl_X12_88 rfl (sk_124 hs) (sn hs (by decide)) (sr_124_42 hs) ?_
    refine E_iload 4 dX12_goWeek_184 rfl ?_
    refine E_iconst (0 : Int32) dX12_goWeek_186 (by decide) ?_
    obtain ⟨g26, h⟩ := h
    refine E_zast2 (x4.toNatClampNeg) (0 : Int32) (by decide) dX12_goWeek_187 (sk_147 hs) (sn hs (by decide)) (Or.inl (by decide)) g26 rfl ?_
    refine E_aload_n 0 dX12_goWeek_188 rfl rfl ?_
    refine E_getR 140 dX12_goWeek_189 fl_X12_67 rfl (sk_124 hs) (sn hs (by decide)) (sr_124_35 hs) ?_
    refine E_iload 4 dX12_goWeek_192 rfl ?_
    obtain ⟨g27, h⟩ := h
    refine E_iald2 (x4.toNatClampNeg) dX12_goWeek_194 (sk_140 hs) (sn hs (by decide)) g27 rfl ?_
    refine E_iconst (-1 : Int32) dX12_goWeek_195 (by decide) ?_
    refine E_icmp_eq 254 dX12_goWeek_196 (by decide) (fun c => ?_) (fun c => ?_)
    · rw [if_pos c] at h
      exact E_lv [0, 1, 2, 3, 4] rfl (w_X12_goWeek_254 hs h)
    · rw [if_neg c] at h
      refine E_aload_n 0 dX12_goWeek_199 rfl rfl ?_
      refine E_getR 140 dX12_goWeek_200 fl_X12_67 rfl (sk_124 hs) (sn hs (by decide)) (sr_124_35 hs) ?_
      refine E_iload 4 dX12_goWeek_203 rfl ?_
      obtain ⟨g28, h⟩ := h
      refine E_iald2 (x4.toNatClampNeg) dX12_goWeek_205 (sk_140 hs) (sn hs (by decide)) g28 rfl ?_
      refine E_iload_n 1 dX12_goWeek_206 rfl rfl ?_
      refine E_icmp_gt 254 dX12_goWeek_207 (by decide) (fun c => ?_) (fun c => ?_)
      · rw [if_pos c] at h
        exact E_lv [0, 1, 2, 3, 4] rfl (w_X12_goWeek_254 hs h)
      · rw [if_neg c] at h
        refine E_aload_n 0 dX12_goWeek_210 rfl rfl ?_
        refine E_getR 125 dX12_goWeek_211 fl_X12_8 rfl (sk_124 hs) (sn hs (by decide)) (sr_124_2 hs) ?_
        refine E_sipush (23532 : Int32) dX12_goWeek_214 (by decide) ?_
        refine E_iconst (4 : Int32) dX12_goWeek_217 (by decide) ?_
        refine E_iload 4 dX12_goWeek_218 rfl ?_
        refine E_imul dX12_goWeek_220 ?_
        refine E_iadd dX12_goWeek_221 ?_
        refine E_iconst (3 : Int32) dX12_goWeek_222 (by decide) ?_
        refine E_iadd dX12_goWeek_223 ?_
        obtain ⟨g29, h⟩ := h
        refine E_iald2 ((((23532 : Int32) + ((4 : Int32) * x4)) + (3 : Int32)).toNatClampNeg) dX12_goWeek_224 (sk_125 hs) (sn hs (by decide)) g29 rfl ?_
        refine E_iload_n 1 dX12_goWeek_225 rfl rfl ?_
        refine E_icmp_gt 254 dX12_goWeek_226 (by decide) (fun c => ?_) (fun c => ?_)
        · rw [if_pos c] at h
          exact E_lv [0, 1, 2, 3, 4] rfl (w_X12_goWeek_254 hs h)
        · rw [if_neg c] at h
          refine E_aload_n 0 dX12_goWeek_229 rfl rfl ?_
          refine E_getR 141 dX12_goWeek_230 fl_X12_70 rfl (sk_124 hs) (sn hs (by decide)) (sr_124_36 hs) ?_
          refine E_iload 4 dX12_goWeek_233 rfl ?_
          obtain ⟨g30, h⟩ := h
          refine E_zald2 (x4.toNatClampNeg) dX12_goWeek_235 (sk_141 hs) (sn hs (by decide)) g30 rfl ?_
          refine E_if_eq 254 dX12_goWeek_236 (by decide) (fun c => ?_) (fun c => ?_)
          · rw [if_pos c] at h
            exact E_lv [0, 1, 2, 3, 4] rfl (w_X12_goWeek_254 hs h)
          · rw [if_neg c] at h
            refine E_aload_n 0 dX12_goWeek_239 rfl rfl ?_
            refine E_getR 144 dX12_goWeek_240 fl_X12_79 rfl (sk_124 hs) (sn hs (by decide)) (sr_124_39 hs) ?_
            refine E_iload 4 dX12_goWeek_243 rfl ?_
            obtain ⟨g31, h⟩ := h
            refine E_iald2 (x4.toNatClampNeg) dX12_goWeek_245 (sk_144 hs) (sn hs (by decide)) g31 rfl ?_
            refine E_iconst (3 : Int32) dX12_goWeek_246 (by decide) ?_
            refine E_icmp_ge 254 dX12_goWeek_247 (by decide) (fun c => ?_) (fun c => ?_)
            · rw [if_pos c] at h
              exact E_lv [0, 1, 2, 3, 4] rfl (w_X12_goWeek_254 hs h)
            · rw [if_neg c] at h
              refine E_iconst (1 : Int32) dX12_goWeek_250 (by decide) ?_
              refine E_goto 255 dX12_goWeek_251 (by decide) ?_
              exact E_lv [0, 1, 2, 3, 4] rfl (w_X12_goWeek_255 hs h)
def W_X12_goWeek_332 (X : Sx) (l : Launch) (D : Nat) (x1 : Int32) (x3 : Int32) (x4 : Int32) (σ : AH) (r : Option Value) (σ' : AH) : Prop := (if x3 ≤ x4 then (r = none ∧ σ' = σ) else vp_in x4 30 ∧ ∃ d33 : Nat, ∃ σ34 : AH, d33 + 1 ≤ D ∧ Call X l m_X12_goPlot d33 [.ref 124, .int (gI σ 150 x4.toNatClampNeg), .int x1] σ none σ34 ∧ E X l m_X12_goWeek D 332 [(0, .ref 124), (1, .int x1), (3, .int x3), (4, .int (x4 + 1))] [] σ34 r σ')
set_option maxRecDepth 100000 in
theorem w_X12_goWeek_332 {X : Sx} {l : Launch} {D : Nat} {x1 : Int32} {x3 : Int32} {x4 : Int32} {σ : AH} {r : Option Value} {σ' : AH} (hs : Sh σ) (h : W_X12_goWeek_332 X l D x1 x3 x4 σ r σ') : E X l m_X12_goWeek D 332 [(0, .ref 124), (1, .int x1), (3, .int x3), (4, .int x4)] [] σ r σ' := by
  unfold W_X12_goWeek_332 at h
  refine E_iload 3 dX12_goWeek_332 rfl ?_
  refine E_iload_n 2 dX12_goWeek_334 rfl rfl ?_
  refine E_icmp_ge 356 dX12_goWeek_335 (by decide) (fun c => ?_) (fun c => ?_)
  · rw [if_pos c] at h
    obtain ⟨rfl, rfl⟩ := h
    exact E_vret dX12_goWeek_356 rfl
  · rw [if_neg c] at h
    refine E_aload_n 0 dX12_goWeek_338 rfl rfl ?_
    refine E_aload_n 0 dX12_goWeek_339 rfl rfl ?_
    refine E_getR 150 dX12_goWeek_340 fl_X12_97 rfl (sk_124 hs) (sn hs (by decide)) (sr_124_46 hs) ?_
    refine E_iload 3 dX12_goWeek_343 rfl ?_
    obtain ⟨g32, h⟩ := h
    refine E_iald2 (x4.toNatClampNeg) dX12_goWeek_345 (sk_150 hs) (sn hs (by decide)) g32 rfl ?_
    refine E_iload_n 1 dX12_goWeek_346 rfl rfl ?_
    obtain ⟨d33, σ34, hD35, hC36, h⟩ := h
    have hs37 := hC36.1.2.2.2.1 hs
    refine E_callV (As := [.int (gI σ 150 x4.toNatClampNeg), .int x1]) (rest := []) (r1 := none) (b := 124) dX12_goWeek_347 ok_X12_goPlot in_X12_goPlot se_X12_goPlot ml_X12_501 hD35 rfl rfl (Nat.le_of_ble_eq_true rfl) (sk_124 hs) (sn hs (by decide)) (by decide) rfl (by decide +kernel) hC36 ?_
    refine E_iinc 3 (x4 + 1) [(4, .int (x4 + 1)), (0, .ref 124), (1, .int x1), (3, .int x3)] dX12_goWeek_350 rfl (congrArg (x4 + ·) (by decide : Int32.ofInt 1 = 1)) (by decide) rfl ?_
    refine E_goto 332 dX12_goWeek_353 (by decide) ?_
    exact E_lv [1, 2, 3, 0] rfl h
def W_X12_goWeek_311 (X : Sx) (l : Launch) (D : Nat) (x1 : Int32) (x2 : Int32) (x3 : Int32) (x4 : Int32) (x6 : Int32) (σ : AH) (r : Option Value) (σ' : AH) : Prop := vp_in x6 30 ∧ W_X12_goWeek_323 X l D x1 x2 (x3 + 1) x4 (sI σ 150 x6.toNatClampNeg x4) r σ'
set_option maxRecDepth 100000 in
theorem w_X12_goWeek_311 {X : Sx} {l : Launch} {D : Nat} {x1 : Int32} {x2 : Int32} {x3 : Int32} {x4 : Int32} {x6 : Int32} {σ : AH} {r : Option Value} {σ' : AH} (hs : Sh σ) (h : W_X12_goWeek_311 X l D x1 x2 x3 x4 x6 σ r σ') : E X l m_X12_goWeek D 311 [(0, .ref 124), (1, .int x1), (2, .int x2), (3, .int x3), (4, .int x4), (6, .int x6)] [] σ r σ' := by
  unfold W_X12_goWeek_311 at h
  refine E_aload_n 0 dX12_goWeek_311 rfl rfl ?_
  refine E_getR 150 dX12_goWeek_312 fl_X12_97 rfl (sk_124 hs) (sn hs (by decide)) (sr_124_46 hs) ?_
  refine E_iload 5 dX12_goWeek_315 rfl ?_
  refine E_iload 4 dX12_goWeek_317 rfl ?_
  obtain ⟨g47, h⟩ := h
  refine E_iast2 (x6.toNatClampNeg) dX12_goWeek_319 (sk_150 hs) (sn hs (by decide)) (Or.inl (by decide)) g47 rfl ?_
  refine E_iinc 3 (x3 + 1) [(3, .int (x3 + 1)), (0, .ref 124), (1, .int x1), (2, .int x2), (4, .int x4), (6, .int x6)] dX12_goWeek_320 rfl (congrArg (x3 + ·) (by decide : Int32.ofInt 1 = 1)) (by decide) rfl ?_
  exact E_lv [1, 2, 3, 0, 4] rfl (w_X12_goWeek_323 hs h)
def W_X12_goWeek_265 (X : Sx) (l : Launch) (D : Nat) (x1 : Int32) (x2 : Int32) (x3 : Int32) (x4 : Int32) (x6 : Int32) (σ : AH) (r : Option Value) (σ' : AH) : Prop := (if x6 ≤ 0 then W_X12_goWeek_311 X l D x1 x2 x3 x4 x6 σ r σ' else vp_in (x6 - (1 : Int32)) 30 ∧ ∃ d39 : Nat, ∃ v44 : Int32, ∃ σ40 : AH, d39 + 1 ≤ D ∧ Call X l m_X12_isAhead d39 [.ref 124, .int x4, .int (gI σ 150 (x6 - (1 : Int32)).toNatClampNeg), .int x2] σ (some (.int v44)) σ40 ∧ (if v44 = 0 then W_X12_goWeek_311 X l D x1 x2 x3 x4 x6 σ40 r σ' else vp_in (x6 - (1 : Int32)) 30 ∧ vp_in x6 30 ∧ E X l m_X12_goWeek D 265 [(0, .ref 124), (1, .int x1), (2, .int x2), (3, .int x3), (4, .int x4), (6, .int (x6 + (-1)))] [] (sI σ40 150 x6.toNatClampNeg (gI σ40 150 (x6 - (1 : Int32)).toNatClampNeg)) r σ'))
set_option maxRecDepth 100000 in
theorem w_X12_goWeek_265 {X : Sx} {l : Launch} {D : Nat} {x1 : Int32} {x2 : Int32} {x3 : Int32} {x4 : Int32} {x6 : Int32} {σ : AH} {r : Option Value} {σ' : AH} (hs : Sh σ) (h : W_X12_goWeek_265 X l D x1 x2 x3 x4 x6 σ r σ') : E X l m_X12_goWeek D 265 [(0, .ref 124), (1, .int x1), (2, .int x2), (3, .int x3), (4, .int x4), (6, .int x6)] [] σ r σ' := by
  unfold W_X12_goWeek_265 at h
  refine E_iload 5 dX12_goWeek_265 rfl ?_
  refine E_if_le 311 dX12_goWeek_267 (by decide) (fun c => ?_) (fun c => ?_)
  · rw [if_pos c] at h
    exact E_lv [0, 1, 2, 3, 4, 5] rfl (w_X12_goWeek_311 hs h)
  · rw [if_neg c] at h
    refine E_aload_n 0 dX12_goWeek_270 rfl rfl ?_
    refine E_iload 4 dX12_goWeek_271 rfl ?_
    refine E_aload_n 0 dX12_goWeek_273 rfl rfl ?_
    refine E_getR 150 dX12_goWeek_274 fl_X12_97 rfl (sk_124 hs) (sn hs (by decide)) (sr_124_46 hs) ?_
    refine E_iload 5 dX12_goWeek_277 rfl ?_
    refine E_iconst (1 : Int32) dX12_goWeek_279 (by decide) ?_
    refine E_isub dX12_goWeek_280 ?_
    obtain ⟨g38, h⟩ := h
    refine E_iald2 ((x6 - (1 : Int32)).toNatClampNeg) dX12_goWeek_281 (sk_150 hs) (sn hs (by decide)) g38 rfl ?_
    refine E_iload_n 2 dX12_goWeek_282 rfl rfl ?_
    obtain ⟨d39, v44, σ40, hD41, hC42, h⟩ := h
    have hs43 := hC42.1.2.2.2.1 hs
    refine E_callV (As := [.int x4, .int (gI σ 150 (x6 - (1 : Int32)).toNatClampNeg), .int x2]) (rest := []) (r1 := (some (.int v44))) (b := 124) dX12_goWeek_283 ok_X12_isAhead in_X12_isAhead se_X12_isAhead ml_X12_498 hD41 rfl rfl (Nat.le_of_ble_eq_true rfl) (sk_124 hs) (sn hs (by decide)) (by decide) rfl (by decide +kernel) hC42 ?_
    refine E_if_eq 311 dX12_goWeek_286 (by decide) (fun c => ?_) (fun c => ?_)
    · rw [if_pos c] at h
      exact E_lv [0, 1, 2, 3, 4, 5] rfl (w_X12_goWeek_311 hs43 h)
    · rw [if_neg c] at h
      refine E_aload_n 0 dX12_goWeek_289 rfl rfl ?_
      refine E_getR 150 dX12_goWeek_290 fl_X12_97 rfl (sk_124 hs43) (sn hs43 (by decide)) (sr_124_46 hs43) ?_
      refine E_iload 5 dX12_goWeek_293 rfl ?_
      refine E_aload_n 0 dX12_goWeek_295 rfl rfl ?_
      refine E_getR 150 dX12_goWeek_296 fl_X12_97 rfl (sk_124 hs43) (sn hs43 (by decide)) (sr_124_46 hs43) ?_
      refine E_iload 5 dX12_goWeek_299 rfl ?_
      refine E_iconst (1 : Int32) dX12_goWeek_301 (by decide) ?_
      refine E_isub dX12_goWeek_302 ?_
      obtain ⟨g45, h⟩ := h
      refine E_iald2 ((x6 - (1 : Int32)).toNatClampNeg) dX12_goWeek_303 (sk_150 hs43) (sn hs43 (by decide)) g45 rfl ?_
      obtain ⟨g46, h⟩ := h
      refine E_iast2 (x6.toNatClampNeg) dX12_goWeek_304 (sk_150 hs43) (sn hs43 (by decide)) (Or.inl (by decide)) g46 rfl ?_
      refine E_iinc 5 (x6 + (-1)) [(6, .int (x6 + (-1))), (0, .ref 124), (1, .int x1), (2, .int x2), (3, .int x3), (4, .int x4)] dX12_goWeek_305 rfl (congrArg (x6 + ·) (by decide : Int32.ofInt (-1) = -1)) (by decide) rfl ?_
      refine E_goto 265 dX12_goWeek_308 (by decide) ?_
      exact E_lv [1, 2, 3, 4, 5, 0] rfl h
def W_X12_canTake_0 (X : Sx) (l : Launch) (D : Nat) (x1 : Int32) (x2 : Int32) (σ : AH) (r : Option Value) (σ' : AH) : Prop := E X l m_X12_canTake D 5 [(0, .ref 124), (1, .int x1), (2, .int x2), (3, .int (1 : Int32)), (4, .int (0 : Int32))] [] σ r σ'
set_option maxRecDepth 100000 in
theorem w_X12_canTake_0 {X : Sx} {l : Launch} {D : Nat} {x1 : Int32} {x2 : Int32} {σ : AH} {r : Option Value} {σ' : AH} (hs : Sh σ) (h : W_X12_canTake_0 X l D x1 x2 σ r σ') : E X l m_X12_canTake D 0 [(0, .ref 124), (1, .int x1), (2, .int x2)] [] σ r σ' := by
  unfold W_X12_canTake_0 at h
  refine E_iconst (1 : Int32) dX12_canTake_0 (by decide) ?_
  refine E_istore_n [(3, .int (1 : Int32)), (0, .ref 124), (1, .int x1), (2, .int x2)] dX12_canTake_1 rfl (by decide) rfl ?_
  refine E_iconst (0 : Int32) dX12_canTake_2 (by decide) ?_
  refine E_istore [(4, .int (0 : Int32)), (3, .int (1 : Int32)), (0, .ref 124), (1, .int x1), (2, .int x2)] dX12_canTake_3 (by decide) rfl ?_
  exact E_lv [2, 3, 4, 1, 0] rfl h
def W_X12_canTake_53 (X : Sx) (l : Launch) (D : Nat) (x1 : Int32) (x2 : Int32) (x4 : Int32) (y0 : Int32) (σ : AH) (r : Option Value) (σ' : AH) : Prop := E X l m_X12_canTake D 5 [(0, .ref 124), (1, .int x1), (2, .int x2), (3, .int y0), (4, .int (x4 + 1))] [] σ r σ'
set_option maxRecDepth 100000 in
theorem w_X12_canTake_53 {X : Sx} {l : Launch} {D : Nat} {x1 : Int32} {x2 : Int32} {x4 : Int32} {y0 : Int32} {σ : AH} {r : Option Value} {σ' : AH} (hs : Sh σ) (h : W_X12_canTake_53 X l D x1 x2 x4 y0 σ r σ') : E X l m_X12_canTake D 53 [(0, .ref 124), (1, .int x1), (2, .int x2), (4, .int x4)] [.int y0] σ r σ' := by
  unfold W_X12_canTake_53 at h
  refine E_istore_n [(3, .int y0), (0, .ref 124), (1, .int x1), (2, .int x2), (4, .int x4)] dX12_canTake_53 rfl (by decide) rfl ?_
  refine E_iinc 4 (x4 + 1) [(4, .int (x4 + 1)), (3, .int y0), (0, .ref 124), (1, .int x1), (2, .int x2)] dX12_canTake_54 rfl (congrArg (x4 + ·) (by decide : Int32.ofInt 1 = 1)) (by decide) rfl ?_
  refine E_goto 5 dX12_canTake_57 (by decide) ?_
  exact E_lv [2, 3, 4, 1, 0] rfl h
def W_X12_canTake_52 (X : Sx) (l : Launch) (D : Nat) (x1 : Int32) (x2 : Int32) (x4 : Int32) (σ : AH) (r : Option Value) (σ' : AH) : Prop := W_X12_canTake_53 X l D x1 x2 x4 (0 : Int32) σ r σ'
set_option maxRecDepth 100000 in
theorem w_X12_canTake_52 {X : Sx} {l : Launch} {D : Nat} {x1 : Int32} {x2 : Int32} {x4 : Int32} {σ : AH} {r : Option Value} {σ' : AH} (hs : Sh σ) (h : W_X12_canTake_52 X l D x1 x2 x4 σ r σ') : E X l m_X12_canTake D 52 [(0, .ref 124), (1, .int x1), (2, .int x2), (4, .int x4)] [] σ r σ' := by
  unfold W_X12_canTake_52 at h
  refine E_iconst (0 : Int32) dX12_canTake_52 (by decide) ?_
  exact E_lv [0, 1, 2, 3] rfl (w_X12_canTake_53 hs h)
def W_X12_canTake_5 (X : Sx) (l : Launch) (D : Nat) (x1 : Int32) (x2 : Int32) (x3 : Int32) (x4 : Int32) (σ : AH) (r : Option Value) (σ' : AH) : Prop := (if (5 : Int32) ≤ x4 then ((x3 = 0 ∨ x3 = 1) ∧ r = some (.int x3) ∧ σ' = σ) else (if x3 = 0 then W_X12_canTake_52 X l D x1 x2 x4 σ r σ' else vp_in x4 5 ∧ ∃ d2 : Nat, ∃ v7 : Int32, ∃ σ3 : AH, d2 + 1 ≤ D ∧ Call X l m_X12_kindOf d2 [.ref 124, .int x1] σ (some (.int v7)) σ3 ∧ vp_in x1 30 ∧ ∃ d9 : Nat, ∃ v14 : Int32, ∃ σ10 : AH, d9 + 1 ≤ D ∧ Call X l m_X12_roomsOf d9 [.ref 124, .int x1] σ3 (some (.int v14)) σ10 ∧ ∃ d15 : Nat, ∃ v20 : Int32, ∃ σ16 : AH, d15 + 1 ≤ D ∧ Call X l m_X12_needOf d15 [.ref 124, .int v7, .int (gI σ3 144 x1.toNatClampNeg), .int x4, .int v14, .int x2] σ10 (some (.int v20)) σ16 ∧ (if (gI σ 142 x4.toNatClampNeg) < v20 then W_X12_canTake_52 X l D x1 x2 x4 σ16 r σ' else W_X12_canTake_53 X l D x1 x2 x4 (1 : Int32) σ16 r σ')))
set_option maxRecDepth 100000 in
theorem w_X12_canTake_5 {X : Sx} {l : Launch} {D : Nat} {x1 : Int32} {x2 : Int32} {x3 : Int32} {x4 : Int32} {σ : AH} {r : Option Value} {σ' : AH} (hs : Sh σ) (h : W_X12_canTake_5 X l D x1 x2 x3 x4 σ r σ') : E X l m_X12_canTake D 5 [(0, .ref 124), (1, .int x1), (2, .int x2), (3, .int x3), (4, .int x4)] [] σ r σ' := by
  unfold W_X12_canTake_5 at h
  refine E_iload 4 dX12_canTake_5 rfl ?_
  refine E_iconst (5 : Int32) dX12_canTake_7 (by decide) ?_
  refine E_icmp_ge 60 dX12_canTake_8 (by decide) (fun c => ?_) (fun c => ?_)
  · rw [if_pos c] at h
    refine E_iload_n 3 dX12_canTake_60 rfl rfl ?_
    obtain ⟨hz, rfl, rfl⟩ := h
    exact E_zret dX12_canTake_61 rfl hz
  · rw [if_neg c] at h
    refine E_iload_n 3 dX12_canTake_11 rfl rfl ?_
    refine E_if_eq 52 dX12_canTake_12 (by decide) (fun c => ?_) (fun c => ?_)
    · rw [if_pos c] at h
      exact E_lv [0, 1, 2, 4] rfl (w_X12_canTake_52 hs h)
    · rw [if_neg c] at h
      refine E_aload_n 0 dX12_canTake_15 rfl rfl ?_
      refine E_getR 142 dX12_canTake_16 fl_X12_73 rfl (sk_124 hs) (sn hs (by decide)) (sr_124_37 hs) ?_
      refine E_iload 4 dX12_canTake_19 rfl ?_
      obtain ⟨g1, h⟩ := h
      refine E_iald2 (x4.toNatClampNeg) dX12_canTake_21 (sk_142 hs) (sn hs (by decide)) g1 rfl ?_
      refine E_aload_n 0 dX12_canTake_22 rfl rfl ?_
      refine E_aload_n 0 dX12_canTake_23 rfl rfl ?_
      refine E_iload_n 1 dX12_canTake_24 rfl rfl ?_
      obtain ⟨d2, v7, σ3, hD4, hC5, h⟩ := h
      have hs6 := hC5.1.2.2.2.1 hs
      refine E_callV (As := [.int x1]) (rest := [.ref 124, .int (gI σ 142 x4.toNatClampNeg)]) (r1 := (some (.int v7))) (b := 124) dX12_canTake_25 ok_X12_kindOf in_X12_kindOf se_X12_kindOf ml_X12_477 hD4 rfl rfl (Nat.le_of_ble_eq_true rfl) (sk_124 hs) (sn hs (by decide)) (by decide) rfl (by decide +kernel) hC5 ?_
      refine E_aload_n 0 dX12_canTake_28 rfl rfl ?_
      refine E_getR 144 dX12_canTake_29 fl_X12_79 rfl (sk_124 hs6) (sn hs6 (by decide)) (sr_124_39 hs6) ?_
      refine E_iload_n 1 dX12_canTake_32 rfl rfl ?_
      obtain ⟨g8, h⟩ := h
      refine E_iald2 (x1.toNatClampNeg) dX12_canTake_33 (sk_144 hs6) (sn hs6 (by decide)) g8 rfl ?_
      refine E_iload 4 dX12_canTake_34 rfl ?_
      refine E_aload_n 0 dX12_canTake_36 rfl rfl ?_
      refine E_iload_n 1 dX12_canTake_37 rfl rfl ?_
      obtain ⟨d9, v14, σ10, hD11, hC12, h⟩ := h
      have hs13 := hC12.1.2.2.2.1 hs6
      refine E_callV (As := [.int x1]) (rest := [.int x4, .int (gI σ3 144 x1.toNatClampNeg), .int v7, .ref 124, .int (gI σ 142 x4.toNatClampNeg)]) (r1 := (some (.int v14))) (b := 124) dX12_canTake_38 ok_X12_roomsOf in_X12_roomsOf se_X12_roomsOf ml_X12_504 hD11 rfl rfl (Nat.le_of_ble_eq_true rfl) (sk_124 hs6) (sn hs6 (by decide)) (by decide) rfl (by decide +kernel) hC12 ?_
      refine E_iload_n 2 dX12_canTake_41 rfl rfl ?_
      obtain ⟨d15, v20, σ16, hD17, hC18, h⟩ := h
      have hs19 := hC18.1.2.2.2.1 hs13
      refine E_callV (As := [.int v7, .int (gI σ3 144 x1.toNatClampNeg), .int x4, .int v14, .int x2]) (rest := [.int (gI σ 142 x4.toNatClampNeg)]) (r1 := (some (.int v20))) (b := 124) dX12_canTake_42 ok_X12_needOf in_X12_needOf se_X12_needOf ml_X12_452 hD17 rfl rfl (Nat.le_of_ble_eq_true rfl) (sk_124 hs13) (sn hs13 (by decide)) (by decide) rfl (by decide +kernel) hC18 ?_
      refine E_icmp_lt 52 dX12_canTake_45 (by decide) (fun c => ?_) (fun c => ?_)
      · rw [if_pos c] at h
        exact E_lv [0, 1, 2, 4] rfl (w_X12_canTake_52 hs19 h)
      · rw [if_neg c] at h
        refine E_iconst (1 : Int32) dX12_canTake_48 (by decide) ?_
        refine E_goto 53 dX12_canTake_49 (by decide) ?_
        exact E_lv [0, 1, 2, 4] rfl (w_X12_canTake_53 hs19 h)
def W_X12_goPlot_0 (X : Sx) (l : Launch) (D : Nat) (x1 : Int32) (x2 : Int32) (σ : AH) (r : Option Value) (σ' : AH) : Prop := E X l m_X12_goPlot D 2 [(0, .ref 124), (1, .int x1), (2, .int x2), (3, .int (1 : Int32))] [] σ r σ'
set_option maxRecDepth 100000 in
theorem w_X12_goPlot_0 {X : Sx} {l : Launch} {D : Nat} {x1 : Int32} {x2 : Int32} {σ : AH} {r : Option Value} {σ' : AH} (hs : Sh σ) (h : W_X12_goPlot_0 X l D x1 x2 σ r σ') : E X l m_X12_goPlot D 0 [(0, .ref 124), (1, .int x1), (2, .int x2)] [] σ r σ' := by
  unfold W_X12_goPlot_0 at h
  refine E_iconst (1 : Int32) dX12_goPlot_0 (by decide) ?_
  refine E_istore_n [(3, .int (1 : Int32)), (0, .ref 124), (1, .int x1), (2, .int x2)] dX12_goPlot_1 rfl (by decide) rfl ?_
  exact E_lv [1, 2, 3, 0] rfl h
def W_X12_goPlot_152 (X : Sx) (l : Launch) (D : Nat) (x1 : Int32) (x2 : Int32) (x3 : Int32) (σ : AH) (r : Option Value) (σ' : AH) : Prop := (if x3 = 0 then vp_in x1 30 ∧ (if (gI σ 145 x1.toNatClampNeg) = 0 then E X l m_X12_goPlot D 2 [(0, .ref 124), (1, .int x1), (2, .int x2), (3, .int x3)] [] σ r σ' else ∃ d10 : Nat, ∃ v15 : Int32, ∃ σ11 : AH, d10 + 1 ≤ D ∧ Call X l m_X12_councilOf d10 [.ref 124, .int x1] σ (some (.int v15)) σ11 ∧ vp_in v15 6 ∧ (if (gI σ11 143 v15.toNatClampNeg) ≤ 0 then E X l m_X12_goPlot D 2 [(0, .ref 124), (1, .int x1), (2, .int x2), (3, .int x3)] [] σ11 r σ' else ∃ d17 : Nat, ∃ v22 : Int32, ∃ σ18 : AH, d17 + 1 ≤ D ∧ Call X l m_X12_councilOf d17 [.ref 124, .int x1] σ11 (some (.int v22)) σ18 ∧ vp_in v22 6 ∧ vp_in v22 6 ∧ vp_in x1 30 ∧ vp_in x1 30 ∧ (∀ τ27 : AH, τ27 = (sI (sI σ18 143 v22.toNatClampNeg ((gI σ18 143 v22.toNatClampNeg) - (1 : Int32))) 146 x1.toNatClampNeg ((gI (sI σ18 143 v22.toNatClampNeg ((gI σ18 143 v22.toNatClampNeg) - (1 : Int32))) 146 x1.toNatClampNeg) - (1 : Int32))) → vp_in x1 30 ∧ (if (gI τ27 146 x1.toNatClampNeg) = 0 then ∃ d31 : Nat, ∃ σ32 : AH, d31 + 1 ≤ D ∧ Call X l m_X12_finish d31 [.ref 124, .int x1, .int x2] τ27 none σ32 ∧ vp_in x1 30 ∧ E X l m_X12_goPlot D 2 [(0, .ref 124), (1, .int x1), (2, .int x2), (3, .int x3)] [] (sI σ32 147 x1.toNatClampNeg (1 : Int32)) r σ' else E X l m_X12_goPlot D 2 [(0, .ref 124), (1, .int x1), (2, .int x2), (3, .int x3)] [] τ27 r σ')))) else E X l m_X12_goPlot D 2 [(0, .ref 124), (1, .int x1), (2, .int x2), (3, .int x3)] [] σ r σ')
set_option maxRecDepth 100000 in
theorem w_X12_goPlot_152 {X : Sx} {l : Launch} {D : Nat} {x1 : Int32} {x2 : Int32} {x3 : Int32} {σ : AH} {r : Option Value} {σ' : AH} (hs : Sh σ) (h : W_X12_goPlot_152 X l D x1 x2 x3 σ r σ') : E X l m_X12_goPlot D 152 [(0, .ref 124), (1, .int x1), (2, .int x2), (3, .int x3)] [] σ r σ' := by
  unfold W_X12_goPlot_152 at h
  refine E_iload_n 3 dX12_goPlot_152 rfl rfl ?_
  refine E_if_ne 2 dX12_goPlot_153 (by decide) (fun c => ?_) (fun c => ?_)
  · rw [if_neg c] at h
    exact E_lv [0, 1, 2, 3] rfl h
  · rw [if_pos c] at h
    refine E_aload_n 0 dX12_goPlot_156 rfl rfl ?_
    refine E_getR 145 dX12_goPlot_157 fl_X12_82 rfl (sk_124 hs) (sn hs (by decide)) (sr_124_40 hs) ?_
    refine E_iload_n 1 dX12_goPlot_160 rfl rfl ?_
    obtain ⟨g9, h⟩ := h
    refine E_zald2 (x1.toNatClampNeg) dX12_goPlot_161 (sk_145 hs) (sn hs (by decide)) g9 rfl ?_
    refine E_if_eq 2 dX12_goPlot_162 (by decide) (fun c => ?_) (fun c => ?_)
    · rw [if_pos c] at h
      exact E_lv [0, 1, 2, 3] rfl h
    · rw [if_neg c] at h
      refine E_aload_n 0 dX12_goPlot_165 rfl rfl ?_
      refine E_getR 143 dX12_goPlot_166 fl_X12_76 rfl (sk_124 hs) (sn hs (by decide)) (sr_124_38 hs) ?_
      refine E_aload_n 0 dX12_goPlot_169 rfl rfl ?_
      refine E_iload_n 1 dX12_goPlot_170 rfl rfl ?_
      obtain ⟨d10, v15, σ11, hD12, hC13, h⟩ := h
      have hs14 := hC13.1.2.2.2.1 hs
      refine E_callV (As := [.int x1]) (rest := [.ref 143]) (r1 := (some (.int v15))) (b := 124) dX12_goPlot_171 ok_X12_councilOf in_X12_councilOf se_X12_councilOf ml_X12_474 hD12 rfl rfl (Nat.le_of_ble_eq_true rfl) (sk_124 hs) (sn hs (by decide)) (by decide) rfl (by decide +kernel) hC13 ?_
      obtain ⟨g16, h⟩ := h
      refine E_iald2 (v15.toNatClampNeg) dX12_goPlot_174 (sk_143 hs14) (sn hs14 (by decide)) g16 rfl ?_
      refine E_if_le 2 dX12_goPlot_175 (by decide) (fun c => ?_) (fun c => ?_)
      · rw [if_pos c] at h
        exact E_lv [0, 1, 2, 3] rfl h
      · rw [if_neg c] at h
        refine E_aload_n 0 dX12_goPlot_178 rfl rfl ?_
        refine E_getR 143 dX12_goPlot_179 fl_X12_76 rfl (sk_124 hs14) (sn hs14 (by decide)) (sr_124_38 hs14) ?_
        refine E_aload_n 0 dX12_goPlot_182 rfl rfl ?_
        refine E_iload_n 1 dX12_goPlot_183 rfl rfl ?_
        obtain ⟨d17, v22, σ18, hD19, hC20, h⟩ := h
        have hs21 := hC20.1.2.2.2.1 hs14
        refine E_callV (As := [.int x1]) (rest := [.ref 143]) (r1 := (some (.int v22))) (b := 124) dX12_goPlot_184 ok_X12_councilOf in_X12_councilOf se_X12_councilOf ml_X12_474 hD19 rfl rfl (Nat.le_of_ble_eq_true rfl) (sk_124 hs14) (sn hs14 (by decide)) (by decide) rfl (by decide +kernel) hC20 ?_
        refine E_dup2 dX12_goPlot_187 rfl rfl ?_
        obtain ⟨g23, h⟩ := h
        refine E_iald2 (v22.toNatClampNeg) dX12_goPlot_188 (sk_143 hs21) (sn hs21 (by decide)) g23 rfl ?_
        refine E_iconst (1 : Int32) dX12_goPlot_189 (by decide) ?_
        refine E_isub dX12_goPlot_190 ?_
        obtain ⟨g24, h⟩ := h
        refine E_iast2 (v22.toNatClampNeg) dX12_goPlot_191 (sk_143 hs21) (sn hs21 (by decide)) (Or.inl (by decide)) g24 rfl ?_
        refine E_aload_n 0 dX12_goPlot_192 rfl rfl ?_
        refine E_getR 146 dX12_goPlot_193 fl_X12_85 rfl (sk_124 hs21) (sn hs21 (by decide)) (sr_124_41 hs21) ?_
        refine E_iload_n 1 dX12_goPlot_196 rfl rfl ?_
        refine E_dup2 dX12_goPlot_197 rfl rfl ?_
        obtain ⟨g25, h⟩ := h
        refine E_iald2 (x1.toNatClampNeg) dX12_goPlot_198 (sk_146 hs21) (sn hs21 (by decide)) g25 rfl ?_
        refine E_iconst (1 : Int32) dX12_goPlot_199 (by decide) ?_
        refine E_isub dX12_goPlot_200 ?_
        obtain ⟨g26, h⟩ := h
        refine E_iast2 (x1.toNatClampNeg) dX12_goPlot_201 (sk_146 hs21) (sn hs21 (by decide)) (Or.inl (by decide)) g26 rfl ?_
        obtain ⟨τ27, e28⟩ : ∃ τ : AH, τ = (sI (sI σ18 143 v22.toNatClampNeg ((gI σ18 143 v22.toNatClampNeg) - (1 : Int32))) 146 x1.toNatClampNeg ((gI (sI σ18 143 v22.toNatClampNeg ((gI σ18 143 v22.toNatClampNeg) - (1 : Int32))) 146 x1.toNatClampNeg) - (1 : Int32))) := ⟨_, rfl⟩
        replace h := h τ27 e28
        rw [← e28]
        have hs29 : Sh τ27 := by rw [e28]; exact hs21
        refine E_aload_n 0 dX12_goPlot_202 rfl rfl ?_
        refine E_getR 146 dX12_goPlot_203 fl_X12_85 rfl (sk_124 hs29) (sn hs29 (by decide)) (sr_124_41 hs29) ?_
        refine E_iload_n 1 dX12_goPlot_206 rfl rfl ?_
        obtain ⟨g30, h⟩ := h
        refine E_iald2 (x1.toNatClampNeg) dX12_goPlot_207 (sk_146 hs29) (sn hs29 (by decide)) g30 rfl ?_
        refine E_if_ne 2 dX12_goPlot_208 (by decide) (fun c => ?_) (fun c => ?_)
        · rw [if_neg c] at h
          exact E_lv [0, 1, 2, 3] rfl h
        · rw [if_pos c] at h
          refine E_aload_n 0 dX12_goPlot_211 rfl rfl ?_
          refine E_iload_n 1 dX12_goPlot_212 rfl rfl ?_
          refine E_iload_n 2 dX12_goPlot_213 rfl rfl ?_
          obtain ⟨d31, σ32, hD33, hC34, h⟩ := h
          have hs35 := hC34.1.2.2.2.1 hs29
          refine E_callV (As := [.int x1, .int x2]) (rest := []) (r1 := none) (b := 124) dX12_goPlot_214 ok_X12_finish in_X12_finish se_X12_finish ml_X12_511 hD33 rfl rfl (Nat.le_of_ble_eq_true rfl) (sk_124 hs29) (sn hs29 (by decide)) (by decide) rfl (by decide +kernel) hC34 ?_
          refine E_aload_n 0 dX12_goPlot_217 rfl rfl ?_
          refine E_getR 147 dX12_goPlot_218 fl_X12_88 rfl (sk_124 hs35) (sn hs35 (by decide)) (sr_124_42 hs35) ?_
          refine E_iload_n 1 dX12_goPlot_221 rfl rfl ?_
          refine E_iconst (1 : Int32) dX12_goPlot_222 (by decide) ?_
          obtain ⟨g36, h⟩ := h
          refine E_zast2 (x1.toNatClampNeg) (1 : Int32) (by decide) dX12_goPlot_223 (sk_147 hs35) (sn hs35 (by decide)) (Or.inl (by decide)) g36 rfl ?_
          refine E_goto 2 dX12_goPlot_224 (by decide) ?_
          exact E_lv [0, 1, 2, 3] rfl h
def W_X12_goPlot_2 (X : Sx) (l : Launch) (D : Nat) (x1 : Int32) (x2 : Int32) (x3 : Int32) (σ : AH) (r : Option Value) (σ' : AH) : Prop := (if x3 = 0 then (r = none ∧ σ' = σ) else vp_in x1 30 ∧ (if (3 : Int32) ≤ (gI σ 144 x1.toNatClampNeg) then (r = none ∧ σ' = σ) else vp_in x1 30 ∧ (if (gI σ 145 x1.toNatClampNeg) = 0 then ∃ d3 : Nat, ∃ v8 : Int32, ∃ σ4 : AH, d3 + 1 ≤ D ∧ Call X l m_X12_canTake d3 [.ref 124, .int x1, .int x2] σ (some (.int v8)) σ4 ∧ (if v8 = 0 then W_X12_goPlot_152 X l D x1 x2 (0 : Int32) σ4 r σ' else E X l m_X12_goPlot D 39 [(0, .ref 124), (1, .int x1), (2, .int x2), (3, .int (0 : Int32)), (4, .int (0 : Int32))] [] σ4 r σ') else W_X12_goPlot_152 X l D x1 x2 (0 : Int32) σ r σ')))
set_option maxRecDepth 100000 in
theorem w_X12_goPlot_2 {X : Sx} {l : Launch} {D : Nat} {x1 : Int32} {x2 : Int32} {x3 : Int32} {σ : AH} {r : Option Value} {σ' : AH} (hs : Sh σ) (h : W_X12_goPlot_2 X l D x1 x2 x3 σ r σ') : E X l m_X12_goPlot D 2 [(0, .ref 124), (1, .int x1), (2, .int x2), (3, .int x3)] [] σ r σ' := by
  unfold W_X12_goPlot_2 at h
  refine E_iload_n 3 dX12_goPlot_2 rfl rfl ?_
  refine E_if_eq 227 dX12_goPlot_3 (by decide) (fun c => ?_) (fun c => ?_)
  · rw [if_pos c] at h
    obtain ⟨rfl, rfl⟩ := h
    exact E_vret dX12_goPlot_227 rfl
  · rw [if_neg c] at h
    refine E_aload_n 0 dX12_goPlot_6 rfl rfl ?_
    refine E_getR 144 dX12_goPlot_7 fl_X12_79 rfl (sk_124 hs) (sn hs (by decide)) (sr_124_39 hs) ?_
    refine E_iload_n 1 dX12_goPlot_10 rfl rfl ?_
    obtain ⟨g1, h⟩ := h
    refine E_iald2 (x1.toNatClampNeg) dX12_goPlot_11 (sk_144 hs) (sn hs (by decide)) g1 rfl ?_
    refine E_iconst (3 : Int32) dX12_goPlot_12 (by decide) ?_
    refine E_icmp_ge 227 dX12_goPlot_13 (by decide) (fun c => ?_) (fun c => ?_)
    · rw [if_pos c] at h
      obtain ⟨rfl, rfl⟩ := h
      exact E_vret dX12_goPlot_227 rfl
    · rw [if_neg c] at h
      refine E_iconst (0 : Int32) dX12_goPlot_16 (by decide) ?_
      refine E_istore_n [(3, .int (0 : Int32)), (0, .ref 124), (1, .int x1), (2, .int x2)] dX12_goPlot_17 rfl (by decide) rfl ?_
      refine E_aload_n 1 dX12_goPlot_18 rfl rfl ?_
      refine E_getR 145 dX12_goPlot_19 fl_X12_82 rfl (sk_124 hs) (sn hs (by decide)) (sr_124_40 hs) ?_
      refine E_iload_n 2 dX12_goPlot_22 rfl rfl ?_
      obtain ⟨g2, h⟩ := h
      refine E_zald2 (x1.toNatClampNeg) dX12_goPlot_23 (sk_145 hs) (sn hs (by decide)) g2 rfl ?_
      refine E_if_ne 152 dX12_goPlot_24 (by decide) (fun c => ?_) (fun c => ?_)
      · rw [if_neg c] at h
        exact E_lv [1, 2, 3, 0] rfl (w_X12_goPlot_152 hs h)
      · rw [if_pos c] at h
        refine E_aload_n 1 dX12_goPlot_27 rfl rfl ?_
        refine E_iload_n 2 dX12_goPlot_28 rfl rfl ?_
        refine E_iload_n 3 dX12_goPlot_29 rfl rfl ?_
        obtain ⟨d3, v8, σ4, hD5, hC6, h⟩ := h
        have hs7 := hC6.1.2.2.2.1 hs
        refine E_callV (As := [.int x1, .int x2]) (rest := []) (r1 := (some (.int v8))) (b := 124) dX12_goPlot_30 ok_X12_canTake in_X12_canTake se_X12_canTake ml_X12_507 hD5 rfl rfl (Nat.le_of_ble_eq_true rfl) (sk_124 hs) (sn hs (by decide)) (by decide) rfl (by decide +kernel) hC6 ?_
        refine E_if_eq 152 dX12_goPlot_33 (by decide) (fun c => ?_) (fun c => ?_)
        · rw [if_pos c] at h
          exact E_lv [1, 2, 3, 0] rfl (w_X12_goPlot_152 hs7 h)
        · rw [if_neg c] at h
          refine E_iconst (0 : Int32) dX12_goPlot_36 (by decide) ?_
          refine E_istore [(4, .int (0 : Int32)), (3, .int (0 : Int32)), (0, .ref 124), (1, .int x1), (2, .int x2)] dX12_goPlot_37 (by decide) rfl ?_
          exact E_lv [2, 3, 4, 1, 0] rfl h
def W_X12_goPlot_39 (X : Sx) (l : Launch) (D : Nat) (x1 : Int32) (x2 : Int32) (x3 : Int32) (x4 : Int32) (σ : AH) (r : Option Value) (σ' : AH) : Prop := (if (5 : Int32) ≤ x4 then vp_in x1 30 ∧ vp_in x1 30 ∧ vp_in (((3 : Int32) * x1) + (gI (sI σ 145 x1.toNatClampNeg (1 : Int32)) 144 x1.toNatClampNeg)) 90 ∧ (∀ τ40 : AH, τ40 = (sI (sI σ 145 x1.toNatClampNeg (1 : Int32)) 148 ((((3 : Int32) * x1) + (gI (sI σ 145 x1.toNatClampNeg (1 : Int32)) 144 x1.toNatClampNeg)).toNatClampNeg) x2) → ∃ d43 : Nat, ∃ v48 : Int32, ∃ σ44 : AH, d43 + 1 ≤ D ∧ Call X l m_X12_kindOf d43 [.ref 124, .int x1] τ40 (some (.int v48)) σ44 ∧ vp_in x1 30 ∧ ∃ d50 : Nat, ∃ v55 : Int32, ∃ σ51 : AH, d50 + 1 ≤ D ∧ Call X l m_X12_roomsOf d50 [.ref 124, .int x1] σ44 (some (.int v55)) σ51 ∧ ∃ d56 : Nat, ∃ v61 : Int32, ∃ σ57 : AH, d56 + 1 ≤ D ∧ Call X l m_X12_needOf d56 [.ref 124, .int v48, .int (gI σ44 144 x1.toNatClampNeg), .int (5 : Int32), .int v55, .int x2] σ51 (some (.int v61)) σ57 ∧ vp_in x1 30 ∧ vp_in x1 30 ∧ (if (gI (sI σ57 146 x1.toNatClampNeg v61) 146 x1.toNatClampNeg) = 0 then ∃ d64 : Nat, ∃ σ65 : AH, d64 + 1 ≤ D ∧ Call X l m_X12_finish d64 [.ref 124, .int x1, .int x2] (sI σ57 146 x1.toNatClampNeg v61) none σ65 ∧ W_X12_goPlot_152 X l D x1 x2 (1 : Int32) σ65 r σ' else W_X12_goPlot_152 X l D x1 x2 x3 (sI σ57 146 x1.toNatClampNeg v61) r σ')) else vp_in x4 5 ∧ ∃ d70 : Nat, ∃ v75 : Int32, ∃ σ71 : AH, d70 + 1 ≤ D ∧ Call X l m_X12_kindOf d70 [.ref 124, .int x1] σ (some (.int v75)) σ71 ∧ vp_in x1 30 ∧ ∃ d77 : Nat, ∃ v82 : Int32, ∃ σ78 : AH, d77 + 1 ≤ D ∧ Call X l m_X12_roomsOf d77 [.ref 124, .int x1] σ71 (some (.int v82)) σ78 ∧ ∃ d83 : Nat, ∃ v88 : Int32, ∃ σ84 : AH, d83 + 1 ≤ D ∧ Call X l m_X12_needOf d83 [.ref 124, .int v75, .int (gI σ71 144 x1.toNatClampNeg), .int x4, .int v82, .int x2] σ78 (some (.int v88)) σ84 ∧ vp_in x4 5 ∧ E X l m_X12_goPlot D 39 [(0, .ref 124), (1, .int x1), (2, .int x2), (3, .int x3), (4, .int (x4 + 1))] [] (sI σ84 142 x4.toNatClampNeg ((gI σ 142 x4.toNatClampNeg) - v88)) r σ')
set_option maxRecDepth 100000 in
theorem w_X12_goPlot_39 {X : Sx} {l : Launch} {D : Nat} {x1 : Int32} {x2 : Int32} {x3 : Int32} {x4 : Int32} {σ : AH} {r : Option Value} {σ' : AH} (hs : Sh σ) (h : W_X12_goPlot_39 X l D x1 x2 x3 x4 σ r σ') : E X l m_X12_goPlot D 39 [(0, .ref 124), (1, .int x1), (2, .int x2), (3, .int x3), (4, .int x4)] [] σ r σ' := by
  unfold W_X12_goPlot_39 at h
  refine E_iload 4 dX12_goPlot_39 rfl ?_
  refine E_iconst (5 : Int32) dX12_goPlot_41 (by decide) ?_
  refine E_icmp_ge 84 dX12_goPlot_42 (by decide) (fun c => ?_) (fun c => ?_)
  · rw [if_pos c] at h
    refine E_aload_n 0 dX12_goPlot_84 rfl rfl ?_
    refine E_getR 145 dX12_goPlot_85 fl_X12_82 rfl (sk_124 hs) (sn hs (by decide)) (sr_124_40 hs) ?_
    refine E_iload_n 1 dX12_goPlot_88 rfl rfl ?_
    refine E_iconst (1 : Int32) dX12_goPlot_89 (by decide) ?_
    obtain ⟨g37, h⟩ := h
    refine E_zast2 (x1.toNatClampNeg) (1 : Int32) (by decide) dX12_goPlot_90 (sk_145 hs) (sn hs (by decide)) (Or.inl (by decide)) g37 rfl ?_
    refine E_aload_n 0 dX12_goPlot_91 rfl rfl ?_
    refine E_getR 148 dX12_goPlot_92 fl_X12_91 rfl (sk_124 hs) (sn hs (by decide)) (sr_124_43 hs) ?_
    refine E_iconst (3 : Int32) dX12_goPlot_95 (by decide) ?_
    refine E_iload_n 1 dX12_goPlot_96 rfl rfl ?_
    refine E_imul dX12_goPlot_97 ?_
    refine E_aload_n 0 dX12_goPlot_98 rfl rfl ?_
    refine E_getR 144 dX12_goPlot_99 fl_X12_79 rfl (sk_124 hs) (sn hs (by decide)) (sr_124_39 hs) ?_
    refine E_iload_n 1 dX12_goPlot_102 rfl rfl ?_
    obtain ⟨g38, h⟩ := h
    refine E_iald2 (x1.toNatClampNeg) dX12_goPlot_103 (sk_144 hs) (sn hs (by decide)) g38 rfl ?_
    refine E_iadd dX12_goPlot_104 ?_
    refine E_iload_n 2 dX12_goPlot_105 rfl rfl ?_
    obtain ⟨g39, h⟩ := h
    refine E_iast2 ((((3 : Int32) * x1) + (gI (sI σ 145 x1.toNatClampNeg (1 : Int32)) 144 x1.toNatClampNeg)).toNatClampNeg) dX12_goPlot_106 (sk_148 hs) (sn hs (by decide)) (Or.inl (by decide)) g39 rfl ?_
    obtain ⟨τ40, e41⟩ : ∃ τ : AH, τ = (sI (sI σ 145 x1.toNatClampNeg (1 : Int32)) 148 ((((3 : Int32) * x1) + (gI (sI σ 145 x1.toNatClampNeg (1 : Int32)) 144 x1.toNatClampNeg)).toNatClampNeg) x2) := ⟨_, rfl⟩
    replace h := h τ40 e41
    rw [← e41]
    have hs42 : Sh τ40 := by rw [e41]; exact hs
    refine E_aload_n 0 dX12_goPlot_107 rfl rfl ?_
    refine E_getR 146 dX12_goPlot_108 fl_X12_85 rfl (sk_124 hs42) (sn hs42 (by decide)) (sr_124_41 hs42) ?_
    refine E_iload_n 1 dX12_goPlot_111 rfl rfl ?_
    refine E_aload_n 0 dX12_goPlot_112 rfl rfl ?_
    refine E_aload_n 0 dX12_goPlot_113 rfl rfl ?_
    refine E_iload_n 1 dX12_goPlot_114 rfl rfl ?_
    obtain ⟨d43, v48, σ44, hD45, hC46, h⟩ := h
    have hs47 := hC46.1.2.2.2.1 hs42
    refine E_callV (As := [.int x1]) (rest := [.ref 124, .int x1, .ref 146]) (r1 := (some (.int v48))) (b := 124) dX12_goPlot_115 ok_X12_kindOf in_X12_kindOf se_X12_kindOf ml_X12_477 hD45 rfl rfl (Nat.le_of_ble_eq_true rfl) (sk_124 hs42) (sn hs42 (by decide)) (by decide) rfl (by decide +kernel) hC46 ?_
    refine E_aload_n 0 dX12_goPlot_118 rfl rfl ?_
    refine E_getR 144 dX12_goPlot_119 fl_X12_79 rfl (sk_124 hs47) (sn hs47 (by decide)) (sr_124_39 hs47) ?_
    refine E_iload_n 1 dX12_goPlot_122 rfl rfl ?_
    obtain ⟨g49, h⟩ := h
    refine E_iald2 (x1.toNatClampNeg) dX12_goPlot_123 (sk_144 hs47) (sn hs47 (by decide)) g49 rfl ?_
    refine E_iconst (5 : Int32) dX12_goPlot_124 (by decide) ?_
    refine E_aload_n 0 dX12_goPlot_125 rfl rfl ?_
    refine E_iload_n 1 dX12_goPlot_126 rfl rfl ?_
    obtain ⟨d50, v55, σ51, hD52, hC53, h⟩ := h
    have hs54 := hC53.1.2.2.2.1 hs47
    refine E_callV (As := [.int x1]) (rest := [.int (5 : Int32), .int (gI σ44 144 x1.toNatClampNeg), .int v48, .ref 124, .int x1, .ref 146]) (r1 := (some (.int v55))) (b := 124) dX12_goPlot_127 ok_X12_roomsOf in_X12_roomsOf se_X12_roomsOf ml_X12_504 hD52 rfl rfl (Nat.le_of_ble_eq_true rfl) (sk_124 hs47) (sn hs47 (by decide)) (by decide) rfl (by decide +kernel) hC53 ?_
    refine E_iload_n 2 dX12_goPlot_130 rfl rfl ?_
    obtain ⟨d56, v61, σ57, hD58, hC59, h⟩ := h
    have hs60 := hC59.1.2.2.2.1 hs54
    refine E_callV (As := [.int v48, .int (gI σ44 144 x1.toNatClampNeg), .int (5 : Int32), .int v55, .int x2]) (rest := [.int x1, .ref 146]) (r1 := (some (.int v61))) (b := 124) dX12_goPlot_131 ok_X12_needOf in_X12_needOf se_X12_needOf ml_X12_452 hD58 rfl rfl (Nat.le_of_ble_eq_true rfl) (sk_124 hs54) (sn hs54 (by decide)) (by decide) rfl (by decide +kernel) hC59 ?_
    obtain ⟨g62, h⟩ := h
    refine E_iast2 (x1.toNatClampNeg) dX12_goPlot_134 (sk_146 hs60) (sn hs60 (by decide)) (Or.inl (by decide)) g62 rfl ?_
    refine E_aload_n 0 dX12_goPlot_135 rfl rfl ?_
    refine E_getR 146 dX12_goPlot_136 fl_X12_85 rfl (sk_124 hs60) (sn hs60 (by decide)) (sr_124_41 hs60) ?_
    refine E_iload_n 1 dX12_goPlot_139 rfl rfl ?_
    obtain ⟨g63, h⟩ := h
    refine E_iald2 (x1.toNatClampNeg) dX12_goPlot_140 (sk_146 hs60) (sn hs60 (by decide)) g63 rfl ?_
    refine E_if_ne 152 dX12_goPlot_141 (by decide) (fun c => ?_) (fun c => ?_)
    · rw [if_neg c] at h
      exact E_lv [0, 1, 2, 3] rfl (w_X12_goPlot_152 hs60 h)
    · rw [if_pos c] at h
      refine E_aload_n 0 dX12_goPlot_144 rfl rfl ?_
      refine E_iload_n 1 dX12_goPlot_145 rfl rfl ?_
      refine E_iload_n 2 dX12_goPlot_146 rfl rfl ?_
      obtain ⟨d64, σ65, hD66, hC67, h⟩ := h
      have hs68 := hC67.1.2.2.2.1 hs60
      refine E_callV (As := [.int x1, .int x2]) (rest := []) (r1 := none) (b := 124) dX12_goPlot_147 ok_X12_finish in_X12_finish se_X12_finish ml_X12_511 hD66 rfl rfl (Nat.le_of_ble_eq_true rfl) (sk_124 hs60) (sn hs60 (by decide)) (by decide) rfl (by decide +kernel) hC67 ?_
      refine E_iconst (1 : Int32) dX12_goPlot_150 (by decide) ?_
      refine E_istore_n [(3, .int (1 : Int32)), (0, .ref 124), (1, .int x1), (2, .int x2), (4, .int x4)] dX12_goPlot_151 rfl (by decide) rfl ?_
      exact E_lv [1, 2, 3, 0] rfl (w_X12_goPlot_152 hs68 h)
  · rw [if_neg c] at h
    refine E_aload_n 0 dX12_goPlot_45 rfl rfl ?_
    refine E_getR 142 dX12_goPlot_46 fl_X12_73 rfl (sk_124 hs) (sn hs (by decide)) (sr_124_37 hs) ?_
    refine E_iload 4 dX12_goPlot_49 rfl ?_
    refine E_dup2 dX12_goPlot_51 rfl rfl ?_
    obtain ⟨g69, h⟩ := h
    refine E_iald2 (x4.toNatClampNeg) dX12_goPlot_52 (sk_142 hs) (sn hs (by decide)) g69 rfl ?_
    refine E_aload_n 0 dX12_goPlot_53 rfl rfl ?_
    refine E_aload_n 0 dX12_goPlot_54 rfl rfl ?_
    refine E_iload_n 1 dX12_goPlot_55 rfl rfl ?_
    obtain ⟨d70, v75, σ71, hD72, hC73, h⟩ := h
    have hs74 := hC73.1.2.2.2.1 hs
    refine E_callV (As := [.int x1]) (rest := [.ref 124, .int (gI σ 142 x4.toNatClampNeg), .int x4, .ref 142]) (r1 := (some (.int v75))) (b := 124) dX12_goPlot_56 ok_X12_kindOf in_X12_kindOf se_X12_kindOf ml_X12_477 hD72 rfl rfl (Nat.le_of_ble_eq_true rfl) (sk_124 hs) (sn hs (by decide)) (by decide) rfl (by decide +kernel) hC73 ?_
    refine E_aload_n 0 dX12_goPlot_59 rfl rfl ?_
    refine E_getR 144 dX12_goPlot_60 fl_X12_79 rfl (sk_124 hs74) (sn hs74 (by decide)) (sr_124_39 hs74) ?_
    refine E_iload_n 1 dX12_goPlot_63 rfl rfl ?_
    obtain ⟨g76, h⟩ := h
    refine E_iald2 (x1.toNatClampNeg) dX12_goPlot_64 (sk_144 hs74) (sn hs74 (by decide)) g76 rfl ?_
    refine E_iload 4 dX12_goPlot_65 rfl ?_
    refine E_aload_n 0 dX12_goPlot_67 rfl rfl ?_
    refine E_iload_n 1 dX12_goPlot_68 rfl rfl ?_
    obtain ⟨d77, v82, σ78, hD79, hC80, h⟩ := h
    have hs81 := hC80.1.2.2.2.1 hs74
    refine E_callV (As := [.int x1]) (rest := [.int x4, .int (gI σ71 144 x1.toNatClampNeg), .int v75, .ref 124, .int (gI σ 142 x4.toNatClampNeg), .int x4, .ref 142]) (r1 := (some (.int v82))) (b := 124) dX12_goPlot_69 ok_X12_roomsOf in_X12_roomsOf se_X12_roomsOf ml_X12_504 hD79 rfl rfl (Nat.le_of_ble_eq_true rfl) (sk_124 hs74) (sn hs74 (by decide)) (by decide) rfl (by decide +kernel) hC80 ?_
    refine E_iload_n 2 dX12_goPlot_72 rfl rfl ?_
    obtain ⟨d83, v88, σ84, hD85, hC86, h⟩ := h
    have hs87 := hC86.1.2.2.2.1 hs81
    refine E_callV (As := [.int v75, .int (gI σ71 144 x1.toNatClampNeg), .int x4, .int v82, .int x2]) (rest := [.int (gI σ 142 x4.toNatClampNeg), .int x4, .ref 142]) (r1 := (some (.int v88))) (b := 124) dX12_goPlot_73 ok_X12_needOf in_X12_needOf se_X12_needOf ml_X12_452 hD85 rfl rfl (Nat.le_of_ble_eq_true rfl) (sk_124 hs81) (sn hs81 (by decide)) (by decide) rfl (by decide +kernel) hC86 ?_
    refine E_isub dX12_goPlot_76 ?_
    obtain ⟨g89, h⟩ := h
    refine E_iast2 (x4.toNatClampNeg) dX12_goPlot_77 (sk_142 hs87) (sn hs87 (by decide)) (Or.inl (by decide)) g89 rfl ?_
    refine E_iinc 4 (x4 + 1) [(4, .int (x4 + 1)), (0, .ref 124), (1, .int x1), (2, .int x2), (3, .int x3)] dX12_goPlot_78 rfl (congrArg (x4 + ·) (by decide : Int32.ofInt 1 = 1)) (by decide) rfl ?_
    refine E_goto 39 dX12_goPlot_81 (by decide) ?_
    exact E_lv [1, 2, 3, 4, 0] rfl h
def W_X12_finish_0 (X : Sx) (l : Launch) (D : Nat) (x1 : Int32) (x2 : Int32) (σ : AH) (r : Option Value) (σ' : AH) : Prop := vp_in x1 30 ∧ vp_in (((3 : Int32) * x1) + (gI σ 144 x1.toNatClampNeg)) 90 ∧ vp_in x1 30 ∧ vp_in x1 30 ∧ (∀ τ5 : AH, τ5 = (sI (sI σ 149 ((((3 : Int32) * x1) + (gI σ 144 x1.toNatClampNeg)).toNatClampNeg) x2) 144 x1.toNatClampNeg ((gI (sI σ 149 ((((3 : Int32) * x1) + (gI σ 144 x1.toNatClampNeg)).toNatClampNeg) x2) 144 x1.toNatClampNeg) + (1 : Int32))) → vp_in x1 30 ∧ (r = none ∧ σ' = (sI τ5 145 x1.toNatClampNeg (0 : Int32))))
set_option maxRecDepth 100000 in
theorem w_X12_finish_0 {X : Sx} {l : Launch} {D : Nat} {x1 : Int32} {x2 : Int32} {σ : AH} {r : Option Value} {σ' : AH} (hs : Sh σ) (h : W_X12_finish_0 X l D x1 x2 σ r σ') : E X l m_X12_finish D 0 [(0, .ref 124), (1, .int x1), (2, .int x2)] [] σ r σ' := by
  unfold W_X12_finish_0 at h
  refine E_aload_n 0 dX12_finish_0 rfl rfl ?_
  refine E_getR 149 dX12_finish_1 fl_X12_94 rfl (sk_124 hs) (sn hs (by decide)) (sr_124_44 hs) ?_
  refine E_iconst (3 : Int32) dX12_finish_4 (by decide) ?_
  refine E_iload_n 1 dX12_finish_5 rfl rfl ?_
  refine E_imul dX12_finish_6 ?_
  refine E_aload_n 0 dX12_finish_7 rfl rfl ?_
  refine E_getR 144 dX12_finish_8 fl_X12_79 rfl (sk_124 hs) (sn hs (by decide)) (sr_124_39 hs) ?_
  refine E_iload_n 1 dX12_finish_11 rfl rfl ?_
  obtain ⟨g1, h⟩ := h
  refine E_iald2 (x1.toNatClampNeg) dX12_finish_12 (sk_144 hs) (sn hs (by decide)) g1 rfl ?_
  refine E_iadd dX12_finish_13 ?_
  refine E_iload_n 2 dX12_finish_14 rfl rfl ?_
  obtain ⟨g2, h⟩ := h
  refine E_iast2 ((((3 : Int32) * x1) + (gI σ 144 x1.toNatClampNeg)).toNatClampNeg) dX12_finish_15 (sk_149 hs) (sn hs (by decide)) (Or.inl (by decide)) g2 rfl ?_
  refine E_aload_n 0 dX12_finish_16 rfl rfl ?_
  refine E_getR 144 dX12_finish_17 fl_X12_79 rfl (sk_124 hs) (sn hs (by decide)) (sr_124_39 hs) ?_
  refine E_iload_n 1 dX12_finish_20 rfl rfl ?_
  refine E_dup2 dX12_finish_21 rfl rfl ?_
  obtain ⟨g3, h⟩ := h
  refine E_iald2 (x1.toNatClampNeg) dX12_finish_22 (sk_144 hs) (sn hs (by decide)) g3 rfl ?_
  refine E_iconst (1 : Int32) dX12_finish_23 (by decide) ?_
  refine E_iadd dX12_finish_24 ?_
  obtain ⟨g4, h⟩ := h
  refine E_iast2 (x1.toNatClampNeg) dX12_finish_25 (sk_144 hs) (sn hs (by decide)) (Or.inl (by decide)) g4 rfl ?_
  obtain ⟨τ5, e6⟩ : ∃ τ : AH, τ = (sI (sI σ 149 ((((3 : Int32) * x1) + (gI σ 144 x1.toNatClampNeg)).toNatClampNeg) x2) 144 x1.toNatClampNeg ((gI (sI σ 149 ((((3 : Int32) * x1) + (gI σ 144 x1.toNatClampNeg)).toNatClampNeg) x2) 144 x1.toNatClampNeg) + (1 : Int32))) := ⟨_, rfl⟩
  replace h := h τ5 e6
  rw [← e6]
  have hs7 : Sh τ5 := by rw [e6]; exact hs
  refine E_aload_n 0 dX12_finish_26 rfl rfl ?_
  refine E_getR 145 dX12_finish_27 fl_X12_82 rfl (sk_124 hs7) (sn hs7 (by decide)) (sr_124_40 hs7) ?_
  refine E_iload_n 1 dX12_finish_30 rfl rfl ?_
  refine E_iconst (0 : Int32) dX12_finish_31 (by decide) ?_
  obtain ⟨g8, h⟩ := h
  refine E_zast2 (x1.toNatClampNeg) (0 : Int32) (by decide) dX12_finish_32 (sk_145 hs7) (sn hs7 (by decide)) (Or.inl (by decide)) g8 rfl ?_
  obtain ⟨rfl, rfl⟩ := h
  exact E_vret dX12_finish_33 rfl
def W_X12_goTo_0 (X : Sx) (l : Launch) (D : Nat) (x1 : Int32) (x2 : Int32) (σ : AH) (r : Option Value) (σ' : AH) : Prop := E X l m_X12_goTo D 2 [(0, .ref 124), (2, .int x2), (3, .int x1)] [] σ r σ'
set_option maxRecDepth 100000 in
theorem w_X12_goTo_0 {X : Sx} {l : Launch} {D : Nat} {x1 : Int32} {x2 : Int32} {σ : AH} {r : Option Value} {σ' : AH} (hs : Sh σ) (h : W_X12_goTo_0 X l D x1 x2 σ r σ') : E X l m_X12_goTo D 0 [(0, .ref 124), (1, .int x1), (2, .int x2)] [] σ r σ' := by
  unfold W_X12_goTo_0 at h
  refine E_iload_n 1 dX12_goTo_0 rfl rfl ?_
  refine E_istore_n [(3, .int x1), (0, .ref 124), (1, .int x1), (2, .int x2)] dX12_goTo_1 rfl (by decide) rfl ?_
  exact E_lv [1, 3, 0] rfl h
def W_X12_goTo_2 (X : Sx) (l : Launch) (D : Nat) (x2 : Int32) (x3 : Int32) (σ : AH) (r : Option Value) (σ' : AH) : Prop := (if x2 < x3 then (r = none ∧ σ' = σ) else ∃ d1 : Nat, ∃ σ2 : AH, d1 + 1 ≤ D ∧ Call X l m_X12_goWeek d1 [.ref 124, .int x3] σ none σ2 ∧ E X l m_X12_goTo D 2 [(0, .ref 124), (2, .int x2), (3, .int (x3 + 1))] [] σ2 r σ')
set_option maxRecDepth 100000 in
theorem w_X12_goTo_2 {X : Sx} {l : Launch} {D : Nat} {x2 : Int32} {x3 : Int32} {σ : AH} {r : Option Value} {σ' : AH} (hs : Sh σ) (h : W_X12_goTo_2 X l D x2 x3 σ r σ') : E X l m_X12_goTo D 2 [(0, .ref 124), (2, .int x2), (3, .int x3)] [] σ r σ' := by
  unfold W_X12_goTo_2 at h
  refine E_iload_n 2 dX12_goTo_2 rfl rfl ?_
  refine E_iload_n 1 dX12_goTo_3 rfl rfl ?_
  refine E_icmp_gt 18 dX12_goTo_4 (by decide) (fun c => ?_) (fun c => ?_)
  · rw [if_pos c] at h
    obtain ⟨rfl, rfl⟩ := h
    exact E_vret dX12_goTo_18 rfl
  · rw [if_neg c] at h
    refine E_aload_n 0 dX12_goTo_7 rfl rfl ?_
    refine E_iload_n 2 dX12_goTo_8 rfl rfl ?_
    obtain ⟨d1, σ2, hD3, hC4, h⟩ := h
    have hs5 := hC4.1.2.2.2.1 hs
    refine E_callV (As := [.int x3]) (rest := []) (r1 := none) (b := 124) dX12_goTo_9 ok_X12_goWeek in_X12_goWeek se_X12_goWeek ml_X12_514 hD3 rfl rfl (Nat.le_of_ble_eq_true rfl) (sk_124 hs) (sn hs (by decide)) (by decide) rfl (by decide +kernel) hC4 ?_
    refine E_iinc 2 (x3 + 1) [(3, .int (x3 + 1)), (0, .ref 124), (2, .int x2)] dX12_goTo_12 rfl (congrArg (x3 + ·) (by decide : Int32.ofInt 1 = 1)) (by decide) rfl ?_
    refine E_goto 2 dX12_goTo_15 (by decide) ?_
    exact E_lv [1, 2, 0] rfl h
def W_X12_runAll_0 (X : Sx) (l : Launch) (D : Nat) (x1 : Int32) (x2 : Int32) (σ : AH) (r : Option Value) (σ' : AH) : Prop := ∃ d1 : Nat, ∃ σ2 : AH, d1 + 1 ≤ D ∧ Call X l m_X12_knowBy d1 [.ref 124, .int x1] σ none σ2 ∧ ∃ d6 : Nat, ∃ σ7 : AH, d6 + 1 ≤ D ∧ Call X l m_X12_beginRun d6 [.ref 124, .int x2] σ2 none σ7 ∧ ∃ d11 : Nat, ∃ σ12 : AH, d11 + 1 ≤ D ∧ Call X l m_X12_goTo d11 [.ref 124, .int (0 : Int32), .int (259 : Int32)] σ7 none σ12 ∧ (r = none ∧ σ' = σ12)
set_option maxRecDepth 100000 in
theorem w_X12_runAll_0 {X : Sx} {l : Launch} {D : Nat} {x1 : Int32} {x2 : Int32} {σ : AH} {r : Option Value} {σ' : AH} (hs : Sh σ) (h : W_X12_runAll_0 X l D x1 x2 σ r σ') : E X l m_X12_runAll D 0 [(0, .ref 124), (1, .int x1), (2, .int x2)] [] σ r σ' := by
  unfold W_X12_runAll_0 at h
  refine E_aload_n 0 dX12_runAll_0 rfl rfl ?_
  refine E_iload_n 1 dX12_runAll_1 rfl rfl ?_
  obtain ⟨d1, σ2, hD3, hC4, h⟩ := h
  have hs5 := hC4.1.2.2.2.1 hs
  refine E_callV (As := [.int x1]) (rest := []) (r1 := none) (b := 124) dX12_runAll_2 ok_X12_knowBy in_X12_knowBy se_X12_knowBy ml_X12_406 hD3 rfl rfl (Nat.le_of_ble_eq_true rfl) (sk_124 hs) (sn hs (by decide)) (by decide) rfl (by decide +kernel) hC4 ?_
  refine E_aload_n 0 dX12_runAll_5 rfl rfl ?_
  refine E_iload_n 2 dX12_runAll_6 rfl rfl ?_
  obtain ⟨d6, σ7, hD8, hC9, h⟩ := h
  have hs10 := hC9.1.2.2.2.1 hs5
  refine E_callV (As := [.int x2]) (rest := []) (r1 := none) (b := 124) dX12_runAll_7 ok_X12_beginRun in_X12_beginRun se_X12_beginRun ml_X12_517 hD8 rfl rfl (Nat.le_of_ble_eq_true rfl) (sk_124 hs5) (sn hs5 (by decide)) (by decide) rfl (by decide +kernel) hC9 ?_
  refine E_aload_n 0 dX12_runAll_10 rfl rfl ?_
  refine E_iconst (0 : Int32) dX12_runAll_11 (by decide) ?_
  refine E_sipush (259 : Int32) dX12_runAll_12 (by decide) ?_
  obtain ⟨d11, σ12, hD13, hC14, h⟩ := h
  have hs15 := hC14.1.2.2.2.1 hs10
  refine E_callV (As := [.int (0 : Int32), .int (259 : Int32)]) (rest := []) (r1 := none) (b := 124) dX12_runAll_15 ok_X12_goTo in_X12_goTo se_X12_goTo ml_X12_520 hD13 rfl rfl (Nat.le_of_ble_eq_true rfl) (sk_124 hs10) (sn hs10 (by decide)) (by decide) rfl (by decide +kernel) hC14 ?_
  obtain ⟨rfl, rfl⟩ := h
  exact E_vret dX12_runAll_18 rfl
def W_X12_stock_0 (X : Sx) (l : Launch) (D : Nat) (x1 : Int32) (x2 : Int32) (x3 : Int32) (x4 : Int32) (σ : AH) (r : Option Value) (σ' : AH) : Prop := ∃ d1 : Nat, ∃ v6 : Int32, ∃ σ2 : AH, d1 + 1 ≤ D ∧ Call X l m_X12_in d1 [.long (x1).toInt64, .long (0 : Int64), .long (4 : Int64)] (sI σ 124 0 (0 : Int32)) (some (.int v6)) σ2 ∧ (if v6 = 0 then (r = some (.int (-1 : Int32)) ∧ σ' = σ2) else ∃ d7 : Nat, ∃ v12 : Int32, ∃ σ8 : AH, d7 + 1 ≤ D ∧ Call X l m_X12_isWeek d7 [.int x2] σ2 (some (.int v12)) σ8 ∧ (if v12 = 0 then (r = some (.int (-1 : Int32)) ∧ σ' = σ8) else ∃ d13 : Nat, ∃ v18 : Int32, ∃ σ14 : AH, d13 + 1 ≤ D ∧ Call X l m_X12_isWeek d13 [.int x3] σ8 (some (.int v18)) σ14 ∧ (if v18 = 0 then (r = some (.int (-1 : Int32)) ∧ σ' = σ14) else ∃ d19 : Nat, ∃ v24 : Int32, ∃ σ20 : AH, d19 + 1 ≤ D ∧ Call X l m_X12_in d19 [.long (x4).toInt64, .long (0 : Int64), .long (26 : Int64)] σ14 (some (.int v24)) σ20 ∧ (if v24 = 0 then (r = some (.int (-1 : Int32)) ∧ σ' = σ20) else ∃ d25 : Nat, ∃ σ26 : AH, d25 + 1 ≤ D ∧ Call X l m_X12_knowBy d25 [.ref 124, .int x3] σ20 none σ26 ∧ ∃ d30 : Nat, ∃ σ31 : AH, d30 + 1 ≤ D ∧ Call X l m_X12_beginRun d30 [.ref 124, .int x4] σ26 none σ31 ∧ ∃ d35 : Nat, ∃ σ36 : AH, d35 + 1 ≤ D ∧ Call X l m_X12_goTo d35 [.ref 124, .int (0 : Int32), .int x2] σ31 none σ36 ∧ vp_in x1 5 ∧ (r = some (.int (gI σ36 142 x1.toNatClampNeg)) ∧ σ' = σ36)))))
set_option maxRecDepth 100000 in
theorem w_X12_stock_0 {X : Sx} {l : Launch} {D : Nat} {x1 : Int32} {x2 : Int32} {x3 : Int32} {x4 : Int32} {σ : AH} {r : Option Value} {σ' : AH} (hs : Sh σ) (h : W_X12_stock_0 X l D x1 x2 x3 x4 σ r σ') : E X l m_X12_stock D 0 [(0, .ref 124), (1, .int x1), (2, .int x2), (3, .int x3), (4, .int x4)] [] σ r σ' := by
  unfold W_X12_stock_0 at h
  refine E_aload_n 0 dX12_stock_0 rfl rfl ?_
  refine E_iconst (0 : Int32) dX12_stock_1 (by decide) ?_
  refine E_putI dX12_stock_2 fl_X12_145 rfl (Or.inl rfl) (sk_124 hs) (sn hs (by decide)) (Or.inl (by decide)) rfl rfl ?_
  refine E_iload_n 1 dX12_stock_5 rfl rfl ?_
  refine E_i2l dX12_stock_6 ?_
  refine E_lconst (0 : Int64) dX12_stock_7 (by decide) ?_
  refine E_ldc2 (4 : Int64) dX12_stock_8 cl_X12_456 ?_
  obtain ⟨d1, v6, σ2, hD3, hC4, h⟩ := h
  have hs5 := hC4.1.2.2.2.1 hs
  refine E_callS (As := [.long (x1).toInt64, .long (0 : Int64), .long (4 : Int64)]) (rest := []) (r1 := (some (.int v6))) dX12_stock_11 ok_X12_in is_X12_in ml_X12_153 hD3 rfl rfl (Nat.le_of_ble_eq_true rfl) (by decide +kernel) hC4 ?_
  refine E_if_eq 44 dX12_stock_14 (by decide) (fun c => ?_) (fun c => ?_)
  · rw [if_pos c] at h
    refine E_iconst (-1 : Int32) dX12_stock_44 (by decide) ?_
    obtain ⟨rfl, rfl⟩ := h
    exact E_iret dX12_stock_45 rfl
  · rw [if_neg c] at h
    refine E_iload_n 2 dX12_stock_17 rfl rfl ?_
    obtain ⟨d7, v12, σ8, hD9, hC10, h⟩ := h
    have hs11 := hC10.1.2.2.2.1 hs5
    refine E_callS (As := [.int x2]) (rest := []) (r1 := (some (.int v12))) dX12_stock_18 ok_X12_isWeek is_X12_isWeek ml_X12_387 hD9 rfl rfl (Nat.le_of_ble_eq_true rfl) (by decide +kernel) hC10 ?_
    refine E_if_eq 44 dX12_stock_21 (by decide) (fun c => ?_) (fun c => ?_)
    · rw [if_pos c] at h
      refine E_iconst (-1 : Int32) dX12_stock_44 (by decide) ?_
      obtain ⟨rfl, rfl⟩ := h
      exact E_iret dX12_stock_45 rfl
    · rw [if_neg c] at h
      refine E_iload_n 3 dX12_stock_24 rfl rfl ?_
      obtain ⟨d13, v18, σ14, hD15, hC16, h⟩ := h
      have hs17 := hC16.1.2.2.2.1 hs11
      refine E_callS (As := [.int x3]) (rest := []) (r1 := (some (.int v18))) dX12_stock_25 ok_X12_isWeek is_X12_isWeek ml_X12_387 hD15 rfl rfl (Nat.le_of_ble_eq_true rfl) (by decide +kernel) hC16 ?_
      refine E_if_eq 44 dX12_stock_28 (by decide) (fun c => ?_) (fun c => ?_)
      · rw [if_pos c] at h
        refine E_iconst (-1 : Int32) dX12_stock_44 (by decide) ?_
        obtain ⟨rfl, rfl⟩ := h
        exact E_iret dX12_stock_45 rfl
      · rw [if_neg c] at h
        refine E_iload 4 dX12_stock_31 rfl ?_
        refine E_i2l dX12_stock_33 ?_
        refine E_lconst (0 : Int64) dX12_stock_34 (by decide) ?_
        refine E_ldc2 (26 : Int64) dX12_stock_35 cl_X12_523 ?_
        obtain ⟨d19, v24, σ20, hD21, hC22, h⟩ := h
        have hs23 := hC22.1.2.2.2.1 hs17
        refine E_callS (As := [.long (x4).toInt64, .long (0 : Int64), .long (26 : Int64)]) (rest := []) (r1 := (some (.int v24))) dX12_stock_38 ok_X12_in is_X12_in ml_X12_153 hD21 rfl rfl (Nat.le_of_ble_eq_true rfl) (by decide +kernel) hC22 ?_
        refine E_if_ne 46 dX12_stock_41 (by decide) (fun c => ?_) (fun c => ?_)
        · rw [if_neg c] at h
          refine E_aload_n 0 dX12_stock_46 rfl rfl ?_
          refine E_iload_n 3 dX12_stock_47 rfl rfl ?_
          obtain ⟨d25, σ26, hD27, hC28, h⟩ := h
          have hs29 := hC28.1.2.2.2.1 hs23
          refine E_callV (As := [.int x3]) (rest := []) (r1 := none) (b := 124) dX12_stock_48 ok_X12_knowBy in_X12_knowBy se_X12_knowBy ml_X12_406 hD27 rfl rfl (Nat.le_of_ble_eq_true rfl) (sk_124 hs23) (sn hs23 (by decide)) (by decide) rfl (by decide +kernel) hC28 ?_
          refine E_aload_n 0 dX12_stock_51 rfl rfl ?_
          refine E_iload 4 dX12_stock_52 rfl ?_
          obtain ⟨d30, σ31, hD32, hC33, h⟩ := h
          have hs34 := hC33.1.2.2.2.1 hs29
          refine E_callV (As := [.int x4]) (rest := []) (r1 := none) (b := 124) dX12_stock_54 ok_X12_beginRun in_X12_beginRun se_X12_beginRun ml_X12_517 hD32 rfl rfl (Nat.le_of_ble_eq_true rfl) (sk_124 hs29) (sn hs29 (by decide)) (by decide) rfl (by decide +kernel) hC33 ?_
          refine E_aload_n 0 dX12_stock_57 rfl rfl ?_
          refine E_iconst (0 : Int32) dX12_stock_58 (by decide) ?_
          refine E_iload_n 2 dX12_stock_59 rfl rfl ?_
          obtain ⟨d35, σ36, hD37, hC38, h⟩ := h
          have hs39 := hC38.1.2.2.2.1 hs34
          refine E_callV (As := [.int (0 : Int32), .int x2]) (rest := []) (r1 := none) (b := 124) dX12_stock_60 ok_X12_goTo in_X12_goTo se_X12_goTo ml_X12_520 hD37 rfl rfl (Nat.le_of_ble_eq_true rfl) (sk_124 hs34) (sn hs34 (by decide)) (by decide) rfl (by decide +kernel) hC38 ?_
          refine E_aload_n 0 dX12_stock_63 rfl rfl ?_
          refine E_getR 142 dX12_stock_64 fl_X12_73 rfl (sk_124 hs39) (sn hs39 (by decide)) (sr_124_37 hs39) ?_
          refine E_iload_n 1 dX12_stock_67 rfl rfl ?_
          obtain ⟨g40, h⟩ := h
          refine E_iald2 (x1.toNatClampNeg) dX12_stock_68 (sk_142 hs39) (sn hs39 (by decide)) g40 rfl ?_
          obtain ⟨rfl, rfl⟩ := h
          exact E_iret dX12_stock_69 rfl
        · rw [if_pos c] at h
          refine E_iconst (-1 : Int32) dX12_stock_44 (by decide) ?_
          obtain ⟨rfl, rfl⟩ := h
          exact E_iret dX12_stock_45 rfl
def W_X12_built_0 (X : Sx) (l : Launch) (D : Nat) (x1 : Int32) (x2 : Int32) (x3 : Int32) (x4 : Int32) (σ : AH) (r : Option Value) (σ' : AH) : Prop := ∃ d1 : Nat, ∃ v6 : Int32, ∃ σ2 : AH, d1 + 1 ≤ D ∧ Call X l m_X12_isPlot d1 [.ref 124, .int x1] (sI σ 124 0 (0 : Int32)) (some (.int v6)) σ2 ∧ (if v6 = 0 then (r = some (.int (-1 : Int32)) ∧ σ' = σ2) else ∃ d7 : Nat, ∃ v12 : Int32, ∃ σ8 : AH, d7 + 1 ≤ D ∧ Call X l m_X12_isWeek d7 [.int x2] σ2 (some (.int v12)) σ8 ∧ (if v12 = 0 then (r = some (.int (-1 : Int32)) ∧ σ' = σ8) else ∃ d13 : Nat, ∃ v18 : Int32, ∃ σ14 : AH, d13 + 1 ≤ D ∧ Call X l m_X12_in d13 [.long (x3).toInt64, .long (0 : Int64), .long (26 : Int64)] σ8 (some (.int v18)) σ14 ∧ (if v18 = 0 then (r = some (.int (-1 : Int32)) ∧ σ' = σ14) else ∃ d19 : Nat, ∃ v24 : Int32, ∃ σ20 : AH, d19 + 1 ≤ D ∧ Call X l m_X12_in d19 [.long (x4).toInt64, .long (0 : Int64), .long (6 : Int64)] σ14 (some (.int v24)) σ20 ∧ (if v24 = 0 then (r = some (.int (-1 : Int32)) ∧ σ' = σ20) else ∃ d25 : Nat, ∃ σ26 : AH, d25 + 1 ≤ D ∧ Call X l m_X12_runAll d25 [.ref 124, .int x2, .int x3] σ20 none σ26 ∧ (if (3 : Int32) ≤ x4 then (if (6 : Int32) ≤ x4 then vp_in x1 30 ∧ (if (gI σ26 141 x1.toNatClampNeg) = 0 then (r = some (.int (0 : Int32)) ∧ σ' = σ26) else (r = some (.int (1 : Int32)) ∧ σ' = σ26)) else vp_in ((((3 : Int32) * x1) + x4) - (3 : Int32)) 90 ∧ (r = some (.int (gI σ26 148 ((((3 : Int32) * x1) + x4) - (3 : Int32)).toNatClampNeg)) ∧ σ' = σ26)) else vp_in (((3 : Int32) * x1) + x4) 90 ∧ (r = some (.int (gI σ26 149 (((3 : Int32) * x1) + x4).toNatClampNeg)) ∧ σ' = σ26))))))
set_option maxRecDepth 100000 in
theorem w_X12_built_0 {X : Sx} {l : Launch} {D : Nat} {x1 : Int32} {x2 : Int32} {x3 : Int32} {x4 : Int32} {σ : AH} {r : Option Value} {σ' : AH} (hs : Sh σ) (h : W_X12_built_0 X l D x1 x2 x3 x4 σ r σ') : E X l m_X12_built D 0 [(0, .ref 124), (1, .int x1), (2, .int x2), (3, .int x3), (4, .int x4)] [] σ r σ' := by
  unfold W_X12_built_0 at h
  refine E_aload_n 0 dX12_built_0 rfl rfl ?_
  refine E_iconst (0 : Int32) dX12_built_1 (by decide) ?_
  refine E_putI dX12_built_2 fl_X12_145 rfl (Or.inl rfl) (sk_124 hs) (sn hs (by decide)) (Or.inl (by decide)) rfl rfl ?_
  refine E_aload_n 0 dX12_built_5 rfl rfl ?_
  refine E_iload_n 1 dX12_built_6 rfl rfl ?_
  obtain ⟨d1, v6, σ2, hD3, hC4, h⟩ := h
  have hs5 := hC4.1.2.2.2.1 hs
  refine E_callV (As := [.int x1]) (rest := []) (r1 := (some (.int v6))) (b := 124) dX12_built_7 ok_X12_isPlot in_X12_isPlot se_X12_isPlot ml_X12_471 hD3 rfl rfl (Nat.le_of_ble_eq_true rfl) (sk_124 hs) (sn hs (by decide)) (by decide) rfl (by decide +kernel) hC4 ?_
  refine E_if_eq 45 dX12_built_10 (by decide) (fun c => ?_) (fun c => ?_)
  · rw [if_pos c] at h
    refine E_iconst (-1 : Int32) dX12_built_45 (by decide) ?_
    obtain ⟨rfl, rfl⟩ := h
    exact E_iret dX12_built_46 rfl
  · rw [if_neg c] at h
    refine E_iload_n 2 dX12_built_13 rfl rfl ?_
    obtain ⟨d7, v12, σ8, hD9, hC10, h⟩ := h
    have hs11 := hC10.1.2.2.2.1 hs5
    refine E_callS (As := [.int x2]) (rest := []) (r1 := (some (.int v12))) dX12_built_14 ok_X12_isWeek is_X12_isWeek ml_X12_387 hD9 rfl rfl (Nat.le_of_ble_eq_true rfl) (by decide +kernel) hC10 ?_
    refine E_if_eq 45 dX12_built_17 (by decide) (fun c => ?_) (fun c => ?_)
    · rw [if_pos c] at h
      refine E_iconst (-1 : Int32) dX12_built_45 (by decide) ?_
      obtain ⟨rfl, rfl⟩ := h
      exact E_iret dX12_built_46 rfl
    · rw [if_neg c] at h
      refine E_iload_n 3 dX12_built_20 rfl rfl ?_
      refine E_i2l dX12_built_21 ?_
      refine E_lconst (0 : Int64) dX12_built_22 (by decide) ?_
      refine E_ldc2 (26 : Int64) dX12_built_23 cl_X12_523 ?_
      obtain ⟨d13, v18, σ14, hD15, hC16, h⟩ := h
      have hs17 := hC16.1.2.2.2.1 hs11
      refine E_callS (As := [.long (x3).toInt64, .long (0 : Int64), .long (26 : Int64)]) (rest := []) (r1 := (some (.int v18))) dX12_built_26 ok_X12_in is_X12_in ml_X12_153 hD15 rfl rfl (Nat.le_of_ble_eq_true rfl) (by decide +kernel) hC16 ?_
      refine E_if_eq 45 dX12_built_29 (by decide) (fun c => ?_) (fun c => ?_)
      · rw [if_pos c] at h
        refine E_iconst (-1 : Int32) dX12_built_45 (by decide) ?_
        obtain ⟨rfl, rfl⟩ := h
        exact E_iret dX12_built_46 rfl
      · rw [if_neg c] at h
        refine E_iload 4 dX12_built_32 rfl ?_
        refine E_i2l dX12_built_34 ?_
        refine E_lconst (0 : Int64) dX12_built_35 (by decide) ?_
        refine E_ldc2 (6 : Int64) dX12_built_36 cl_X12_450 ?_
        obtain ⟨d19, v24, σ20, hD21, hC22, h⟩ := h
        have hs23 := hC22.1.2.2.2.1 hs17
        refine E_callS (As := [.long (x4).toInt64, .long (0 : Int64), .long (6 : Int64)]) (rest := []) (r1 := (some (.int v24))) dX12_built_39 ok_X12_in is_X12_in ml_X12_153 hD21 rfl rfl (Nat.le_of_ble_eq_true rfl) (by decide +kernel) hC22 ?_
        refine E_if_ne 47 dX12_built_42 (by decide) (fun c => ?_) (fun c => ?_)
        · rw [if_neg c] at h
          refine E_aload_n 0 dX12_built_47 rfl rfl ?_
          refine E_iload_n 2 dX12_built_48 rfl rfl ?_
          refine E_iload_n 3 dX12_built_49 rfl rfl ?_
          obtain ⟨d25, σ26, hD27, hC28, h⟩ := h
          have hs29 := hC28.1.2.2.2.1 hs23
          refine E_callV (As := [.int x2, .int x3]) (rest := []) (r1 := none) (b := 124) dX12_built_50 ok_X12_runAll in_X12_runAll se_X12_runAll ml_X12_525 hD27 rfl rfl (Nat.le_of_ble_eq_true rfl) (sk_124 hs23) (sn hs23 (by decide)) (by decide) rfl (by decide +kernel) hC28 ?_
          refine E_iload 4 dX12_built_53 rfl ?_
          refine E_iconst (3 : Int32) dX12_built_55 (by decide) ?_
          refine E_icmp_ge 73 dX12_built_56 (by decide) (fun c => ?_) (fun c => ?_)
          · rw [if_pos c] at h
            refine E_iload 4 dX12_built_73 rfl ?_
            refine E_bipush (6 : Int32) dX12_built_75 (by decide) ?_
            refine E_icmp_ge 96 dX12_built_77 (by decide) (fun c => ?_) (fun c => ?_)
            · rw [if_pos c] at h
              refine E_aload_n 0 dX12_built_96 rfl rfl ?_
              refine E_getR 141 dX12_built_97 fl_X12_70 rfl (sk_124 hs29) (sn hs29 (by decide)) (sr_124_36 hs29) ?_
              refine E_iload_n 1 dX12_built_100 rfl rfl ?_
              obtain ⟨g30, h⟩ := h
              refine E_zald2 (x1.toNatClampNeg) dX12_built_101 (sk_141 hs29) (sn hs29 (by decide)) g30 rfl ?_
              refine E_if_eq 109 dX12_built_102 (by decide) (fun c => ?_) (fun c => ?_)
              · rw [if_pos c] at h
                refine E_iconst (0 : Int32) dX12_built_109 (by decide) ?_
                obtain ⟨rfl, rfl⟩ := h
                exact E_iret dX12_built_110 rfl
              · rw [if_neg c] at h
                refine E_iconst (1 : Int32) dX12_built_105 (by decide) ?_
                refine E_goto 110 dX12_built_106 (by decide) ?_
                obtain ⟨rfl, rfl⟩ := h
                exact E_iret dX12_built_110 rfl
            · rw [if_neg c] at h
              refine E_aload_n 0 dX12_built_80 rfl rfl ?_
              refine E_getR 148 dX12_built_81 fl_X12_91 rfl (sk_124 hs29) (sn hs29 (by decide)) (sr_124_43 hs29) ?_
              refine E_iconst (3 : Int32) dX12_built_84 (by decide) ?_
              refine E_iload_n 1 dX12_built_85 rfl rfl ?_
              refine E_imul dX12_built_86 ?_
              refine E_iload 4 dX12_built_87 rfl ?_
              refine E_iadd dX12_built_89 ?_
              refine E_iconst (3 : Int32) dX12_built_90 (by decide) ?_
              refine E_isub dX12_built_91 ?_
              obtain ⟨g31, h⟩ := h
              refine E_iald2 (((((3 : Int32) * x1) + x4) - (3 : Int32)).toNatClampNeg) dX12_built_92 (sk_148 hs29) (sn hs29 (by decide)) g31 rfl ?_
              refine E_goto 110 dX12_built_93 (by decide) ?_
              obtain ⟨rfl, rfl⟩ := h
              exact E_iret dX12_built_110 rfl
          · rw [if_neg c] at h
            refine E_aload_n 0 dX12_built_59 rfl rfl ?_
            refine E_getR 149 dX12_built_60 fl_X12_94 rfl (sk_124 hs29) (sn hs29 (by decide)) (sr_124_44 hs29) ?_
            refine E_iconst (3 : Int32) dX12_built_63 (by decide) ?_
            refine E_iload_n 1 dX12_built_64 rfl rfl ?_
            refine E_imul dX12_built_65 ?_
            refine E_iload 4 dX12_built_66 rfl ?_
            refine E_iadd dX12_built_68 ?_
            obtain ⟨g32, h⟩ := h
            refine E_iald2 ((((3 : Int32) * x1) + x4).toNatClampNeg) dX12_built_69 (sk_149 hs29) (sn hs29 (by decide)) g32 rfl ?_
            refine E_goto 110 dX12_built_70 (by decide) ?_
            obtain ⟨rfl, rfl⟩ := h
            exact E_iret dX12_built_110 rfl
        · rw [if_pos c] at h
          refine E_iconst (-1 : Int32) dX12_built_45 (by decide) ?_
          obtain ⟨rfl, rfl⟩ := h
          exact E_iret dX12_built_46 rfl
def W_X12_lacks_110 (X : Sx) (l : Launch) (D : Nat) (σ : AH) (r : Option Value) (σ' : AH) : Prop := (r = some (.int (3 : Int32)) ∧ σ' = σ)
set_option maxRecDepth 100000 in
theorem w_X12_lacks_110 {X : Sx} {l : Launch} {D : Nat} {σ : AH} {r : Option Value} {σ' : AH} (hs : Sh σ) (h : W_X12_lacks_110 X l D σ r σ') : E X l m_X12_lacks D 110 [] [] σ r σ' := by
  unfold W_X12_lacks_110 at h
  refine E_iconst (3 : Int32) dX12_lacks_110 (by decide) ?_
  refine E_goto 137 dX12_lacks_111 (by decide) ?_
  obtain ⟨rfl, rfl⟩ := h
  exact E_iret dX12_lacks_137 rfl
def W_X12_lacks_132 (X : Sx) (l : Launch) (D : Nat) (σ : AH) (r : Option Value) (σ' : AH) : Prop := (r = some (.int (5 : Int32)) ∧ σ' = σ)
set_option maxRecDepth 100000 in
theorem w_X12_lacks_132 {X : Sx} {l : Launch} {D : Nat} {σ : AH} {r : Option Value} {σ' : AH} (hs : Sh σ) (h : W_X12_lacks_132 X l D σ r σ') : E X l m_X12_lacks D 132 [] [] σ r σ' := by
  unfold W_X12_lacks_132 at h
  refine E_iconst (5 : Int32) dX12_lacks_132 (by decide) ?_
  refine E_goto 137 dX12_lacks_133 (by decide) ?_
  obtain ⟨rfl, rfl⟩ := h
  exact E_iret dX12_lacks_137 rfl
def W_X12_lacks_114 (X : Sx) (l : Launch) (D : Nat) (x1 : Int32) (σ : AH) (r : Option Value) (σ' : AH) : Prop := vp_in x1 30 ∧ (if (gI σ 145 x1.toNatClampNeg) = 0 then vp_in x1 30 ∧ (if (gI σ 147 x1.toNatClampNeg) = 0 then (r = some (.int (4 : Int32)) ∧ σ' = σ) else W_X12_lacks_132 X l D σ r σ') else W_X12_lacks_132 X l D σ r σ')
set_option maxRecDepth 100000 in
theorem w_X12_lacks_114 {X : Sx} {l : Launch} {D : Nat} {x1 : Int32} {σ : AH} {r : Option Value} {σ' : AH} (hs : Sh σ) (h : W_X12_lacks_114 X l D x1 σ r σ') : E X l m_X12_lacks D 114 [(0, .ref 124), (1, .int x1)] [] σ r σ' := by
  unfold W_X12_lacks_114 at h
  refine E_aload_n 0 dX12_lacks_114 rfl rfl ?_
  refine E_getR 145 dX12_lacks_115 fl_X12_82 rfl (sk_124 hs) (sn hs (by decide)) (sr_124_40 hs) ?_
  refine E_iload_n 1 dX12_lacks_118 rfl rfl ?_
  obtain ⟨g39, h⟩ := h
  refine E_zald2 (x1.toNatClampNeg) dX12_lacks_119 (sk_145 hs) (sn hs (by decide)) g39 rfl ?_
  refine E_if_ne 132 dX12_lacks_120 (by decide) (fun c => ?_) (fun c => ?_)
  · rw [if_neg c] at h
    exact E_lv [] rfl (w_X12_lacks_132 hs h)
  · rw [if_pos c] at h
    refine E_aload_n 0 dX12_lacks_123 rfl rfl ?_
    refine E_getR 147 dX12_lacks_124 fl_X12_88 rfl (sk_124 hs) (sn hs (by decide)) (sr_124_42 hs) ?_
    refine E_iload_n 1 dX12_lacks_127 rfl rfl ?_
    obtain ⟨g40, h⟩ := h
    refine E_zald2 (x1.toNatClampNeg) dX12_lacks_128 (sk_147 hs) (sn hs (by decide)) g40 rfl ?_
    refine E_if_eq 136 dX12_lacks_129 (by decide) (fun c => ?_) (fun c => ?_)
    · rw [if_pos c] at h
      refine E_iconst (4 : Int32) dX12_lacks_136 (by decide) ?_
      obtain ⟨rfl, rfl⟩ := h
      exact E_iret dX12_lacks_137 rfl
    · rw [if_neg c] at h
      exact E_lv [] rfl (w_X12_lacks_132 hs h)
def W_X12_lacks_0 (X : Sx) (l : Launch) (D : Nat) (x1 : Int32) (x2 : Int32) (x3 : Int32) (σ : AH) (r : Option Value) (σ' : AH) : Prop := ∃ d1 : Nat, ∃ v6 : Int32, ∃ σ2 : AH, d1 + 1 ≤ D ∧ Call X l m_X12_isPlot d1 [.ref 124, .int x1] (sI σ 124 0 (0 : Int32)) (some (.int v6)) σ2 ∧ (if v6 = 0 then (r = some (.int (-1 : Int32)) ∧ σ' = σ2) else ∃ d7 : Nat, ∃ v12 : Int32, ∃ σ8 : AH, d7 + 1 ≤ D ∧ Call X l m_X12_isWeek d7 [.int x2] σ2 (some (.int v12)) σ8 ∧ (if v12 = 0 then (r = some (.int (-1 : Int32)) ∧ σ' = σ8) else ∃ d13 : Nat, ∃ v18 : Int32, ∃ σ14 : AH, d13 + 1 ≤ D ∧ Call X l m_X12_isWeek d13 [.int x3] σ8 (some (.int v18)) σ14 ∧ (if v18 = 0 then (r = some (.int (-1 : Int32)) ∧ σ' = σ14) else ∃ d19 : Nat, ∃ σ20 : AH, d19 + 1 ≤ D ∧ Call X l m_X12_knowBy d19 [.ref 124, .int x3] σ14 none σ20 ∧ ∃ d24 : Nat, ∃ σ25 : AH, d24 + 1 ≤ D ∧ Call X l m_X12_beginRun d24 [.ref 124, .int (0 : Int32)] σ20 none σ25 ∧ ∃ d29 : Nat, ∃ σ30 : AH, d29 + 1 ≤ D ∧ Call X l m_X12_goTo d29 [.ref 124, .int (0 : Int32), .int x2] σ25 none σ30 ∧ vp_in x1 30 ∧ (if (gI σ30 144 x1.toNatClampNeg) = (3 : Int32) then (r = some (.int (0 : Int32)) ∧ σ' = σ30) else vp_in x1 30 ∧ (if (gI σ30 140 x1.toNatClampNeg) = (-1 : Int32) then (r = some (.int (1 : Int32)) ∧ σ' = σ30) else vp_in x1 30 ∧ (if (gI σ30 140 x1.toNatClampNeg) ≤ x2 then vp_in x1 30 ∧ (if (gI σ30 141 x1.toNatClampNeg) = 0 then (r = some (.int (2 : Int32)) ∧ σ' = σ30) else vp_in (((23532 : Int32) + ((4 : Int32) * x1)) + (3 : Int32)) 269832 ∧ (if (gI σ30 125 (((23532 : Int32) + ((4 : Int32) * x1)) + (3 : Int32)).toNatClampNeg) ≤ x2 then W_X12_lacks_114 X l D x1 σ30 r σ' else W_X12_lacks_110 X l D σ30 r σ')) else (r = some (.int (1 : Int32)) ∧ σ' = σ30)))))))
set_option maxRecDepth 100000 in
theorem w_X12_lacks_0 {X : Sx} {l : Launch} {D : Nat} {x1 : Int32} {x2 : Int32} {x3 : Int32} {σ : AH} {r : Option Value} {σ' : AH} (hs : Sh σ) (h : W_X12_lacks_0 X l D x1 x2 x3 σ r σ') : E X l m_X12_lacks D 0 [(0, .ref 124), (1, .int x1), (2, .int x2), (3, .int x3)] [] σ r σ' := by
  unfold W_X12_lacks_0 at h
  refine E_aload_n 0 dX12_lacks_0 rfl rfl ?_
  refine E_iconst (0 : Int32) dX12_lacks_1 (by decide) ?_
  refine E_putI dX12_lacks_2 fl_X12_145 rfl (Or.inl rfl) (sk_124 hs) (sn hs (by decide)) (Or.inl (by decide)) rfl rfl ?_
  refine E_aload_n 0 dX12_lacks_5 rfl rfl ?_
  refine E_iload_n 1 dX12_lacks_6 rfl rfl ?_
  obtain ⟨d1, v6, σ2, hD3, hC4, h⟩ := h
  have hs5 := hC4.1.2.2.2.1 hs
  refine E_callV (As := [.int x1]) (rest := []) (r1 := (some (.int v6))) (b := 124) dX12_lacks_7 ok_X12_isPlot in_X12_isPlot se_X12_isPlot ml_X12_471 hD3 rfl rfl (Nat.le_of_ble_eq_true rfl) (sk_124 hs) (sn hs (by decide)) (by decide) rfl (by decide +kernel) hC4 ?_
  refine E_if_eq 27 dX12_lacks_10 (by decide) (fun c => ?_) (fun c => ?_)
  · rw [if_pos c] at h
    refine E_iconst (-1 : Int32) dX12_lacks_27 (by decide) ?_
    obtain ⟨rfl, rfl⟩ := h
    exact E_iret dX12_lacks_28 rfl
  · rw [if_neg c] at h
    refine E_iload_n 2 dX12_lacks_13 rfl rfl ?_
    obtain ⟨d7, v12, σ8, hD9, hC10, h⟩ := h
    have hs11 := hC10.1.2.2.2.1 hs5
    refine E_callS (As := [.int x2]) (rest := []) (r1 := (some (.int v12))) dX12_lacks_14 ok_X12_isWeek is_X12_isWeek ml_X12_387 hD9 rfl rfl (Nat.le_of_ble_eq_true rfl) (by decide +kernel) hC10 ?_
    refine E_if_eq 27 dX12_lacks_17 (by decide) (fun c => ?_) (fun c => ?_)
    · rw [if_pos c] at h
      refine E_iconst (-1 : Int32) dX12_lacks_27 (by decide) ?_
      obtain ⟨rfl, rfl⟩ := h
      exact E_iret dX12_lacks_28 rfl
    · rw [if_neg c] at h
      refine E_iload_n 3 dX12_lacks_20 rfl rfl ?_
      obtain ⟨d13, v18, σ14, hD15, hC16, h⟩ := h
      have hs17 := hC16.1.2.2.2.1 hs11
      refine E_callS (As := [.int x3]) (rest := []) (r1 := (some (.int v18))) dX12_lacks_21 ok_X12_isWeek is_X12_isWeek ml_X12_387 hD15 rfl rfl (Nat.le_of_ble_eq_true rfl) (by decide +kernel) hC16 ?_
      refine E_if_ne 29 dX12_lacks_24 (by decide) (fun c => ?_) (fun c => ?_)
      · rw [if_neg c] at h
        refine E_aload_n 0 dX12_lacks_29 rfl rfl ?_
        refine E_iload_n 3 dX12_lacks_30 rfl rfl ?_
        obtain ⟨d19, σ20, hD21, hC22, h⟩ := h
        have hs23 := hC22.1.2.2.2.1 hs17
        refine E_callV (As := [.int x3]) (rest := []) (r1 := none) (b := 124) dX12_lacks_31 ok_X12_knowBy in_X12_knowBy se_X12_knowBy ml_X12_406 hD21 rfl rfl (Nat.le_of_ble_eq_true rfl) (sk_124 hs17) (sn hs17 (by decide)) (by decide) rfl (by decide +kernel) hC22 ?_
        refine E_aload_n 0 dX12_lacks_34 rfl rfl ?_
        refine E_iconst (0 : Int32) dX12_lacks_35 (by decide) ?_
        obtain ⟨d24, σ25, hD26, hC27, h⟩ := h
        have hs28 := hC27.1.2.2.2.1 hs23
        refine E_callV (As := [.int (0 : Int32)]) (rest := []) (r1 := none) (b := 124) dX12_lacks_36 ok_X12_beginRun in_X12_beginRun se_X12_beginRun ml_X12_517 hD26 rfl rfl (Nat.le_of_ble_eq_true rfl) (sk_124 hs23) (sn hs23 (by decide)) (by decide) rfl (by decide +kernel) hC27 ?_
        refine E_aload_n 0 dX12_lacks_39 rfl rfl ?_
        refine E_iconst (0 : Int32) dX12_lacks_40 (by decide) ?_
        refine E_iload_n 2 dX12_lacks_41 rfl rfl ?_
        obtain ⟨d29, σ30, hD31, hC32, h⟩ := h
        have hs33 := hC32.1.2.2.2.1 hs28
        refine E_callV (As := [.int (0 : Int32), .int x2]) (rest := []) (r1 := none) (b := 124) dX12_lacks_42 ok_X12_goTo in_X12_goTo se_X12_goTo ml_X12_520 hD31 rfl rfl (Nat.le_of_ble_eq_true rfl) (sk_124 hs28) (sn hs28 (by decide)) (by decide) rfl (by decide +kernel) hC32 ?_
        refine E_aload_n 0 dX12_lacks_45 rfl rfl ?_
        refine E_getR 144 dX12_lacks_46 fl_X12_79 rfl (sk_124 hs33) (sn hs33 (by decide)) (sr_124_39 hs33) ?_
        refine E_iload_n 1 dX12_lacks_49 rfl rfl ?_
        obtain ⟨g34, h⟩ := h
        refine E_iald2 (x1.toNatClampNeg) dX12_lacks_50 (sk_144 hs33) (sn hs33 (by decide)) g34 rfl ?_
        refine E_iconst (3 : Int32) dX12_lacks_51 (by decide) ?_
        refine E_icmp_ne 57 dX12_lacks_52 (by decide) (fun c => ?_) (fun c => ?_)
        · rw [if_neg c] at h
          refine E_aload_n 0 dX12_lacks_57 rfl rfl ?_
          refine E_getR 140 dX12_lacks_58 fl_X12_67 rfl (sk_124 hs33) (sn hs33 (by decide)) (sr_124_35 hs33) ?_
          refine E_iload_n 1 dX12_lacks_61 rfl rfl ?_
          obtain ⟨g35, h⟩ := h
          refine E_iald2 (x1.toNatClampNeg) dX12_lacks_62 (sk_140 hs33) (sn hs33 (by decide)) g35 rfl ?_
          refine E_iconst (-1 : Int32) dX12_lacks_63 (by decide) ?_
          refine E_icmp_eq 77 dX12_lacks_64 (by decide) (fun c => ?_) (fun c => ?_)
          · rw [if_pos c] at h
            refine E_iconst (1 : Int32) dX12_lacks_77 (by decide) ?_
            obtain ⟨rfl, rfl⟩ := h
            exact E_iret dX12_lacks_78 rfl
          · rw [if_neg c] at h
            refine E_aload_n 0 dX12_lacks_67 rfl rfl ?_
            refine E_getR 140 dX12_lacks_68 fl_X12_67 rfl (sk_124 hs33) (sn hs33 (by decide)) (sr_124_35 hs33) ?_
            refine E_iload_n 1 dX12_lacks_71 rfl rfl ?_
            obtain ⟨g36, h⟩ := h
            refine E_iald2 (x1.toNatClampNeg) dX12_lacks_72 (sk_140 hs33) (sn hs33 (by decide)) g36 rfl ?_
            refine E_iload_n 2 dX12_lacks_73 rfl rfl ?_
            refine E_icmp_le 79 dX12_lacks_74 (by decide) (fun c => ?_) (fun c => ?_)
            · rw [if_pos c] at h
              refine E_aload_n 0 dX12_lacks_79 rfl rfl ?_
              refine E_getR 141 dX12_lacks_80 fl_X12_70 rfl (sk_124 hs33) (sn hs33 (by decide)) (sr_124_36 hs33) ?_
              refine E_iload_n 1 dX12_lacks_83 rfl rfl ?_
              obtain ⟨g37, h⟩ := h
              refine E_zald2 (x1.toNatClampNeg) dX12_lacks_84 (sk_141 hs33) (sn hs33 (by decide)) g37 rfl ?_
              refine E_if_ne 92 dX12_lacks_85 (by decide) (fun c => ?_) (fun c => ?_)
              · rw [if_neg c] at h
                refine E_aload_n 0 dX12_lacks_92 rfl rfl ?_
                refine E_getR 125 dX12_lacks_93 fl_X12_8 rfl (sk_124 hs33) (sn hs33 (by decide)) (sr_124_2 hs33) ?_
                refine E_sipush (23532 : Int32) dX12_lacks_96 (by decide) ?_
                refine E_iconst (4 : Int32) dX12_lacks_99 (by decide) ?_
                refine E_iload_n 1 dX12_lacks_100 rfl rfl ?_
                refine E_imul dX12_lacks_101 ?_
                refine E_iadd dX12_lacks_102 ?_
                refine E_iconst (3 : Int32) dX12_lacks_103 (by decide) ?_
                refine E_iadd dX12_lacks_104 ?_
                obtain ⟨g38, h⟩ := h
                refine E_iald2 ((((23532 : Int32) + ((4 : Int32) * x1)) + (3 : Int32)).toNatClampNeg) dX12_lacks_105 (sk_125 hs33) (sn hs33 (by decide)) g38 rfl ?_
                refine E_iload_n 2 dX12_lacks_106 rfl rfl ?_
                refine E_icmp_le 114 dX12_lacks_107 (by decide) (fun c => ?_) (fun c => ?_)
                · rw [if_pos c] at h
                  exact E_lv [0, 1] rfl (w_X12_lacks_114 hs33 h)
                · rw [if_neg c] at h
                  exact E_lv [] rfl (w_X12_lacks_110 hs33 h)
              · rw [if_pos c] at h
                refine E_iconst (2 : Int32) dX12_lacks_88 (by decide) ?_
                refine E_goto 137 dX12_lacks_89 (by decide) ?_
                obtain ⟨rfl, rfl⟩ := h
                exact E_iret dX12_lacks_137 rfl
            · rw [if_neg c] at h
              refine E_iconst (1 : Int32) dX12_lacks_77 (by decide) ?_
              obtain ⟨rfl, rfl⟩ := h
              exact E_iret dX12_lacks_78 rfl
        · rw [if_pos c] at h
          refine E_iconst (0 : Int32) dX12_lacks_55 (by decide) ?_
          obtain ⟨rfl, rfl⟩ := h
          exact E_iret dX12_lacks_56 rfl
      · rw [if_pos c] at h
        refine E_iconst (-1 : Int32) dX12_lacks_27 (by decide) ?_
        obtain ⟨rfl, rfl⟩ := h
        exact E_iret dX12_lacks_28 rfl
def W_X12_knock_0 (X : Sx) (l : Launch) (D : Nat) (x1 : Int32) (x2 : Int32) (σ : AH) (r : Option Value) (σ' : AH) : Prop := ∃ d1 : Nat, ∃ v6 : Int32, ∃ σ2 : AH, d1 + 1 ≤ D ∧ Call X l m_X12_isWeek d1 [.int x1] (sI σ 124 0 (0 : Int32)) (some (.int v6)) σ2 ∧ (if v6 = 0 then (r = some (.int (-2000000000 : Int32)) ∧ σ' = σ2) else ∃ d7 : Nat, ∃ v12 : Int32, ∃ σ8 : AH, d7 + 1 ≤ D ∧ Call X l m_X12_in d7 [.long (x2).toInt64, .long (1 : Int64), .long (26 : Int64)] σ2 (some (.int v12)) σ8 ∧ (if v12 = 0 then (r = some (.int (-2000000000 : Int32)) ∧ σ' = σ8) else ∃ d13 : Nat, ∃ σ14 : AH, d13 + 1 ≤ D ∧ Call X l m_X12_runAll d13 [.ref 124, .int x1, .int (0 : Int32)] σ8 none σ14 ∧ E X l m_X12_knock D 36 [(0, .ref 124), (2, .int x2), (3, .int (0 : Int32))] [] σ14 r σ'))
set_option maxRecDepth 100000 in
theorem w_X12_knock_0 {X : Sx} {l : Launch} {D : Nat} {x1 : Int32} {x2 : Int32} {σ : AH} {r : Option Value} {σ' : AH} (hs : Sh σ) (h : W_X12_knock_0 X l D x1 x2 σ r σ') : E X l m_X12_knock D 0 [(0, .ref 124), (1, .int x1), (2, .int x2)] [] σ r σ' := by
  unfold W_X12_knock_0 at h
  refine E_aload_n 0 dX12_knock_0 rfl rfl ?_
  refine E_iconst (0 : Int32) dX12_knock_1 (by decide) ?_
  refine E_putI dX12_knock_2 fl_X12_145 rfl (Or.inl rfl) (sk_124 hs) (sn hs (by decide)) (Or.inl (by decide)) rfl rfl ?_
  refine E_iload_n 1 dX12_knock_5 rfl rfl ?_
  obtain ⟨d1, v6, σ2, hD3, hC4, h⟩ := h
  have hs5 := hC4.1.2.2.2.1 hs
  refine E_callS (As := [.int x1]) (rest := []) (r1 := (some (.int v6))) dX12_knock_6 ok_X12_isWeek is_X12_isWeek ml_X12_387 hD3 rfl rfl (Nat.le_of_ble_eq_true rfl) (by decide +kernel) hC4 ?_
  refine E_if_eq 24 dX12_knock_9 (by decide) (fun c => ?_) (fun c => ?_)
  · rw [if_pos c] at h
    refine E_ldcw (-2000000000 : Int32) dX12_knock_24 ct_X12_528 ?_
    obtain ⟨rfl, rfl⟩ := h
    exact E_iret dX12_knock_27 rfl
  · rw [if_neg c] at h
    refine E_iload_n 2 dX12_knock_12 rfl rfl ?_
    refine E_i2l dX12_knock_13 ?_
    refine E_lconst (1 : Int64) dX12_knock_14 (by decide) ?_
    refine E_ldc2 (26 : Int64) dX12_knock_15 cl_X12_523 ?_
    obtain ⟨d7, v12, σ8, hD9, hC10, h⟩ := h
    have hs11 := hC10.1.2.2.2.1 hs5
    refine E_callS (As := [.long (x2).toInt64, .long (1 : Int64), .long (26 : Int64)]) (rest := []) (r1 := (some (.int v12))) dX12_knock_18 ok_X12_in is_X12_in ml_X12_153 hD9 rfl rfl (Nat.le_of_ble_eq_true rfl) (by decide +kernel) hC10 ?_
    refine E_if_ne 28 dX12_knock_21 (by decide) (fun c => ?_) (fun c => ?_)
    · rw [if_neg c] at h
      refine E_aload_n 0 dX12_knock_28 rfl rfl ?_
      refine E_iload_n 1 dX12_knock_29 rfl rfl ?_
      refine E_iconst (0 : Int32) dX12_knock_30 (by decide) ?_
      obtain ⟨d13, σ14, hD15, hC16, h⟩ := h
      have hs17 := hC16.1.2.2.2.1 hs11
      refine E_callV (As := [.int x1, .int (0 : Int32)]) (rest := []) (r1 := none) (b := 124) dX12_knock_31 ok_X12_runAll in_X12_runAll se_X12_runAll ml_X12_525 hD15 rfl rfl (Nat.le_of_ble_eq_true rfl) (sk_124 hs11) (sn hs11 (by decide)) (by decide) rfl (by decide +kernel) hC16 ?_
      refine E_iconst (0 : Int32) dX12_knock_34 (by decide) ?_
      refine E_istore_n [(3, .int (0 : Int32)), (0, .ref 124), (1, .int x1), (2, .int x2)] dX12_knock_35 rfl (by decide) rfl ?_
      exact E_lv [1, 3, 0] rfl h
    · rw [if_pos c] at h
      refine E_ldcw (-2000000000 : Int32) dX12_knock_24 ct_X12_528 ?_
      obtain ⟨rfl, rfl⟩ := h
      exact E_iret dX12_knock_27 rfl
def W_X12_knock_36 (X : Sx) (l : Launch) (D : Nat) (x2 : Int32) (x3 : Int32) (σ : AH) (r : Option Value) (σ' : AH) : Prop := (if (gI σ 125 4) ≤ x3 then ∃ d18 : Nat, ∃ σ19 : AH, d18 + 1 ≤ D ∧ Call X l m_X12_beginRun d18 [.ref 124, .int x2] σ none σ19 ∧ ∃ d23 : Nat, ∃ σ24 : AH, d23 + 1 ≤ D ∧ Call X l m_X12_goTo d23 [.ref 124, .int (0 : Int32), .int (259 : Int32)] σ19 none σ24 ∧ E X l m_X12_knock D 86 [(0, .ref 124), (3, .int (0 : Int32)), (4, .int (0 : Int32))] [] σ24 r σ' else vp_in (((3 : Int32) * x3) + (2 : Int32)) 90 ∧ vp_in x3 30 ∧ E X l m_X12_knock D 36 [(0, .ref 124), (2, .int x2), (3, .int (x3 + 1))] [] (sI σ 151 x3.toNatClampNeg (gI σ 149 (((3 : Int32) * x3) + (2 : Int32)).toNatClampNeg)) r σ')
set_option maxRecDepth 100000 in
theorem w_X12_knock_36 {X : Sx} {l : Launch} {D : Nat} {x2 : Int32} {x3 : Int32} {σ : AH} {r : Option Value} {σ' : AH} (hs : Sh σ) (h : W_X12_knock_36 X l D x2 x3 σ r σ') : E X l m_X12_knock D 36 [(0, .ref 124), (2, .int x2), (3, .int x3)] [] σ r σ' := by
  unfold W_X12_knock_36 at h
  refine E_iload_n 2 dX12_knock_36 rfl rfl ?_
  refine E_aload_n 0 dX12_knock_37 rfl rfl ?_
  refine E_getR 125 dX12_knock_38 fl_X12_8 rfl (sk_124 hs) (sn hs (by decide)) (sr_124_2 hs) ?_
  refine E_iconst (4 : Int32) dX12_knock_41 (by decide) ?_
  refine E_iald2 4 dX12_knock_42 (sk_125 hs) (sn hs (by decide)) (vp_lit (by decide)) (by decide) ?_
  refine E_icmp_ge 68 dX12_knock_43 (by decide) (fun c => ?_) (fun c => ?_)
  · rw [if_pos c] at h
    refine E_aload_n 0 dX12_knock_68 rfl rfl ?_
    refine E_iload_n 1 dX12_knock_69 rfl rfl ?_
    obtain ⟨d18, σ19, hD20, hC21, h⟩ := h
    have hs22 := hC21.1.2.2.2.1 hs
    refine E_callV (As := [.int x2]) (rest := []) (r1 := none) (b := 124) dX12_knock_70 ok_X12_beginRun in_X12_beginRun se_X12_beginRun ml_X12_517 hD20 rfl rfl (Nat.le_of_ble_eq_true rfl) (sk_124 hs) (sn hs (by decide)) (by decide) rfl (by decide +kernel) hC21 ?_
    refine E_aload_n 0 dX12_knock_73 rfl rfl ?_
    refine E_iconst (0 : Int32) dX12_knock_74 (by decide) ?_
    refine E_sipush (259 : Int32) dX12_knock_75 (by decide) ?_
    obtain ⟨d23, σ24, hD25, hC26, h⟩ := h
    have hs27 := hC26.1.2.2.2.1 hs22
    refine E_callV (As := [.int (0 : Int32), .int (259 : Int32)]) (rest := []) (r1 := none) (b := 124) dX12_knock_78 ok_X12_goTo in_X12_goTo se_X12_goTo ml_X12_520 hD25 rfl rfl (Nat.le_of_ble_eq_true rfl) (sk_124 hs22) (sn hs22 (by decide)) (by decide) rfl (by decide +kernel) hC26 ?_
    refine E_iconst (0 : Int32) dX12_knock_81 (by decide) ?_
    refine E_istore_n [(3, .int (0 : Int32)), (0, .ref 124), (2, .int x2)] dX12_knock_82 rfl (by decide) rfl ?_
    refine E_iconst (0 : Int32) dX12_knock_83 (by decide) ?_
    refine E_istore [(4, .int (0 : Int32)), (3, .int (0 : Int32)), (0, .ref 124), (2, .int x2)] dX12_knock_84 (by decide) rfl ?_
    exact E_lv [2, 1, 0] rfl h
  · rw [if_neg c] at h
    refine E_aload_n 0 dX12_knock_46 rfl rfl ?_
    refine E_getR 151 dX12_knock_47 fl_X12_100 rfl (sk_124 hs) (sn hs (by decide)) (sr_124_47 hs) ?_
    refine E_iload_n 2 dX12_knock_50 rfl rfl ?_
    refine E_aload_n 0 dX12_knock_51 rfl rfl ?_
    refine E_getR 149 dX12_knock_52 fl_X12_94 rfl (sk_124 hs) (sn hs (by decide)) (sr_124_44 hs) ?_
    refine E_iconst (3 : Int32) dX12_knock_55 (by decide) ?_
    refine E_iload_n 2 dX12_knock_56 rfl rfl ?_
    refine E_imul dX12_knock_57 ?_
    refine E_iconst (2 : Int32) dX12_knock_58 (by decide) ?_
    refine E_iadd dX12_knock_59 ?_
    obtain ⟨g28, h⟩ := h
    refine E_iald2 ((((3 : Int32) * x3) + (2 : Int32)).toNatClampNeg) dX12_knock_60 (sk_149 hs) (sn hs (by decide)) g28 rfl ?_
    obtain ⟨g29, h⟩ := h
    refine E_iast2 (x3.toNatClampNeg) dX12_knock_61 (sk_151 hs) (sn hs (by decide)) (Or.inl (by decide)) g29 rfl ?_
    refine E_iinc 2 (x3 + 1) [(3, .int (x3 + 1)), (0, .ref 124), (2, .int x2)] dX12_knock_62 rfl (congrArg (x3 + ·) (by decide : Int32.ofInt 1 = 1)) (by decide) rfl ?_
    refine E_goto 36 dX12_knock_65 (by decide) ?_
    exact E_lv [1, 2, 0] rfl h
def W_X12_knock_151 (X : Sx) (l : Launch) (D : Nat) (x3 : Int32) (x4 : Int32) (σ : AH) (r : Option Value) (σ' : AH) : Prop := E X l m_X12_knock D 86 [(0, .ref 124), (3, .int x3), (4, .int (x4 + 1))] [] σ r σ'
set_option maxRecDepth 100000 in
theorem w_X12_knock_151 {X : Sx} {l : Launch} {D : Nat} {x3 : Int32} {x4 : Int32} {σ : AH} {r : Option Value} {σ' : AH} (hs : Sh σ) (h : W_X12_knock_151 X l D x3 x4 σ r σ') : E X l m_X12_knock D 151 [(0, .ref 124), (3, .int x3), (4, .int x4)] [] σ r σ' := by
  unfold W_X12_knock_151 at h
  refine E_iinc 2 (x4 + 1) [(4, .int (x4 + 1)), (0, .ref 124), (3, .int x3)] dX12_knock_151 rfl (congrArg (x4 + ·) (by decide : Int32.ofInt 1 = 1)) (by decide) rfl ?_
  refine E_goto 86 dX12_knock_154 (by decide) ?_
  exact E_lv [1, 2, 0] rfl h
def W_X12_knock_141 (X : Sx) (l : Launch) (D : Nat) (x4 : Int32) (y0 : Int32) (y1 : Int32) (σ : AH) (r : Option Value) (σ' : AH) : Prop := vp_in x4 30 ∧ W_X12_knock_151 X l D (y1 + (y0 - (gI σ 151 x4.toNatClampNeg))) x4 σ r σ'
set_option maxRecDepth 100000 in
theorem w_X12_knock_141 {X : Sx} {l : Launch} {D : Nat} {x4 : Int32} {y0 : Int32} {y1 : Int32} {σ : AH} {r : Option Value} {σ' : AH} (hs : Sh σ) (h : W_X12_knock_141 X l D x4 y0 y1 σ r σ') : E X l m_X12_knock D 141 [(0, .ref 124), (4, .int x4)] [.int y0, .int y1] σ r σ' := by
  unfold W_X12_knock_141 at h
  refine E_aload_n 0 dX12_knock_141 rfl rfl ?_
  refine E_getR 151 dX12_knock_142 fl_X12_100 rfl (sk_124 hs) (sn hs (by decide)) (sr_124_47 hs) ?_
  refine E_iload 1 dX12_knock_145 rfl ?_
  obtain ⟨g33, h⟩ := h
  refine E_iald2 (x4.toNatClampNeg) dX12_knock_147 (sk_151 hs) (sn hs (by decide)) g33 rfl ?_
  refine E_isub dX12_knock_148 ?_
  refine E_iadd dX12_knock_149 ?_
  refine E_istore_n [(3, .int (y1 + (y0 - (gI σ 151 x4.toNatClampNeg)))), (0, .ref 124), (4, .int x4)] dX12_knock_150 rfl (by decide) rfl ?_
  exact E_lv [1, 0, 2] rfl (w_X12_knock_151 hs h)
def W_X12_knock_86 (X : Sx) (l : Launch) (D : Nat) (x3 : Int32) (x4 : Int32) (σ : AH) (r : Option Value) (σ' : AH) : Prop := (if (gI σ 125 4) ≤ x4 then (r = some (.int x3) ∧ σ' = σ) else vp_in x4 30 ∧ (if (gI σ 151 x4.toNatClampNeg) = (-1 : Int32) then W_X12_knock_151 X l D x3 x4 σ r σ' else vp_in (((3 : Int32) * x4) + (2 : Int32)) 90 ∧ (if (gI σ 149 (((3 : Int32) * x4) + (2 : Int32)).toNatClampNeg) = (-1 : Int32) then W_X12_knock_141 X l D x4 (260 : Int32) x3 σ r σ' else vp_in (((3 : Int32) * x4) + (2 : Int32)) 90 ∧ W_X12_knock_141 X l D x4 (gI σ 149 (((3 : Int32) * x4) + (2 : Int32)).toNatClampNeg) x3 σ r σ')))
set_option maxRecDepth 100000 in
theorem w_X12_knock_86 {X : Sx} {l : Launch} {D : Nat} {x3 : Int32} {x4 : Int32} {σ : AH} {r : Option Value} {σ' : AH} (hs : Sh σ) (h : W_X12_knock_86 X l D x3 x4 σ r σ') : E X l m_X12_knock D 86 [(0, .ref 124), (3, .int x3), (4, .int x4)] [] σ r σ' := by
  unfold W_X12_knock_86 at h
  refine E_iload 2 dX12_knock_86 rfl ?_
  refine E_aload_n 0 dX12_knock_88 rfl rfl ?_
  refine E_getR 125 dX12_knock_89 fl_X12_8 rfl (sk_124 hs) (sn hs (by decide)) (sr_124_2 hs) ?_
  refine E_iconst (4 : Int32) dX12_knock_92 (by decide) ?_
  refine E_iald2 4 dX12_knock_93 (sk_125 hs) (sn hs (by decide)) (vp_lit (by decide)) (by decide) ?_
  refine E_icmp_ge 157 dX12_knock_94 (by decide) (fun c => ?_) (fun c => ?_)
  · rw [if_pos c] at h
    refine E_iload_n 1 dX12_knock_157 rfl rfl ?_
    obtain ⟨rfl, rfl⟩ := h
    exact E_iret dX12_knock_158 rfl
  · rw [if_neg c] at h
    refine E_aload_n 0 dX12_knock_97 rfl rfl ?_
    refine E_getR 151 dX12_knock_98 fl_X12_100 rfl (sk_124 hs) (sn hs (by decide)) (sr_124_47 hs) ?_
    refine E_iload 2 dX12_knock_101 rfl ?_
    obtain ⟨g30, h⟩ := h
    refine E_iald2 (x4.toNatClampNeg) dX12_knock_103 (sk_151 hs) (sn hs (by decide)) g30 rfl ?_
    refine E_iconst (-1 : Int32) dX12_knock_104 (by decide) ?_
    refine E_icmp_eq 151 dX12_knock_105 (by decide) (fun c => ?_) (fun c => ?_)
    · rw [if_pos c] at h
      exact E_lv [0, 1, 2] rfl (w_X12_knock_151 hs h)
    · rw [if_neg c] at h
      refine E_iload_n 1 dX12_knock_108 rfl rfl ?_
      refine E_aload_n 0 dX12_knock_109 rfl rfl ?_
      refine E_getR 149 dX12_knock_110 fl_X12_94 rfl (sk_124 hs) (sn hs (by decide)) (sr_124_44 hs) ?_
      refine E_iconst (3 : Int32) dX12_knock_113 (by decide) ?_
      refine E_iload 2 dX12_knock_114 rfl ?_
      refine E_imul dX12_knock_116 ?_
      refine E_iconst (2 : Int32) dX12_knock_117 (by decide) ?_
      refine E_iadd dX12_knock_118 ?_
      obtain ⟨g31, h⟩ := h
      refine E_iald2 ((((3 : Int32) * x4) + (2 : Int32)).toNatClampNeg) dX12_knock_119 (sk_149 hs) (sn hs (by decide)) g31 rfl ?_
      refine E_iconst (-1 : Int32) dX12_knock_120 (by decide) ?_
      refine E_icmp_ne 130 dX12_knock_121 (by decide) (fun c => ?_) (fun c => ?_)
      · rw [if_neg c] at h
        refine E_aload_n 0 dX12_knock_130 rfl rfl ?_
        refine E_getR 149 dX12_knock_131 fl_X12_94 rfl (sk_124 hs) (sn hs (by decide)) (sr_124_44 hs) ?_
        refine E_iconst (3 : Int32) dX12_knock_134 (by decide) ?_
        refine E_iload 2 dX12_knock_135 rfl ?_
        refine E_imul dX12_knock_137 ?_
        refine E_iconst (2 : Int32) dX12_knock_138 (by decide) ?_
        refine E_iadd dX12_knock_139 ?_
        obtain ⟨g32, h⟩ := h
        refine E_iald2 ((((3 : Int32) * x4) + (2 : Int32)).toNatClampNeg) dX12_knock_140 (sk_149 hs) (sn hs (by decide)) g32 rfl ?_
        exact E_lv [0, 2] rfl (w_X12_knock_141 hs h)
      · rw [if_pos c] at h
        refine E_sipush (260 : Int32) dX12_knock_124 (by decide) ?_
        refine E_goto 141 dX12_knock_127 (by decide) ?_
        exact E_lv [0, 2] rfl (w_X12_knock_141 hs h)
def W_X12_wish_0 (X : Sx) (l : Launch) (D : Nat) (x1 : Int32) (σ : AH) (r : Option Value) (σ' : AH) : Prop := ∃ d1 : Nat, ∃ v6 : Int32, ∃ σ2 : AH, d1 + 1 ≤ D ∧ Call X l m_X12_isPlot d1 [.ref 124, .int x1] (sI σ 124 0 (0 : Int32)) (some (.int v6)) σ2 ∧ (if v6 = 0 then ∃ d7 : Nat, ∃ v12 : Int32, ∃ σ8 : AH, d7 + 1 ≤ D ∧ Call X l m_X12_told d7 [.ref 124, .int (-2 : Int32)] σ2 (some (.int v12)) σ8 ∧ (r = some (.int v12) ∧ σ' = σ8) else E X l m_X12_wish D 22 [(0, .ref 124), (1, .int x1), (2, .int (0 : Int32))] [] σ2 r σ')
set_option maxRecDepth 100000 in
theorem w_X12_wish_0 {X : Sx} {l : Launch} {D : Nat} {x1 : Int32} {σ : AH} {r : Option Value} {σ' : AH} (hs : Sh σ) (h : W_X12_wish_0 X l D x1 σ r σ') : E X l m_X12_wish D 0 [(0, .ref 124), (1, .int x1)] [] σ r σ' := by
  unfold W_X12_wish_0 at h
  refine E_aload_n 0 dX12_wish_0 rfl rfl ?_
  refine E_iconst (0 : Int32) dX12_wish_1 (by decide) ?_
  refine E_putI dX12_wish_2 fl_X12_145 rfl (Or.inl rfl) (sk_124 hs) (sn hs (by decide)) (Or.inl (by decide)) rfl rfl ?_
  refine E_aload_n 0 dX12_wish_5 rfl rfl ?_
  refine E_iload_n 1 dX12_wish_6 rfl rfl ?_
  obtain ⟨d1, v6, σ2, hD3, hC4, h⟩ := h
  have hs5 := hC4.1.2.2.2.1 hs
  refine E_callV (As := [.int x1]) (rest := []) (r1 := (some (.int v6))) (b := 124) dX12_wish_7 ok_X12_isPlot in_X12_isPlot se_X12_isPlot ml_X12_471 hD3 rfl rfl (Nat.le_of_ble_eq_true rfl) (sk_124 hs) (sn hs (by decide)) (by decide) rfl (by decide +kernel) hC4 ?_
  refine E_if_ne 20 dX12_wish_10 (by decide) (fun c => ?_) (fun c => ?_)
  · rw [if_neg c] at h
    refine E_iconst (0 : Int32) dX12_wish_20 (by decide) ?_
    refine E_istore_n [(2, .int (0 : Int32)), (0, .ref 124), (1, .int x1)] dX12_wish_21 rfl (by decide) rfl ?_
    exact E_lv [1, 2, 0] rfl h
  · rw [if_pos c] at h
    refine E_aload_n 0 dX12_wish_13 rfl rfl ?_
    refine E_bipush (-2 : Int32) dX12_wish_14 (by decide) ?_
    obtain ⟨d7, v12, σ8, hD9, hC10, h⟩ := h
    have hs11 := hC10.1.2.2.2.1 hs5
    refine E_callV (As := [.int (-2 : Int32)]) (rest := []) (r1 := (some (.int v12))) (b := 124) dX12_wish_16 ok_X12_told in_X12_told se_X12_told ml_X12_163 hD9 rfl rfl (Nat.le_of_ble_eq_true rfl) (sk_124 hs5) (sn hs5 (by decide)) (by decide) rfl (by decide +kernel) hC10 ?_
    obtain ⟨rfl, rfl⟩ := h
    exact E_iret dX12_wish_19 rfl
def W_X12_wish_22 (X : Sx) (l : Launch) (D : Nat) (x1 : Int32) (x2 : Int32) (σ : AH) (r : Option Value) (σ' : AH) : Prop := (if (gI σ 125 5) ≤ x2 then E X l m_X12_wish D 63 [(0, .ref 124), (1, .int x1), (2, .int (0 : Int32))] [] σ r σ' else vp_in ((23652 : Int32) + ((3 : Int32) * x2)) 269832 ∧ (if (gI σ 125 ((23652 : Int32) + ((3 : Int32) * x2)).toNatClampNeg) = x1 then ∃ d14 : Nat, ∃ v19 : Int32, ∃ σ15 : AH, d14 + 1 ≤ D ∧ Call X l m_X12_told d14 [.ref 124, .int (-3 : Int32)] σ (some (.int v19)) σ15 ∧ (r = some (.int v19) ∧ σ' = σ15) else E X l m_X12_wish D 22 [(0, .ref 124), (1, .int x1), (2, .int (x2 + 1))] [] σ r σ'))
set_option maxRecDepth 100000 in
theorem w_X12_wish_22 {X : Sx} {l : Launch} {D : Nat} {x1 : Int32} {x2 : Int32} {σ : AH} {r : Option Value} {σ' : AH} (hs : Sh σ) (h : W_X12_wish_22 X l D x1 x2 σ r σ') : E X l m_X12_wish D 22 [(0, .ref 124), (1, .int x1), (2, .int x2)] [] σ r σ' := by
  unfold W_X12_wish_22 at h
  refine E_iload_n 2 dX12_wish_22 rfl rfl ?_
  refine E_aload_n 0 dX12_wish_23 rfl rfl ?_
  refine E_getR 125 dX12_wish_24 fl_X12_8 rfl (sk_124 hs) (sn hs (by decide)) (sr_124_2 hs) ?_
  refine E_iconst (5 : Int32) dX12_wish_27 (by decide) ?_
  refine E_iald2 5 dX12_wish_28 (sk_125 hs) (sn hs (by decide)) (vp_lit (by decide)) (by decide) ?_
  refine E_icmp_ge 61 dX12_wish_29 (by decide) (fun c => ?_) (fun c => ?_)
  · rw [if_pos c] at h
    refine E_iconst (0 : Int32) dX12_wish_61 (by decide) ?_
    refine E_istore_n [(2, .int (0 : Int32)), (0, .ref 124), (1, .int x1)] dX12_wish_62 rfl (by decide) rfl ?_
    exact E_lv [1, 2, 0] rfl h
  · rw [if_neg c] at h
    refine E_aload_n 0 dX12_wish_32 rfl rfl ?_
    refine E_getR 125 dX12_wish_33 fl_X12_8 rfl (sk_124 hs) (sn hs (by decide)) (sr_124_2 hs) ?_
    refine E_sipush (23652 : Int32) dX12_wish_36 (by decide) ?_
    refine E_iconst (3 : Int32) dX12_wish_39 (by decide) ?_
    refine E_iload_n 2 dX12_wish_40 rfl rfl ?_
    refine E_imul dX12_wish_41 ?_
    refine E_iadd dX12_wish_42 ?_
    obtain ⟨g13, h⟩ := h
    refine E_iald2 (((23652 : Int32) + ((3 : Int32) * x2)).toNatClampNeg) dX12_wish_43 (sk_125 hs) (sn hs (by decide)) g13 rfl ?_
    refine E_iload_n 1 dX12_wish_44 rfl rfl ?_
    refine E_icmp_ne 55 dX12_wish_45 (by decide) (fun c => ?_) (fun c => ?_)
    · rw [if_neg c] at h
      refine E_iinc 2 (x2 + 1) [(2, .int (x2 + 1)), (0, .ref 124), (1, .int x1)] dX12_wish_55 rfl (congrArg (x2 + ·) (by decide : Int32.ofInt 1 = 1)) (by decide) rfl ?_
      refine E_goto 22 dX12_wish_58 (by decide) ?_
      exact E_lv [1, 2, 0] rfl h
    · rw [if_pos c] at h
      refine E_aload_n 0 dX12_wish_48 rfl rfl ?_
      refine E_bipush (-3 : Int32) dX12_wish_49 (by decide) ?_
      obtain ⟨d14, v19, σ15, hD16, hC17, h⟩ := h
      have hs18 := hC17.1.2.2.2.1 hs
      refine E_callV (As := [.int (-3 : Int32)]) (rest := []) (r1 := (some (.int v19))) (b := 124) dX12_wish_51 ok_X12_told in_X12_told se_X12_told ml_X12_163 hD16 rfl rfl (Nat.le_of_ble_eq_true rfl) (sk_124 hs) (sn hs (by decide)) (by decide) rfl (by decide +kernel) hC17 ?_
      obtain ⟨rfl, rfl⟩ := h
      exact E_iret dX12_wish_54 rfl
def W_X12_wish_63 (X : Sx) (l : Launch) (D : Nat) (x1 : Int32) (x2 : Int32) (σ : AH) (r : Option Value) (σ' : AH) : Prop := (if (gI σ 124 48) ≤ x2 then (if (gI σ 124 48) = (6 : Int32) then ∃ d27 : Nat, ∃ v32 : Int32, ∃ σ28 : AH, d27 + 1 ≤ D ∧ Call X l m_X12_told d27 [.ref 124, .int (-5 : Int32)] σ (some (.int v32)) σ28 ∧ (r = some (.int v32) ∧ σ' = σ28) else vp_in (gI σ 124 48) 6 ∧ ∃ d21 : Nat, ∃ v26 : Int32, ∃ σ22 : AH, d21 + 1 ≤ D ∧ Call X l m_X12_told d21 [.ref 124, .int (gI (sI (sI σ 152 ((gI σ 124 48).toNatClampNeg) x1) 124 48 ((gI (sI σ 152 ((gI σ 124 48).toNatClampNeg) x1) 124 48) + (1 : Int32))) 124 48)] (sI (sI σ 152 ((gI σ 124 48).toNatClampNeg) x1) 124 48 ((gI (sI σ 152 ((gI σ 124 48).toNatClampNeg) x1) 124 48) + (1 : Int32))) (some (.int v26)) σ22 ∧ (r = some (.int v26) ∧ σ' = σ22)) else vp_in x2 6 ∧ (if (gI σ 152 x2.toNatClampNeg) = x1 then ∃ d34 : Nat, ∃ v39 : Int32, ∃ σ35 : AH, d34 + 1 ≤ D ∧ Call X l m_X12_told d34 [.ref 124, .int (-4 : Int32)] σ (some (.int v39)) σ35 ∧ (r = some (.int v39) ∧ σ' = σ35) else E X l m_X12_wish D 63 [(0, .ref 124), (1, .int x1), (2, .int (x2 + 1))] [] σ r σ'))
set_option maxRecDepth 100000 in
theorem w_X12_wish_63 {X : Sx} {l : Launch} {D : Nat} {x1 : Int32} {x2 : Int32} {σ : AH} {r : Option Value} {σ' : AH} (hs : Sh σ) (h : W_X12_wish_63 X l D x1 x2 σ r σ') : E X l m_X12_wish D 63 [(0, .ref 124), (1, .int x1), (2, .int x2)] [] σ r σ' := by
  unfold W_X12_wish_63 at h
  refine E_iload_n 2 dX12_wish_63 rfl rfl ?_
  refine E_aload_n 0 dX12_wish_64 rfl rfl ?_
  refine E_getI dX12_wish_65 fl_X12_170 rfl (sk_124 hs) (sn hs (by decide)) ?_
  refine E_icmp_ge 94 dX12_wish_68 (by decide) (fun c => ?_) (fun c => ?_)
  · rw [if_pos c] at h
    refine E_aload_n 0 dX12_wish_94 rfl rfl ?_
    refine E_getI dX12_wish_95 fl_X12_170 rfl (sk_124 hs) (sn hs (by decide)) ?_
    refine E_bipush (6 : Int32) dX12_wish_98 (by decide) ?_
    refine E_icmp_ne 110 dX12_wish_100 (by decide) (fun c => ?_) (fun c => ?_)
    · rw [if_neg c] at h
      refine E_aload_n 0 dX12_wish_110 rfl rfl ?_
      refine E_getR 152 dX12_wish_111 fl_X12_103 rfl (sk_124 hs) (sn hs (by decide)) (sr_124_49 hs) ?_
      refine E_aload_n 0 dX12_wish_114 rfl rfl ?_
      refine E_getI dX12_wish_115 fl_X12_170 rfl (sk_124 hs) (sn hs (by decide)) ?_
      refine E_iload_n 1 dX12_wish_118 rfl rfl ?_
      obtain ⟨g20, h⟩ := h
      refine E_iast2 ((gI σ 124 48).toNatClampNeg) dX12_wish_119 (sk_152 hs) (sn hs (by decide)) (Or.inl (by decide)) g20 rfl ?_
      refine E_aload_n 0 dX12_wish_120 rfl rfl ?_
      refine E_dup dX12_wish_121 rfl ?_
      refine E_getI dX12_wish_122 fl_X12_170 rfl (sk_124 hs) (sn hs (by decide)) ?_
      refine E_iconst (1 : Int32) dX12_wish_125 (by decide) ?_
      refine E_iadd dX12_wish_126 ?_
      refine E_putI dX12_wish_127 fl_X12_170 rfl (Or.inl rfl) (sk_124 hs) (sn hs (by decide)) (Or.inl (by decide)) rfl rfl ?_
      refine E_aload_n 0 dX12_wish_130 rfl rfl ?_
      refine E_aload_n 0 dX12_wish_131 rfl rfl ?_
      refine E_getI dX12_wish_132 fl_X12_170 rfl (sk_124 hs) (sn hs (by decide)) ?_
      obtain ⟨d21, v26, σ22, hD23, hC24, h⟩ := h
      have hs25 := hC24.1.2.2.2.1 hs
      refine E_callV (As := [.int (gI (sI (sI σ 152 ((gI σ 124 48).toNatClampNeg) x1) 124 48 ((gI (sI σ 152 ((gI σ 124 48).toNatClampNeg) x1) 124 48) + (1 : Int32))) 124 48)]) (rest := []) (r1 := (some (.int v26))) (b := 124) dX12_wish_135 ok_X12_told in_X12_told se_X12_told ml_X12_163 hD23 rfl rfl (Nat.le_of_ble_eq_true rfl) (sk_124 hs) (sn hs (by decide)) (by decide) rfl (by decide +kernel) hC24 ?_
      obtain ⟨rfl, rfl⟩ := h
      exact E_iret dX12_wish_138 rfl
    · rw [if_pos c] at h
      refine E_aload_n 0 dX12_wish_103 rfl rfl ?_
      refine E_bipush (-5 : Int32) dX12_wish_104 (by decide) ?_
      obtain ⟨d27, v32, σ28, hD29, hC30, h⟩ := h
      have hs31 := hC30.1.2.2.2.1 hs
      refine E_callV (As := [.int (-5 : Int32)]) (rest := []) (r1 := (some (.int v32))) (b := 124) dX12_wish_106 ok_X12_told in_X12_told se_X12_told ml_X12_163 hD29 rfl rfl (Nat.le_of_ble_eq_true rfl) (sk_124 hs) (sn hs (by decide)) (by decide) rfl (by decide +kernel) hC30 ?_
      obtain ⟨rfl, rfl⟩ := h
      exact E_iret dX12_wish_109 rfl
  · rw [if_neg c] at h
    refine E_aload_n 0 dX12_wish_71 rfl rfl ?_
    refine E_getR 152 dX12_wish_72 fl_X12_103 rfl (sk_124 hs) (sn hs (by decide)) (sr_124_49 hs) ?_
    refine E_iload_n 2 dX12_wish_75 rfl rfl ?_
    obtain ⟨g33, h⟩ := h
    refine E_iald2 (x2.toNatClampNeg) dX12_wish_76 (sk_152 hs) (sn hs (by decide)) g33 rfl ?_
    refine E_iload_n 1 dX12_wish_77 rfl rfl ?_
    refine E_icmp_ne 88 dX12_wish_78 (by decide) (fun c => ?_) (fun c => ?_)
    · rw [if_neg c] at h
      refine E_iinc 2 (x2 + 1) [(2, .int (x2 + 1)), (0, .ref 124), (1, .int x1)] dX12_wish_88 rfl (congrArg (x2 + ·) (by decide : Int32.ofInt 1 = 1)) (by decide) rfl ?_
      refine E_goto 63 dX12_wish_91 (by decide) ?_
      exact E_lv [1, 2, 0] rfl h
    · rw [if_pos c] at h
      refine E_aload_n 0 dX12_wish_81 rfl rfl ?_
      refine E_bipush (-4 : Int32) dX12_wish_82 (by decide) ?_
      obtain ⟨d34, v39, σ35, hD36, hC37, h⟩ := h
      have hs38 := hC37.1.2.2.2.1 hs
      refine E_callV (As := [.int (-4 : Int32)]) (rest := []) (r1 := (some (.int v39))) (b := 124) dX12_wish_84 ok_X12_told in_X12_told se_X12_told ml_X12_163 hD36 rfl rfl (Nat.le_of_ble_eq_true rfl) (sk_124 hs) (sn hs (by decide)) (by decide) rfl (by decide +kernel) hC37 ?_
      obtain ⟨rfl, rfl⟩ := h
      exact E_iret dX12_wish_87 rfl
def W_X12_clear_0 (X : Sx) (l : Launch) (D : Nat) (σ : AH) (r : Option Value) (σ' : AH) : Prop := (r = some (.int (gI (sI σ 124 0 (0 : Int32)) 124 48)) ∧ σ' = (sI (sI σ 124 0 (0 : Int32)) 124 48 (0 : Int32)))
set_option maxRecDepth 100000 in
theorem w_X12_clear_0 {X : Sx} {l : Launch} {D : Nat} {σ : AH} {r : Option Value} {σ' : AH} (hs : Sh σ) (h : W_X12_clear_0 X l D σ r σ') : E X l m_X12_clear D 0 [(0, .ref 124)] [] σ r σ' := by
  unfold W_X12_clear_0 at h
  refine E_aload_n 0 dX12_clear_0 rfl rfl ?_
  refine E_iconst (0 : Int32) dX12_clear_1 (by decide) ?_
  refine E_putI dX12_clear_2 fl_X12_145 rfl (Or.inl rfl) (sk_124 hs) (sn hs (by decide)) (Or.inl (by decide)) rfl rfl ?_
  refine E_aload_n 0 dX12_clear_5 rfl rfl ?_
  refine E_getI dX12_clear_6 fl_X12_170 rfl (sk_124 hs) (sn hs (by decide)) ?_
  refine E_istore_n [(1, .int (gI (sI σ 124 0 (0 : Int32)) 124 48)), (0, .ref 124)] dX12_clear_9 rfl (by decide) rfl ?_
  refine E_aload_n 1 dX12_clear_10 rfl rfl ?_
  refine E_iconst (0 : Int32) dX12_clear_11 (by decide) ?_
  refine E_putI dX12_clear_12 fl_X12_170 rfl (Or.inl rfl) (sk_124 hs) (sn hs (by decide)) (Or.inl (by decide)) rfl rfl ?_
  refine E_iload_n 0 dX12_clear_15 rfl rfl ?_
  obtain ⟨rfl, rfl⟩ := h
  exact E_iret dX12_clear_16 rfl
def W_X12_goAhead_0 (X : Sx) (l : Launch) (D : Nat) (x1 : Int32) (σ : AH) (r : Option Value) (σ' : AH) : Prop := ∃ d1 : Nat, ∃ σ2 : AH, d1 + 1 ≤ D ∧ Call X l m_X12_knowBy d1 [.ref 124, .int ((13 : Int32) * x1)] σ none σ2 ∧ ∃ d6 : Nat, ∃ σ7 : AH, d6 + 1 ≤ D ∧ Call X l m_X12_beginRun d6 [.ref 124, .int (0 : Int32)] σ2 none σ7 ∧ ∃ d11 : Nat, ∃ σ12 : AH, d11 + 1 ≤ D ∧ Call X l m_X12_goTo d11 [.ref 124, .int (0 : Int32), .int (((13 : Int32) * x1) - (1 : Int32))] σ7 none σ12 ∧ E X l m_X12_goAhead D 26 [(0, .ref 124), (2, .int (0 : Int32))] [] σ12 r σ'
set_option maxRecDepth 100000 in
theorem w_X12_goAhead_0 {X : Sx} {l : Launch} {D : Nat} {x1 : Int32} {σ : AH} {r : Option Value} {σ' : AH} (hs : Sh σ) (h : W_X12_goAhead_0 X l D x1 σ r σ') : E X l m_X12_goAhead D 0 [(0, .ref 124), (1, .int x1)] [] σ r σ' := by
  unfold W_X12_goAhead_0 at h
  refine E_aload_n 0 dX12_goAhead_0 rfl rfl ?_
  refine E_bipush (13 : Int32) dX12_goAhead_1 (by decide) ?_
  refine E_iload_n 1 dX12_goAhead_3 rfl rfl ?_
  refine E_imul dX12_goAhead_4 ?_
  obtain ⟨d1, σ2, hD3, hC4, h⟩ := h
  have hs5 := hC4.1.2.2.2.1 hs
  refine E_callV (As := [.int ((13 : Int32) * x1)]) (rest := []) (r1 := none) (b := 124) dX12_goAhead_5 ok_X12_knowBy in_X12_knowBy se_X12_knowBy ml_X12_406 hD3 rfl rfl (Nat.le_of_ble_eq_true rfl) (sk_124 hs) (sn hs (by decide)) (by decide) rfl (by decide +kernel) hC4 ?_
  refine E_aload_n 0 dX12_goAhead_8 rfl rfl ?_
  refine E_iconst (0 : Int32) dX12_goAhead_9 (by decide) ?_
  obtain ⟨d6, σ7, hD8, hC9, h⟩ := h
  have hs10 := hC9.1.2.2.2.1 hs5
  refine E_callV (As := [.int (0 : Int32)]) (rest := []) (r1 := none) (b := 124) dX12_goAhead_10 ok_X12_beginRun in_X12_beginRun se_X12_beginRun ml_X12_517 hD8 rfl rfl (Nat.le_of_ble_eq_true rfl) (sk_124 hs5) (sn hs5 (by decide)) (by decide) rfl (by decide +kernel) hC9 ?_
  refine E_aload_n 0 dX12_goAhead_13 rfl rfl ?_
  refine E_iconst (0 : Int32) dX12_goAhead_14 (by decide) ?_
  refine E_bipush (13 : Int32) dX12_goAhead_15 (by decide) ?_
  refine E_iload_n 1 dX12_goAhead_17 rfl rfl ?_
  refine E_imul dX12_goAhead_18 ?_
  refine E_iconst (1 : Int32) dX12_goAhead_19 (by decide) ?_
  refine E_isub dX12_goAhead_20 ?_
  obtain ⟨d11, σ12, hD13, hC14, h⟩ := h
  have hs15 := hC14.1.2.2.2.1 hs10
  refine E_callV (As := [.int (0 : Int32), .int (((13 : Int32) * x1) - (1 : Int32))]) (rest := []) (r1 := none) (b := 124) dX12_goAhead_21 ok_X12_goTo in_X12_goTo se_X12_goTo ml_X12_520 hD13 rfl rfl (Nat.le_of_ble_eq_true rfl) (sk_124 hs10) (sn hs10 (by decide)) (by decide) rfl (by decide +kernel) hC14 ?_
  refine E_iconst (0 : Int32) dX12_goAhead_24 (by decide) ?_
  refine E_istore_n [(2, .int (0 : Int32)), (0, .ref 124), (1, .int x1)] dX12_goAhead_25 rfl (by decide) rfl ?_
  exact E_lv [1, 0] rfl h
def W_X12_goAhead_26 (X : Sx) (l : Launch) (D : Nat) (x2 : Int32) (σ : AH) (r : Option Value) (σ' : AH) : Prop := (if (5 : Int32) ≤ x2 then E X l m_X12_goAhead D 51 [(0, .ref 124), (2, .int (0 : Int32))] [] σ r σ' else vp_in x2 5 ∧ vp_in x2 5 ∧ E X l m_X12_goAhead D 26 [(0, .ref 124), (2, .int (x2 + 1))] [] (sI σ 154 x2.toNatClampNeg (gI σ 142 x2.toNatClampNeg)) r σ')
set_option maxRecDepth 100000 in
theorem w_X12_goAhead_26 {X : Sx} {l : Launch} {D : Nat} {x2 : Int32} {σ : AH} {r : Option Value} {σ' : AH} (hs : Sh σ) (h : W_X12_goAhead_26 X l D x2 σ r σ') : E X l m_X12_goAhead D 26 [(0, .ref 124), (2, .int x2)] [] σ r σ' := by
  unfold W_X12_goAhead_26 at h
  refine E_iload_n 1 dX12_goAhead_26 rfl rfl ?_
  refine E_iconst (5 : Int32) dX12_goAhead_27 (by decide) ?_
  refine E_icmp_ge 49 dX12_goAhead_28 (by decide) (fun c => ?_) (fun c => ?_)
  · rw [if_pos c] at h
    refine E_iconst (0 : Int32) dX12_goAhead_49 (by decide) ?_
    refine E_istore_n [(2, .int (0 : Int32)), (0, .ref 124)] dX12_goAhead_50 rfl (by decide) rfl ?_
    exact E_lv [1, 0] rfl h
  · rw [if_neg c] at h
    refine E_aload_n 0 dX12_goAhead_31 rfl rfl ?_
    refine E_getR 154 dX12_goAhead_32 fl_X12_109 rfl (sk_124 hs) (sn hs (by decide)) (sr_124_54 hs) ?_
    refine E_iload_n 1 dX12_goAhead_35 rfl rfl ?_
    refine E_aload_n 0 dX12_goAhead_36 rfl rfl ?_
    refine E_getR 142 dX12_goAhead_37 fl_X12_73 rfl (sk_124 hs) (sn hs (by decide)) (sr_124_37 hs) ?_
    refine E_iload_n 1 dX12_goAhead_40 rfl rfl ?_
    obtain ⟨g16, h⟩ := h
    refine E_iald2 (x2.toNatClampNeg) dX12_goAhead_41 (sk_142 hs) (sn hs (by decide)) g16 rfl ?_
    obtain ⟨g17, h⟩ := h
    refine E_iast2 (x2.toNatClampNeg) dX12_goAhead_42 (sk_154 hs) (sn hs (by decide)) (Or.inl (by decide)) g17 rfl ?_
    refine E_iinc 1 (x2 + 1) [(2, .int (x2 + 1)), (0, .ref 124)] dX12_goAhead_43 rfl (congrArg (x2 + ·) (by decide : Int32.ofInt 1 = 1)) (by decide) rfl ?_
    refine E_goto 26 dX12_goAhead_46 (by decide) ?_
    exact E_lv [1, 0] rfl h
def W_X12_goAhead_51 (X : Sx) (l : Launch) (D : Nat) (x2 : Int32) (σ : AH) (r : Option Value) (σ' : AH) : Prop := (if (30 : Int32) ≤ x2 then E X l m_X12_goAhead D 101 [(0, .ref 124), (2, .int (0 : Int32))] [] σ r σ' else vp_in x2 30 ∧ vp_in x2 30 ∧ vp_in x2 30 ∧ vp_in x2 30 ∧ (∀ τ22 : AH, τ22 = (sI (sI σ 155 x2.toNatClampNeg (gI σ 144 x2.toNatClampNeg)) 156 x2.toNatClampNeg (vp_nar .boolean (gI (sI σ 155 x2.toNatClampNeg (gI σ 144 x2.toNatClampNeg)) 145 x2.toNatClampNeg))) → vp_in x2 30 ∧ vp_in x2 30 ∧ E X l m_X12_goAhead D 51 [(0, .ref 124), (2, .int (x2 + 1))] [] (sI τ22 157 x2.toNatClampNeg (gI τ22 146 x2.toNatClampNeg)) r σ'))
set_option maxRecDepth 100000 in
theorem w_X12_goAhead_51 {X : Sx} {l : Launch} {D : Nat} {x2 : Int32} {σ : AH} {r : Option Value} {σ' : AH} (hs : Sh σ) (h : W_X12_goAhead_51 X l D x2 σ r σ') : E X l m_X12_goAhead D 51 [(0, .ref 124), (2, .int x2)] [] σ r σ' := by
  unfold W_X12_goAhead_51 at h
  refine E_iload_n 1 dX12_goAhead_51 rfl rfl ?_
  refine E_bipush (30 : Int32) dX12_goAhead_52 (by decide) ?_
  refine E_icmp_ge 99 dX12_goAhead_54 (by decide) (fun c => ?_) (fun c => ?_)
  · rw [if_pos c] at h
    refine E_iconst (0 : Int32) dX12_goAhead_99 (by decide) ?_
    refine E_istore_n [(2, .int (0 : Int32)), (0, .ref 124)] dX12_goAhead_100 rfl (by decide) rfl ?_
    exact E_lv [1, 0] rfl h
  · rw [if_neg c] at h
    refine E_aload_n 0 dX12_goAhead_57 rfl rfl ?_
    refine E_getR 155 dX12_goAhead_58 fl_X12_112 rfl (sk_124 hs) (sn hs (by decide)) (sr_124_55 hs) ?_
    refine E_iload_n 1 dX12_goAhead_61 rfl rfl ?_
    refine E_aload_n 0 dX12_goAhead_62 rfl rfl ?_
    refine E_getR 144 dX12_goAhead_63 fl_X12_79 rfl (sk_124 hs) (sn hs (by decide)) (sr_124_39 hs) ?_
    refine E_iload_n 1 dX12_goAhead_66 rfl rfl ?_
    obtain ⟨g18, h⟩ := h
    refine E_iald2 (x2.toNatClampNeg) dX12_goAhead_67 (sk_144 hs) (sn hs (by decide)) g18 rfl ?_
    obtain ⟨g19, h⟩ := h
    refine E_iast2 (x2.toNatClampNeg) dX12_goAhead_68 (sk_155 hs) (sn hs (by decide)) (Or.inl (by decide)) g19 rfl ?_
    refine E_aload_n 0 dX12_goAhead_69 rfl rfl ?_
    refine E_getR 156 dX12_goAhead_70 fl_X12_115 rfl (sk_124 hs) (sn hs (by decide)) (sr_124_56 hs) ?_
    refine E_iload_n 1 dX12_goAhead_73 rfl rfl ?_
    refine E_aload_n 0 dX12_goAhead_74 rfl rfl ?_
    refine E_getR 145 dX12_goAhead_75 fl_X12_82 rfl (sk_124 hs) (sn hs (by decide)) (sr_124_40 hs) ?_
    refine E_iload_n 1 dX12_goAhead_78 rfl rfl ?_
    obtain ⟨g20, h⟩ := h
    refine E_zald2 (x2.toNatClampNeg) dX12_goAhead_79 (sk_145 hs) (sn hs (by decide)) g20 rfl ?_
    obtain ⟨g21, h⟩ := h
    refine E_zast2 (x2.toNatClampNeg) (vp_nar .boolean (gI (sI σ 155 x2.toNatClampNeg (gI σ 144 x2.toNatClampNeg)) 145 x2.toNatClampNeg)) rfl dX12_goAhead_80 (sk_156 hs) (sn hs (by decide)) (Or.inl (by decide)) g21 rfl ?_
    obtain ⟨τ22, e23⟩ : ∃ τ : AH, τ = (sI (sI σ 155 x2.toNatClampNeg (gI σ 144 x2.toNatClampNeg)) 156 x2.toNatClampNeg (vp_nar .boolean (gI (sI σ 155 x2.toNatClampNeg (gI σ 144 x2.toNatClampNeg)) 145 x2.toNatClampNeg))) := ⟨_, rfl⟩
    replace h := h τ22 e23
    rw [← e23]
    have hs24 : Sh τ22 := by rw [e23]; exact hs
    refine E_aload_n 0 dX12_goAhead_81 rfl rfl ?_
    refine E_getR 157 dX12_goAhead_82 fl_X12_118 rfl (sk_124 hs24) (sn hs24 (by decide)) (sr_124_57 hs24) ?_
    refine E_iload_n 1 dX12_goAhead_85 rfl rfl ?_
    refine E_aload_n 0 dX12_goAhead_86 rfl rfl ?_
    refine E_getR 146 dX12_goAhead_87 fl_X12_85 rfl (sk_124 hs24) (sn hs24 (by decide)) (sr_124_41 hs24) ?_
    refine E_iload_n 1 dX12_goAhead_90 rfl rfl ?_
    obtain ⟨g25, h⟩ := h
    refine E_iald2 (x2.toNatClampNeg) dX12_goAhead_91 (sk_146 hs24) (sn hs24 (by decide)) g25 rfl ?_
    obtain ⟨g26, h⟩ := h
    refine E_iast2 (x2.toNatClampNeg) dX12_goAhead_92 (sk_157 hs24) (sn hs24 (by decide)) (Or.inl (by decide)) g26 rfl ?_
    refine E_iinc 1 (x2 + 1) [(2, .int (x2 + 1)), (0, .ref 124)] dX12_goAhead_93 rfl (congrArg (x2 + ·) (by decide : Int32.ofInt 1 = 1)) (by decide) rfl ?_
    refine E_goto 51 dX12_goAhead_96 (by decide) ?_
    exact E_lv [1, 0] rfl h
def W_X12_goAhead_101 (X : Sx) (l : Launch) (D : Nat) (x2 : Int32) (σ : AH) (r : Option Value) (σ' : AH) : Prop := (if (90 : Int32) ≤ x2 then (r = none ∧ σ' = σ) else vp_in x2 90 ∧ vp_in x2 90 ∧ vp_in x2 90 ∧ vp_in x2 90 ∧ (∀ τ31 : AH, τ31 = (sI (sI σ 158 x2.toNatClampNeg (gI σ 148 x2.toNatClampNeg)) 159 x2.toNatClampNeg (gI (sI σ 158 x2.toNatClampNeg (gI σ 148 x2.toNatClampNeg)) 149 x2.toNatClampNeg)) → E X l m_X12_goAhead D 101 [(0, .ref 124), (2, .int (x2 + 1))] [] τ31 r σ'))
set_option maxRecDepth 100000 in
theorem w_X12_goAhead_101 {X : Sx} {l : Launch} {D : Nat} {x2 : Int32} {σ : AH} {r : Option Value} {σ' : AH} (hs : Sh σ) (h : W_X12_goAhead_101 X l D x2 σ r σ') : E X l m_X12_goAhead D 101 [(0, .ref 124), (2, .int x2)] [] σ r σ' := by
  unfold W_X12_goAhead_101 at h
  refine E_iload_n 1 dX12_goAhead_101 rfl rfl ?_
  refine E_bipush (90 : Int32) dX12_goAhead_102 (by decide) ?_
  refine E_icmp_ge 137 dX12_goAhead_104 (by decide) (fun c => ?_) (fun c => ?_)
  · rw [if_pos c] at h
    obtain ⟨rfl, rfl⟩ := h
    exact E_vret dX12_goAhead_137 rfl
  · rw [if_neg c] at h
    refine E_aload_n 0 dX12_goAhead_107 rfl rfl ?_
    refine E_getR 158 dX12_goAhead_108 fl_X12_121 rfl (sk_124 hs) (sn hs (by decide)) (sr_124_58 hs) ?_
    refine E_iload_n 1 dX12_goAhead_111 rfl rfl ?_
    refine E_aload_n 0 dX12_goAhead_112 rfl rfl ?_
    refine E_getR 148 dX12_goAhead_113 fl_X12_91 rfl (sk_124 hs) (sn hs (by decide)) (sr_124_43 hs) ?_
    refine E_iload_n 1 dX12_goAhead_116 rfl rfl ?_
    obtain ⟨g27, h⟩ := h
    refine E_iald2 (x2.toNatClampNeg) dX12_goAhead_117 (sk_148 hs) (sn hs (by decide)) g27 rfl ?_
    obtain ⟨g28, h⟩ := h
    refine E_iast2 (x2.toNatClampNeg) dX12_goAhead_118 (sk_158 hs) (sn hs (by decide)) (Or.inl (by decide)) g28 rfl ?_
    refine E_aload_n 0 dX12_goAhead_119 rfl rfl ?_
    refine E_getR 159 dX12_goAhead_120 fl_X12_124 rfl (sk_124 hs) (sn hs (by decide)) (sr_124_59 hs) ?_
    refine E_iload_n 1 dX12_goAhead_123 rfl rfl ?_
    refine E_aload_n 0 dX12_goAhead_124 rfl rfl ?_
    refine E_getR 149 dX12_goAhead_125 fl_X12_94 rfl (sk_124 hs) (sn hs (by decide)) (sr_124_44 hs) ?_
    refine E_iload_n 1 dX12_goAhead_128 rfl rfl ?_
    obtain ⟨g29, h⟩ := h
    refine E_iald2 (x2.toNatClampNeg) dX12_goAhead_129 (sk_149 hs) (sn hs (by decide)) g29 rfl ?_
    obtain ⟨g30, h⟩ := h
    refine E_iast2 (x2.toNatClampNeg) dX12_goAhead_130 (sk_159 hs) (sn hs (by decide)) (Or.inl (by decide)) g30 rfl ?_
    obtain ⟨τ31, e32⟩ : ∃ τ : AH, τ = (sI (sI σ 158 x2.toNatClampNeg (gI σ 148 x2.toNatClampNeg)) 159 x2.toNatClampNeg (gI (sI σ 158 x2.toNatClampNeg (gI σ 148 x2.toNatClampNeg)) 149 x2.toNatClampNeg)) := ⟨_, rfl⟩
    replace h := h τ31 e32
    rw [← e32]
    have hs33 : Sh τ31 := by rw [e32]; exact hs
    refine E_iinc 1 (x2 + 1) [(2, .int (x2 + 1)), (0, .ref 124)] dX12_goAhead_131 rfl (congrArg (x2 + ·) (by decide : Int32.ofInt 1 = 1)) (by decide) rfl ?_
    refine E_goto 101 dX12_goAhead_134 (by decide) ?_
    exact E_lv [1, 0] rfl h
