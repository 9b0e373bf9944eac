theorem dX12_init_0 : decode cX12_init 0 = .ok (.aload_n 0, 1) := by decide +kernel
theorem dX12_init_1 : decode cX12_init 1 = .ok (.invokespecial 1, 3) := by decide +kernel
theorem dX12_init_4 : decode cX12_init 4 = .ok (.aload_n 0, 1) := by decide +kernel
theorem dX12_init_5 : decode cX12_init 5 = .ok (.ldc 7, 2) := by decide +kernel
theorem dX12_init_7 : decode cX12_init 7 = .ok (.newarray .int, 2) := by decide +kernel
theorem dX12_init_9 : decode cX12_init 9 = .ok (.putfield 8, 3) := by decide +kernel
theorem dX12_init_12 : decode cX12_init 12 = .ok (.aload_n 0, 1) := by decide +kernel
theorem dX12_init_13 : decode cX12_init 13 = .ok (.ldc 14, 2) := by decide +kernel
theorem dX12_init_15 : decode cX12_init 15 = .ok (.newarray .int, 2) := by decide +kernel
theorem dX12_init_17 : decode cX12_init 17 = .ok (.putfield 15, 3) := by decide +kernel
theorem dX12_init_20 : decode cX12_init 20 = .ok (.aload_n 0, 1) := by decide +kernel
theorem dX12_init_21 : decode cX12_init 21 = .ok (.iconst 3, 1) := by decide +kernel
theorem dX12_init_22 : decode cX12_init 22 = .ok (.newarray .boolean, 2) := by decide +kernel
theorem dX12_init_24 : decode cX12_init 24 = .ok (.putfield 18, 3) := by decide +kernel
theorem dX12_init_27 : decode cX12_init 27 = .ok (.aload_n 0, 1) := by decide +kernel
theorem dX12_init_28 : decode cX12_init 28 = .ok (.sipush 400, 3) := by decide +kernel
theorem dX12_init_31 : decode cX12_init 31 = .ok (.newarray .int, 2) := by decide +kernel
theorem dX12_init_33 : decode cX12_init 33 = .ok (.putfield 22, 3) := by decide +kernel
theorem dX12_init_36 : decode cX12_init 36 = .ok (.aload_n 0, 1) := by decide +kernel
theorem dX12_init_37 : decode cX12_init 37 = .ok (.iconst (-1), 1) := by decide +kernel
theorem dX12_init_38 : decode cX12_init 38 = .ok (.putfield 25, 3) := by decide +kernel
theorem dX12_init_41 : decode cX12_init 41 = .ok (.aload_n 0, 1) := by decide +kernel
theorem dX12_init_42 : decode cX12_init 42 = .ok (.sipush 144, 3) := by decide +kernel
theorem dX12_init_45 : decode cX12_init 45 = .ok (.newarray .int, 2) := by decide +kernel
theorem dX12_init_47 : decode cX12_init 47 = .ok (.putfield 29, 3) := by decide +kernel
theorem dX12_init_50 : decode cX12_init 50 = .ok (.aload_n 0, 1) := by decide +kernel
theorem dX12_init_51 : decode cX12_init 51 = .ok (.sipush 400, 3) := by decide +kernel
theorem dX12_init_54 : decode cX12_init 54 = .ok (.newarray .int, 2) := by decide +kernel
theorem dX12_init_56 : decode cX12_init 56 = .ok (.putfield 32, 3) := by decide +kernel
theorem dX12_init_59 : decode cX12_init 59 = .ok (.aload_n 0, 1) := by decide +kernel
theorem dX12_init_60 : decode cX12_init 60 = .ok (.sipush 400, 3) := by decide +kernel
theorem dX12_init_63 : decode cX12_init 63 = .ok (.newarray .int, 2) := by decide +kernel
theorem dX12_init_65 : decode cX12_init 65 = .ok (.putfield 35, 3) := by decide +kernel
theorem dX12_init_68 : decode cX12_init 68 = .ok (.aload_n 0, 1) := by decide +kernel
theorem dX12_init_69 : decode cX12_init 69 = .ok (.sipush 400, 3) := by decide +kernel
theorem dX12_init_72 : decode cX12_init 72 = .ok (.newarray .int, 2) := by decide +kernel
theorem dX12_init_74 : decode cX12_init 74 = .ok (.putfield 38, 3) := by decide +kernel
theorem dX12_init_77 : decode cX12_init 77 = .ok (.aload_n 0, 1) := by decide +kernel
theorem dX12_init_78 : decode cX12_init 78 = .ok (.sipush 400, 3) := by decide +kernel
theorem dX12_init_81 : decode cX12_init 81 = .ok (.newarray .int, 2) := by decide +kernel
theorem dX12_init_83 : decode cX12_init 83 = .ok (.putfield 41, 3) := by decide +kernel
theorem dX12_init_86 : decode cX12_init 86 = .ok (.aload_n 0, 1) := by decide +kernel
theorem dX12_init_87 : decode cX12_init 87 = .ok (.iconst (-1), 1) := by decide +kernel
theorem dX12_init_88 : decode cX12_init 88 = .ok (.putfield 44, 3) := by decide +kernel
theorem dX12_init_91 : decode cX12_init 91 = .ok (.aload_n 0, 1) := by decide +kernel
theorem dX12_init_92 : decode cX12_init 92 = .ok (.bipush 24, 2) := by decide +kernel
theorem dX12_init_94 : decode cX12_init 94 = .ok (.newarray .boolean, 2) := by decide +kernel
theorem dX12_init_96 : decode cX12_init 96 = .ok (.putfield 47, 3) := by decide +kernel
theorem dX12_init_99 : decode cX12_init 99 = .ok (.aload_n 0, 1) := by decide +kernel
theorem dX12_init_100 : decode cX12_init 100 = .ok (.sipush 384, 3) := by decide +kernel
theorem dX12_init_103 : decode cX12_init 103 = .ok (.newarray .boolean, 2) := by decide +kernel
theorem dX12_init_105 : decode cX12_init 105 = .ok (.putfield 50, 3) := by decide +kernel
theorem dX12_init_108 : decode cX12_init 108 = .ok (.aload_n 0, 1) := by decide +kernel
theorem dX12_init_109 : decode cX12_init 109 = .ok (.bipush 8, 2) := by decide +kernel
theorem dX12_init_111 : decode cX12_init 111 = .ok (.newarray .int, 2) := by decide +kernel
theorem dX12_init_113 : decode cX12_init 113 = .ok (.putfield 53, 3) := by decide +kernel
theorem dX12_init_116 : decode cX12_init 116 = .ok (.aload_n 0, 1) := by decide +kernel
theorem dX12_init_117 : decode cX12_init 117 = .ok (.sipush 400, 3) := by decide +kernel
theorem dX12_init_120 : decode cX12_init 120 = .ok (.newarray .long, 2) := by decide +kernel
theorem dX12_init_122 : decode cX12_init 122 = .ok (.putfield 56, 3) := by decide +kernel
theorem dX12_init_125 : decode cX12_init 125 = .ok (.aload_n 0, 1) := by decide +kernel
theorem dX12_init_126 : decode cX12_init 126 = .ok (.ldc 60, 2) := by decide +kernel
theorem dX12_init_128 : decode cX12_init 128 = .ok (.newarray .int, 2) := by decide +kernel
theorem dX12_init_130 : decode cX12_init 130 = .ok (.putfield 61, 3) := by decide +kernel
theorem dX12_init_133 : decode cX12_init 133 = .ok (.aload_n 0, 1) := by decide +kernel
theorem dX12_init_134 : decode cX12_init 134 = .ok (.sipush 260, 3) := by decide +kernel
theorem dX12_init_137 : decode cX12_init 137 = .ok (.newarray .int, 2) := by decide +kernel
theorem dX12_init_139 : decode cX12_init 139 = .ok (.putfield 64, 3) := by decide +kernel
theorem dX12_init_142 : decode cX12_init 142 = .ok (.aload_n 0, 1) := by decide +kernel
theorem dX12_init_143 : decode cX12_init 143 = .ok (.bipush 30, 2) := by decide +kernel
theorem dX12_init_145 : decode cX12_init 145 = .ok (.newarray .int, 2) := by decide +kernel
theorem dX12_init_147 : decode cX12_init 147 = .ok (.putfield 67, 3) := by decide +kernel
theorem dX12_init_150 : decode cX12_init 150 = .ok (.aload_n 0, 1) := by decide +kernel
theorem dX12_init_151 : decode cX12_init 151 = .ok (.bipush 30, 2) := by decide +kernel
theorem dX12_init_153 : decode cX12_init 153 = .ok (.newarray .boolean, 2) := by decide +kernel
theorem dX12_init_155 : decode cX12_init 155 = .ok (.putfield 70, 3) := by decide +kernel
theorem dX12_init_158 : decode cX12_init 158 = .ok (.aload_n 0, 1) := by decide +kernel
theorem dX12_init_159 : decode cX12_init 159 = .ok (.iconst 5, 1) := by decide +kernel
theorem dX12_init_160 : decode cX12_init 160 = .ok (.newarray .int, 2) := by decide +kernel
theorem dX12_init_162 : decode cX12_init 162 = .ok (.putfield 73, 3) := by decide +kernel
theorem dX12_init_165 : decode cX12_init 165 = .ok (.aload_n 0, 1) := by decide +kernel
theorem dX12_init_166 : decode cX12_init 166 = .ok (.bipush 6, 2) := by decide +kernel
theorem dX12_init_168 : decode cX12_init 168 = .ok (.newarray .int, 2) := by decide +kernel
theorem dX12_init_170 : decode cX12_init 170 = .ok (.putfield 76, 3) := by decide +kernel
theorem dX12_init_173 : decode cX12_init 173 = .ok (.aload_n 0, 1) := by decide +kernel
theorem dX12_init_174 : decode cX12_init 174 = .ok (.bipush 30, 2) := by decide +kernel
theorem dX12_init_176 : decode cX12_init 176 = .ok (.newarray .int, 2) := by decide +kernel
theorem dX12_init_178 : decode cX12_init 178 = .ok (.putfield 79, 3) := by decide +kernel
theorem dX12_init_181 : decode cX12_init 181 = .ok (.aload_n 0, 1) := by decide +kernel
theorem dX12_init_182 : decode cX12_init 182 = .ok (.bipush 30, 2) := by decide +kernel
theorem dX12_init_184 : decode cX12_init 184 = .ok (.newarray .boolean, 2) := by decide +kernel
theorem dX12_init_186 : decode cX12_init 186 = .ok (.putfield 82, 3) := by decide +kernel
theorem dX12_init_189 : decode cX12_init 189 = .ok (.aload_n 0, 1) := by decide +kernel
theorem dX12_init_190 : decode cX12_init 190 = .ok (.bipush 30, 2) := by decide +kernel
theorem dX12_init_192 : decode cX12_init 192 = .ok (.newarray .int, 2) := by decide +kernel
theorem dX12_init_194 : decode cX12_init 194 = .ok (.putfield 85, 3) := by decide +kernel
theorem dX12_init_197 : decode cX12_init 197 = .ok (.aload_n 0, 1) := by decide +kernel
theorem dX12_init_198 : decode cX12_init 198 = .ok (.bipush 30, 2) := by decide +kernel
theorem dX12_init_200 : decode cX12_init 200 = .ok (.newarray .boolean, 2) := by decide +kernel
theorem dX12_init_202 : decode cX12_init 202 = .ok (.putfield 88, 3) := by decide +kernel
theorem dX12_init_205 : decode cX12_init 205 = .ok (.aload_n 0, 1) := by decide +kernel
theorem dX12_init_206 : decode cX12_init 206 = .ok (.bipush 90, 2) := by decide +kernel
theorem dX12_init_208 : decode cX12_init 208 = .ok (.newarray .int, 2) := by decide +kernel
theorem dX12_init_210 : decode cX12_init 210 = .ok (.putfield 91, 3) := by decide +kernel
theorem dX12_init_213 : decode cX12_init 213 = .ok (.aload_n 0, 1) := by decide +kernel
theorem dX12_init_214 : decode cX12_init 214 = .ok (.bipush 90, 2) := by decide +kernel
theorem dX12_init_216 : decode cX12_init 216 = .ok (.newarray .int, 2) := by decide +kernel
theorem dX12_init_218 : decode cX12_init 218 = .ok (.putfield 94, 3) := by decide +kernel
theorem dX12_init_221 : decode cX12_init 221 = .ok (.aload_n 0, 1) := by decide +kernel
theorem dX12_init_222 : decode cX12_init 222 = .ok (.bipush 30, 2) := by decide +kernel
theorem dX12_init_224 : decode cX12_init 224 = .ok (.newarray .int, 2) := by decide +kernel
theorem dX12_init_226 : decode cX12_init 226 = .ok (.putfield 97, 3) := by decide +kernel
theorem dX12_init_229 : decode cX12_init 229 = .ok (.aload_n 0, 1) := by decide +kernel
theorem dX12_init_230 : decode cX12_init 230 = .ok (.bipush 30, 2) := by decide +kernel
theorem dX12_init_232 : decode cX12_init 232 = .ok (.newarray .int, 2) := by decide +kernel
theorem dX12_init_234 : decode cX12_init 234 = .ok (.putfield 100, 3) := by decide +kernel
theorem dX12_init_237 : decode cX12_init 237 = .ok (.aload_n 0, 1) := by decide +kernel
theorem dX12_init_238 : decode cX12_init 238 = .ok (.bipush 6, 2) := by decide +kernel
theorem dX12_init_240 : decode cX12_init 240 = .ok (.newarray .int, 2) := by decide +kernel
theorem dX12_init_242 : decode cX12_init 242 = .ok (.putfield 103, 3) := by decide +kernel
theorem dX12_init_245 : decode cX12_init 245 = .ok (.aload_n 0, 1) := by decide +kernel
theorem dX12_init_246 : decode cX12_init 246 = .ok (.bipush 6, 2) := by decide +kernel
theorem dX12_init_248 : decode cX12_init 248 = .ok (.newarray .int, 2) := by decide +kernel
theorem dX12_init_250 : decode cX12_init 250 = .ok (.putfield 106, 3) := by decide +kernel
theorem dX12_init_253 : decode cX12_init 253 = .ok (.aload_n 0, 1) := by decide +kernel
theorem dX12_init_254 : decode cX12_init 254 = .ok (.iconst 5, 1) := by decide +kernel
theorem dX12_init_255 : decode cX12_init 255 = .ok (.newarray .int, 2) := by decide +kernel
theorem dX12_init_257 : decode cX12_init 257 = .ok (.putfield 109, 3) := by decide +kernel
theorem dX12_init_260 : decode cX12_init 260 = .ok (.aload_n 0, 1) := by decide +kernel
theorem dX12_init_261 : decode cX12_init 261 = .ok (.bipush 30, 2) := by decide +kernel
theorem dX12_init_263 : decode cX12_init 263 = .ok (.newarray .int, 2) := by decide +kernel
theorem dX12_init_265 : decode cX12_init 265 = .ok (.putfield 112, 3) := by decide +kernel
theorem dX12_init_268 : decode cX12_init 268 = .ok (.aload_n 0, 1) := by decide +kernel
theorem dX12_init_269 : decode cX12_init 269 = .ok (.bipush 30, 2) := by decide +kernel
theorem dX12_init_271 : decode cX12_init 271 = .ok (.newarray .boolean, 2) := by decide +kernel
theorem dX12_init_273 : decode cX12_init 273 = .ok (.putfield 115, 3) := by decide +kernel
theorem dX12_init_276 : decode cX12_init 276 = .ok (.aload_n 0, 1) := by decide +kernel
theorem dX12_init_277 : decode cX12_init 277 = .ok (.bipush 30, 2) := by decide +kernel
theorem dX12_init_279 : decode cX12_init 279 = .ok (.newarray .int, 2) := by decide +kernel
theorem dX12_init_281 : decode cX12_init 281 = .ok (.putfield 118, 3) := by decide +kernel
theorem dX12_init_284 : decode cX12_init 284 = .ok (.aload_n 0, 1) := by decide +kernel
theorem dX12_init_285 : decode cX12_init 285 = .ok (.bipush 90, 2) := by decide +kernel
theorem dX12_init_287 : decode cX12_init 287 = .ok (.newarray .int, 2) := by decide +kernel
theorem dX12_init_289 : decode cX12_init 289 = .ok (.putfield 121, 3) := by decide +kernel
theorem dX12_init_292 : decode cX12_init 292 = .ok (.aload_n 0, 1) := by decide +kernel
theorem dX12_init_293 : decode cX12_init 293 = .ok (.bipush 90, 2) := by decide +kernel
theorem dX12_init_295 : decode cX12_init 295 = .ok (.newarray .int, 2) := by decide +kernel
theorem dX12_init_297 : decode cX12_init 297 = .ok (.putfield 124, 3) := by decide +kernel
theorem dX12_init_300 : decode cX12_init 300 = .ok (.aload_n 0, 1) := by decide +kernel
theorem dX12_init_301 : decode cX12_init 301 = .ok (.bipush 60, 2) := by decide +kernel
theorem dX12_init_303 : decode cX12_init 303 = .ok (.newarray .int, 2) := by decide +kernel
theorem dX12_init_305 : decode cX12_init 305 = .ok (.putfield 127, 3) := by decide +kernel
theorem dX12_init_308 : decode cX12_init 308 = .ok (.aload_n 0, 1) := by decide +kernel
theorem dX12_init_309 : decode cX12_init 309 = .ok (.bipush 60, 2) := by decide +kernel
theorem dX12_init_311 : decode cX12_init 311 = .ok (.newarray .long, 2) := by decide +kernel
theorem dX12_init_313 : decode cX12_init 313 = .ok (.putfield 130, 3) := by decide +kernel
theorem dX12_init_316 : decode cX12_init 316 = .ok (.aload_n 0, 1) := by decide +kernel
theorem dX12_init_317 : decode cX12_init 317 = .ok (.bipush 60, 2) := by decide +kernel
theorem dX12_init_319 : decode cX12_init 319 = .ok (.newarray .int, 2) := by decide +kernel
theorem dX12_init_321 : decode cX12_init 321 = .ok (.putfield 133, 3) := by decide +kernel
theorem dX12_init_324 : decode cX12_init 324 = .ok (.aload_n 0, 1) := by decide +kernel
theorem dX12_init_325 : decode cX12_init 325 = .ok (.bipush 60, 2) := by decide +kernel
theorem dX12_init_327 : decode cX12_init 327 = .ok (.newarray .int, 2) := by decide +kernel
theorem dX12_init_329 : decode cX12_init 329 = .ok (.putfield 136, 3) := by decide +kernel
theorem dX12_init_332 : decode cX12_init 332 = .ok (.aload_n 0, 1) := by decide +kernel
theorem dX12_init_333 : decode cX12_init 333 = .ok (.bipush 30, 2) := by decide +kernel
theorem dX12_init_335 : decode cX12_init 335 = .ok (.newarray .int, 2) := by decide +kernel
theorem dX12_init_337 : decode cX12_init 337 = .ok (.putfield 139, 3) := by decide +kernel
theorem dX12_init_340 : decode cX12_init 340 = .ok (.aload_n 0, 1) := by decide +kernel
theorem dX12_init_341 : decode cX12_init 341 = .ok (.bipush 30, 2) := by decide +kernel
theorem dX12_init_343 : decode cX12_init 343 = .ok (.newarray .int, 2) := by decide +kernel
theorem dX12_init_345 : decode cX12_init 345 = .ok (.putfield 142, 3) := by decide +kernel
theorem dX12_init_348 : decode cX12_init 348 = .ok (.return_, 1) := by decide +kernel
theorem dX12_in_0 : decode cX12_in 0 = .ok (.lload_n 0, 1) := by decide +kernel
theorem dX12_in_1 : decode cX12_in 1 = .ok (.lload_n 2, 1) := by decide +kernel
theorem dX12_in_2 : decode cX12_in 2 = .ok (.lcmp, 1) := by decide +kernel
theorem dX12_in_3 : decode cX12_in 3 = .ok (.ifCond .lt 14, 3) := by decide +kernel
theorem dX12_in_6 : decode cX12_in 6 = .ok (.lload_n 0, 1) := by decide +kernel
theorem dX12_in_7 : decode cX12_in 7 = .ok (.lload 4, 2) := by decide +kernel
theorem dX12_in_9 : decode cX12_in 9 = .ok (.lcmp, 1) := by decide +kernel
theorem dX12_in_10 : decode cX12_in 10 = .ok (.ifCond .gt 7, 3) := by decide +kernel
theorem dX12_in_13 : decode cX12_in 13 = .ok (.iconst 1, 1) := by decide +kernel
theorem dX12_in_14 : decode cX12_in 14 = .ok (.goto 4, 3) := by decide +kernel
theorem dX12_in_17 : decode cX12_in 17 = .ok (.iconst 0, 1) := by decide +kernel
theorem dX12_in_18 : decode cX12_in 18 = .ok (.ireturn, 1) := by decide +kernel
theorem dX12_told_0 : decode cX12_told 0 = .ok (.aload_n 0, 1) := by decide +kernel
theorem dX12_told_1 : decode cX12_told 1 = .ok (.iload_n 1, 1) := by decide +kernel
theorem dX12_told_2 : decode cX12_told 2 = .ok (.ifCond .ge 7, 3) := by decide +kernel
theorem dX12_told_5 : decode cX12_told 5 = .ok (.iload_n 1, 1) := by decide +kernel
theorem dX12_told_6 : decode cX12_told 6 = .ok (.goto 4, 3) := by decide +kernel
theorem dX12_told_9 : decode cX12_told 9 = .ok (.iconst 0, 1) := by decide +kernel
theorem dX12_told_10 : decode cX12_told 10 = .ok (.putfield 148, 3) := by decide +kernel
theorem dX12_told_13 : decode cX12_told 13 = .ok (.iload_n 1, 1) := by decide +kernel
theorem dX12_told_14 : decode cX12_told 14 = .ok (.ireturn, 1) := by decide +kernel
theorem dX12_isWeek_0 : decode cX12_isWeek 0 = .ok (.iload_n 0, 1) := by decide +kernel
theorem dX12_isWeek_1 : decode cX12_isWeek 1 = .ok (.i2l, 1) := by decide +kernel
theorem dX12_isWeek_2 : decode cX12_isWeek 2 = .ok (.lconst 0, 1) := by decide +kernel
theorem dX12_isWeek_3 : decode cX12_isWeek 3 = .ok (.ldc2_w 151, 3) := by decide +kernel
theorem dX12_isWeek_6 : decode cX12_isWeek 6 = .ok (.invokestatic 153, 3) := by decide +kernel
theorem dX12_isWeek_9 : decode cX12_isWeek 9 = .ok (.ireturn, 1) := by decide +kernel
theorem dX12_isCouncil_0 : decode cX12_isCouncil 0 = .ok (.iload_n 0, 1) := by decide +kernel
theorem dX12_isCouncil_1 : decode cX12_isCouncil 1 = .ok (.i2l, 1) := by decide +kernel
theorem dX12_isCouncil_2 : decode cX12_isCouncil 2 = .ok (.lconst 0, 1) := by decide +kernel
theorem dX12_isCouncil_3 : decode cX12_isCouncil 3 = .ok (.ldc2_w 157, 3) := by decide +kernel
theorem dX12_isCouncil_6 : decode cX12_isCouncil 6 = .ok (.invokestatic 153, 3) := by decide +kernel
theorem dX12_isCouncil_9 : decode cX12_isCouncil 9 = .ok (.ireturn, 1) := by decide +kernel
theorem dX12_isQuarter_0 : decode cX12_isQuarter 0 = .ok (.iload_n 0, 1) := by decide +kernel
theorem dX12_isQuarter_1 : decode cX12_isQuarter 1 = .ok (.i2l, 1) := by decide +kernel
theorem dX12_isQuarter_2 : decode cX12_isQuarter 2 = .ok (.lconst 0, 1) := by decide +kernel
theorem dX12_isQuarter_3 : decode cX12_isQuarter 3 = .ok (.ldc2_w 159, 3) := by decide +kernel
theorem dX12_isQuarter_6 : decode cX12_isQuarter 6 = .ok (.invokestatic 153, 3) := by decide +kernel
theorem dX12_isQuarter_9 : decode cX12_isQuarter 9 = .ok (.ireturn, 1) := by decide +kernel
theorem dX12_image_0 : decode cX12_image 0 = .ok (.aload_n 0, 1) := by decide +kernel
theorem dX12_image_1 : decode cX12_image 1 = .ok (.iconst 0, 1) := by decide +kernel
theorem dX12_image_2 : decode cX12_image 2 = .ok (.putfield 145, 3) := by decide +kernel
theorem dX12_image_5 : decode cX12_image 5 = .ok (.iload_n 1, 1) := by decide +kernel
theorem dX12_image_6 : decode cX12_image 6 = .ok (.i2l, 1) := by decide +kernel
theorem dX12_image_7 : decode cX12_image 7 = .ok (.lconst 0, 1) := by decide +kernel
theorem dX12_image_8 : decode cX12_image 8 = .ok (.ldc2_w 161, 3) := by decide +kernel
theorem dX12_image_11 : decode cX12_image 11 = .ok (.invokestatic 153, 3) := by decide +kernel
theorem dX12_image_14 : decode cX12_image 14 = .ok (.ifCond .ne 9, 3) := by decide +kernel
theorem dX12_image_17 : decode cX12_image 17 = .ok (.aload_n 0, 1) := by decide +kernel
theorem dX12_image_18 : decode cX12_image 18 = .ok (.iconst (-1), 1) := by decide +kernel
theorem dX12_image_19 : decode cX12_image 19 = .ok (.invokevirtual 163, 3) := by decide +kernel
theorem dX12_image_22 : decode cX12_image 22 = .ok (.ireturn, 1) := by decide +kernel
theorem dX12_image_23 : decode cX12_image 23 = .ok (.iconst 0, 1) := by decide +kernel
theorem dX12_image_24 : decode cX12_image 24 = .ok (.istore_n 2, 1) := by decide +kernel
theorem dX12_image_25 : decode cX12_image 25 = .ok (.iload_n 2, 1) := by decide +kernel
theorem dX12_image_26 : decode cX12_image 26 = .ok (.ldc 7, 2) := by decide +kernel
theorem dX12_image_28 : decode cX12_image 28 = .ok (.if_icmp .ge 26, 3) := by decide +kernel
theorem dX12_image_31 : decode cX12_image 31 = .ok (.aload_n 0, 1) := by decide +kernel
theorem dX12_image_32 : decode cX12_image 32 = .ok (.getfield 15, 3) := by decide +kernel
theorem dX12_image_35 : decode cX12_image 35 = .ok (.ldc 7, 2) := by decide +kernel
theorem dX12_image_37 : decode cX12_image 37 = .ok (.iload_n 1, 1) := by decide +kernel
theorem dX12_image_38 : decode cX12_image 38 = .ok (.imul, 1) := by decide +kernel
theorem dX12_image_39 : decode cX12_image 39 = .ok (.iload_n 2, 1) := by decide +kernel
theorem dX12_image_40 : decode cX12_image 40 = .ok (.iadd, 1) := by decide +kernel
theorem dX12_image_41 : decode cX12_image 41 = .ok (.aload_n 0, 1) := by decide +kernel
theorem dX12_image_42 : decode cX12_image 42 = .ok (.getfield 8, 3) := by decide +kernel
theorem dX12_image_45 : decode cX12_image 45 = .ok (.iload_n 2, 1) := by decide +kernel
theorem dX12_image_46 : decode cX12_image 46 = .ok (.iaload, 1) := by decide +kernel
theorem dX12_image_47 : decode cX12_image 47 = .ok (.iastore, 1) := by decide +kernel
theorem dX12_image_48 : decode cX12_image 48 = .ok (.iinc 2 1, 3) := by decide +kernel
theorem dX12_image_51 : decode cX12_image 51 = .ok (.goto (-26), 3) := by decide +kernel
theorem dX12_image_54 : decode cX12_image 54 = .ok (.aload_n 0, 1) := by decide +kernel
theorem dX12_image_55 : decode cX12_image 55 = .ok (.getfield 18, 3) := by decide +kernel
theorem dX12_image_58 : decode cX12_image 58 = .ok (.iload_n 1, 1) := by decide +kernel
theorem dX12_image_59 : decode cX12_image 59 = .ok (.iconst 1, 1) := by decide +kernel
theorem dX12_image_60 : decode cX12_image 60 = .ok (.bastore, 1) := by decide +kernel
theorem dX12_image_61 : decode cX12_image 61 = .ok (.aload_n 0, 1) := by decide +kernel
theorem dX12_image_62 : decode cX12_image 62 = .ok (.iconst 0, 1) := by decide +kernel
theorem dX12_image_63 : decode cX12_image 63 = .ok (.invokevirtual 163, 3) := by decide +kernel
theorem dX12_image_66 : decode cX12_image 66 = .ok (.ireturn, 1) := by decide +kernel
theorem dX12_back_0 : decode cX12_back 0 = .ok (.aload_n 0, 1) := by decide +kernel
theorem dX12_back_1 : decode cX12_back 1 = .ok (.iconst 0, 1) := by decide +kernel
theorem dX12_back_2 : decode cX12_back 2 = .ok (.putfield 145, 3) := by decide +kernel
theorem dX12_back_5 : decode cX12_back 5 = .ok (.iload_n 1, 1) := by decide +kernel
theorem dX12_back_6 : decode cX12_back 6 = .ok (.i2l, 1) := by decide +kernel
theorem dX12_back_7 : decode cX12_back 7 = .ok (.lconst 0, 1) := by decide +kernel
theorem dX12_back_8 : decode cX12_back 8 = .ok (.ldc2_w 161, 3) := by decide +kernel
theorem dX12_back_11 : decode cX12_back 11 = .ok (.invokestatic 153, 3) := by decide +kernel
theorem dX12_back_14 : decode cX12_back 14 = .ok (.ifCond .ne 9, 3) := by decide +kernel
theorem dX12_back_17 : decode cX12_back 17 = .ok (.aload_n 0, 1) := by decide +kernel
theorem dX12_back_18 : decode cX12_back 18 = .ok (.iconst (-1), 1) := by decide +kernel
theorem dX12_back_19 : decode cX12_back 19 = .ok (.invokevirtual 163, 3) := by decide +kernel
theorem dX12_back_22 : decode cX12_back 22 = .ok (.ireturn, 1) := by decide +kernel
theorem dX12_back_23 : decode cX12_back 23 = .ok (.aload_n 0, 1) := by decide +kernel
theorem dX12_back_24 : decode cX12_back 24 = .ok (.getfield 18, 3) := by decide +kernel
theorem dX12_back_27 : decode cX12_back 27 = .ok (.iload_n 1, 1) := by decide +kernel
theorem dX12_back_28 : decode cX12_back 28 = .ok (.baload, 1) := by decide +kernel
theorem dX12_back_29 : decode cX12_back 29 = .ok (.ifCond .ne 10, 3) := by decide +kernel
theorem dX12_back_32 : decode cX12_back 32 = .ok (.aload_n 0, 1) := by decide +kernel
theorem dX12_back_33 : decode cX12_back 33 = .ok (.bipush (-2), 2) := by decide +kernel
theorem dX12_back_35 : decode cX12_back 35 = .ok (.invokevirtual 163, 3) := by decide +kernel
theorem dX12_back_38 : decode cX12_back 38 = .ok (.ireturn, 1) := by decide +kernel
theorem dX12_back_39 : decode cX12_back 39 = .ok (.iconst 0, 1) := by decide +kernel
theorem dX12_back_40 : decode cX12_back 40 = .ok (.istore_n 2, 1) := by decide +kernel
theorem dX12_back_41 : decode cX12_back 41 = .ok (.iload_n 2, 1) := by decide +kernel
theorem dX12_back_42 : decode cX12_back 42 = .ok (.ldc 7, 2) := by decide +kernel
theorem dX12_back_44 : decode cX12_back 44 = .ok (.if_icmp .ge 26, 3) := by decide +kernel
theorem dX12_back_47 : decode cX12_back 47 = .ok (.aload_n 0, 1) := by decide +kernel
theorem dX12_back_48 : decode cX12_back 48 = .ok (.getfield 8, 3) := by decide +kernel
theorem dX12_back_51 : decode cX12_back 51 = .ok (.iload_n 2, 1) := by decide +kernel
theorem dX12_back_52 : decode cX12_back 52 = .ok (.aload_n 0, 1) := by decide +kernel
theorem dX12_back_53 : decode cX12_back 53 = .ok (.getfield 15, 3) := by decide +kernel
theorem dX12_back_56 : decode cX12_back 56 = .ok (.ldc 7, 2) := by decide +kernel
theorem dX12_back_58 : decode cX12_back 58 = .ok (.iload_n 1, 1) := by decide +kernel
theorem dX12_back_59 : decode cX12_back 59 = .ok (.imul, 1) := by decide +kernel
theorem dX12_back_60 : decode cX12_back 60 = .ok (.iload_n 2, 1) := by decide +kernel
theorem dX12_back_61 : decode cX12_back 61 = .ok (.iadd, 1) := by decide +kernel
theorem dX12_back_62 : decode cX12_back 62 = .ok (.iaload, 1) := by decide +kernel
theorem dX12_back_63 : decode cX12_back 63 = .ok (.iastore, 1) := by decide +kernel
theorem dX12_back_64 : decode cX12_back 64 = .ok (.iinc 2 1, 3) := by decide +kernel
theorem dX12_back_67 : decode cX12_back 67 = .ok (.goto (-26), 3) := by decide +kernel
theorem dX12_back_70 : decode cX12_back 70 = .ok (.aload_n 0, 1) := by decide +kernel
theorem dX12_back_71 : decode cX12_back 71 = .ok (.iconst 0, 1) := by decide +kernel
theorem dX12_back_72 : decode cX12_back 72 = .ok (.putfield 167, 3) := by decide +kernel
theorem dX12_back_75 : decode cX12_back 75 = .ok (.aload_n 0, 1) := by decide +kernel
theorem dX12_back_76 : decode cX12_back 76 = .ok (.iconst 0, 1) := by decide +kernel
theorem dX12_back_77 : decode cX12_back 77 = .ok (.putfield 170, 3) := by decide +kernel
theorem dX12_back_80 : decode cX12_back 80 = .ok (.aload_n 0, 1) := by decide +kernel
theorem dX12_back_81 : decode cX12_back 81 = .ok (.iconst 0, 1) := by decide +kernel
theorem dX12_back_82 : decode cX12_back 82 = .ok (.invokevirtual 163, 3) := by decide +kernel
theorem dX12_back_85 : decode cX12_back 85 = .ok (.ireturn, 1) := by decide +kernel
theorem dX12_addFour_0 : decode cX12_addFour 0 = .ok (.aload_n 0, 1) := by decide +kernel
theorem dX12_addFour_1 : decode cX12_addFour 1 = .ok (.getfield 8, 3) := by decide +kernel
theorem dX12_addFour_4 : decode cX12_addFour 4 = .ok (.iload_n 1, 1) := by decide +kernel
theorem dX12_addFour_5 : decode cX12_addFour 5 = .ok (.iload_n 2, 1) := by decide +kernel
theorem dX12_addFour_6 : decode cX12_addFour 6 = .ok (.iastore, 1) := by decide +kernel
theorem dX12_addFour_7 : decode cX12_addFour 7 = .ok (.aload_n 0, 1) := by decide +kernel
theorem dX12_addFour_8 : decode cX12_addFour 8 = .ok (.getfield 8, 3) := by decide +kernel
theorem dX12_addFour_11 : decode cX12_addFour 11 = .ok (.iload_n 1, 1) := by decide +kernel
theorem dX12_addFour_12 : decode cX12_addFour 12 = .ok (.iconst 1, 1) := by decide +kernel
theorem dX12_addFour_13 : decode cX12_addFour 13 = .ok (.iadd, 1) := by decide +kernel
theorem dX12_addFour_14 : decode cX12_addFour 14 = .ok (.iload_n 3, 1) := by decide +kernel
theorem dX12_addFour_15 : decode cX12_addFour 15 = .ok (.iastore, 1) := by decide +kernel
theorem dX12_addFour_16 : decode cX12_addFour 16 = .ok (.aload_n 0, 1) := by decide +kernel
theorem dX12_addFour_17 : decode cX12_addFour 17 = .ok (.getfield 8, 3) := by decide +kernel
theorem dX12_addFour_20 : decode cX12_addFour 20 = .ok (.iload_n 1, 1) := by decide +kernel
theorem dX12_addFour_21 : decode cX12_addFour 21 = .ok (.iconst 2, 1) := by decide +kernel
theorem dX12_addFour_22 : decode cX12_addFour 22 = .ok (.iadd, 1) := by decide +kernel
theorem dX12_addFour_23 : decode cX12_addFour 23 = .ok (.iload 4, 2) := by decide +kernel
theorem dX12_addFour_25 : decode cX12_addFour 25 = .ok (.iastore, 1) := by decide +kernel
theorem dX12_addFour_26 : decode cX12_addFour 26 = .ok (.aload_n 0, 1) := by decide +kernel
theorem dX12_addFour_27 : decode cX12_addFour 27 = .ok (.getfield 8, 3) := by decide +kernel
theorem dX12_addFour_30 : decode cX12_addFour 30 = .ok (.iload_n 1, 1) := by decide +kernel
theorem dX12_addFour_31 : decode cX12_addFour 31 = .ok (.iconst 3, 1) := by decide +kernel
theorem dX12_addFour_32 : decode cX12_addFour 32 = .ok (.iadd, 1) := by decide +kernel
theorem dX12_addFour_33 : decode cX12_addFour 33 = .ok (.iload 5, 2) := by decide +kernel
theorem dX12_addFour_35 : decode cX12_addFour 35 = .ok (.iastore, 1) := by decide +kernel
theorem dX12_addFour_36 : decode cX12_addFour 36 = .ok (.return_, 1) := by decide +kernel
theorem dX12_four_0 : decode cX12_four 0 = .ok (.bipush 24, 2) := by decide +kernel
theorem dX12_four_2 : decode cX12_four 2 = .ok (.istore_n 2, 1) := by decide +kernel
theorem dX12_four_3 : decode cX12_four 3 = .ok (.iload_n 2, 1) := by decide +kernel
theorem dX12_four_4 : decode cX12_four 4 = .ok (.ifCond .lt 35, 3) := by decide +kernel
theorem dX12_four_7 : decode cX12_four 7 = .ok (.aload_n 0, 1) := by decide +kernel
theorem dX12_four_8 : decode cX12_four 8 = .ok (.getfield 22, 3) := by decide +kernel
theorem dX12_four_11 : decode cX12_four 11 = .ok (.aload_n 0, 1) := by decide +kernel
theorem dX12_four_12 : decode cX12_four 12 = .ok (.getfield 167, 3) := by decide +kernel
theorem dX12_four_15 : decode cX12_four 15 = .ok (.iload_n 1, 1) := by decide +kernel
theorem dX12_four_16 : decode cX12_four 16 = .ok (.iload_n 2, 1) := by decide +kernel
theorem dX12_four_17 : decode cX12_four 17 = .ok (.ishr, 1) := by decide +kernel
theorem dX12_four_18 : decode cX12_four 18 = .ok (.sipush 255, 3) := by decide +kernel
theorem dX12_four_21 : decode cX12_four 21 = .ok (.iand, 1) := by decide +kernel
theorem dX12_four_22 : decode cX12_four 22 = .ok (.iastore, 1) := by decide +kernel
theorem dX12_four_23 : decode cX12_four 23 = .ok (.aload_n 0, 1) := by decide +kernel
theorem dX12_four_24 : decode cX12_four 24 = .ok (.dup, 1) := by decide +kernel
theorem dX12_four_25 : decode cX12_four 25 = .ok (.getfield 167, 3) := by decide +kernel
theorem dX12_four_28 : decode cX12_four 28 = .ok (.iconst 1, 1) := by decide +kernel
theorem dX12_four_29 : decode cX12_four 29 = .ok (.iadd, 1) := by decide +kernel
theorem dX12_four_30 : decode cX12_four 30 = .ok (.putfield 167, 3) := by decide +kernel
theorem dX12_four_33 : decode cX12_four 33 = .ok (.iinc 2 (-8), 3) := by decide +kernel
theorem dX12_four_36 : decode cX12_four 36 = .ok (.goto (-33), 3) := by decide +kernel
theorem dX12_four_39 : decode cX12_four 39 = .ok (.return_, 1) := by decide +kernel
theorem dX12_feed_0 : decode cX12_feed 0 = .ok (.aload_n 0, 1) := by decide +kernel
theorem dX12_feed_1 : decode cX12_feed 1 = .ok (.iconst 0, 1) := by decide +kernel
theorem dX12_feed_2 : decode cX12_feed 2 = .ok (.putfield 145, 3) := by decide +kernel
theorem dX12_feed_5 : decode cX12_feed 5 = .ok (.aload_n 0, 1) := by decide +kernel
theorem dX12_feed_6 : decode cX12_feed 6 = .ok (.getfield 167, 3) := by decide +kernel
theorem dX12_feed_9 : decode cX12_feed 9 = .ok (.bipush 20, 2) := by decide +kernel
theorem dX12_feed_11 : decode cX12_feed 11 = .ok (.iadd, 1) := by decide +kernel
theorem dX12_feed_12 : decode cX12_feed 12 = .ok (.sipush 400, 3) := by decide +kernel
theorem dX12_feed_15 : decode cX12_feed 15 = .ok (.if_icmp .le 5, 3) := by decide +kernel
theorem dX12_feed_18 : decode cX12_feed 18 = .ok (.iconst (-1), 1) := by decide +kernel
theorem dX12_feed_19 : decode cX12_feed 19 = .ok (.ireturn, 1) := by decide +kernel
theorem dX12_feed_20 : decode cX12_feed 20 = .ok (.aload_n 0, 1) := by decide +kernel
theorem dX12_feed_21 : decode cX12_feed 21 = .ok (.iload_n 1, 1) := by decide +kernel
theorem dX12_feed_22 : decode cX12_feed 22 = .ok (.invokevirtual 173, 3) := by decide +kernel
theorem dX12_feed_25 : decode cX12_feed 25 = .ok (.aload_n 0, 1) := by decide +kernel
theorem dX12_feed_26 : decode cX12_feed 26 = .ok (.iload_n 2, 1) := by decide +kernel
theorem dX12_feed_27 : decode cX12_feed 27 = .ok (.invokevirtual 173, 3) := by decide +kernel
theorem dX12_feed_30 : decode cX12_feed 30 = .ok (.aload_n 0, 1) := by decide +kernel
theorem dX12_feed_31 : decode cX12_feed 31 = .ok (.iload_n 3, 1) := by decide +kernel
theorem dX12_feed_32 : decode cX12_feed 32 = .ok (.invokevirtual 173, 3) := by decide +kernel
theorem dX12_feed_35 : decode cX12_feed 35 = .ok (.aload_n 0, 1) := by decide +kernel
theorem dX12_feed_36 : decode cX12_feed 36 = .ok (.iload 4, 2) := by decide +kernel
theorem dX12_feed_38 : decode cX12_feed 38 = .ok (.invokevirtual 173, 3) := by decide +kernel
theorem dX12_feed_41 : decode cX12_feed 41 = .ok (.aload_n 0, 1) := by decide +kernel
theorem dX12_feed_42 : decode cX12_feed 42 = .ok (.iload 5, 2) := by decide +kernel
theorem dX12_feed_44 : decode cX12_feed 44 = .ok (.invokevirtual 173, 3) := by decide +kernel
theorem dX12_feed_47 : decode cX12_feed 47 = .ok (.aload_n 0, 1) := by decide +kernel
theorem dX12_feed_48 : decode cX12_feed 48 = .ok (.getfield 167, 3) := by decide +kernel
theorem dX12_feed_51 : decode cX12_feed 51 = .ok (.ireturn, 1) := by decide +kernel
theorem dX12_end_0 : decode cX12_end 0 = .ok (.aload_n 0, 1) := by decide +kernel
theorem dX12_end_1 : decode cX12_end 1 = .ok (.iconst 0, 1) := by decide +kernel
theorem dX12_end_2 : decode cX12_end 2 = .ok (.putfield 145, 3) := by decide +kernel
theorem dX12_end_5 : decode cX12_end 5 = .ok (.iload_n 1, 1) := by decide +kernel
theorem dX12_end_6 : decode cX12_end 6 = .ok (.ifCond .lt 11, 3) := by decide +kernel
theorem dX12_end_9 : decode cX12_end 9 = .ok (.iload_n 1, 1) := by decide +kernel
theorem dX12_end_10 : decode cX12_end 10 = .ok (.aload_n 0, 1) := by decide +kernel
theorem dX12_end_11 : decode cX12_end 11 = .ok (.getfield 167, 3) := by decide +kernel
theorem dX12_end_14 : decode cX12_end 14 = .ok (.if_icmp .le 5, 3) := by decide +kernel
theorem dX12_end_17 : decode cX12_end 17 = .ok (.iconst (-1), 1) := by decide +kernel
theorem dX12_end_18 : decode cX12_end 18 = .ok (.ireturn, 1) := by decide +kernel
theorem dX12_end_19 : decode cX12_end 19 = .ok (.aload_n 0, 1) := by decide +kernel
theorem dX12_end_20 : decode cX12_end 20 = .ok (.iload_n 1, 1) := by decide +kernel
theorem dX12_end_21 : decode cX12_end 21 = .ok (.putfield 167, 3) := by decide +kernel
theorem dX12_end_24 : decode cX12_end 24 = .ok (.iload_n 1, 1) := by decide +kernel
theorem dX12_end_25 : decode cX12_end 25 = .ok (.ireturn, 1) := by decide +kernel
theorem dX12_isSmall_0 : decode cX12_isSmall 0 = .ok (.iload_n 0, 1) := by decide +kernel
theorem dX12_isSmall_1 : decode cX12_isSmall 1 = .ok (.bipush 97, 2) := by decide +kernel
theorem dX12_isSmall_3 : decode cX12_isSmall 3 = .ok (.if_icmp .lt 13, 3) := by decide +kernel
theorem dX12_isSmall_6 : decode cX12_isSmall 6 = .ok (.iload_n 0, 1) := by decide +kernel
theorem dX12_isSmall_7 : decode cX12_isSmall 7 = .ok (.bipush 122, 2) := by decide +kernel
theorem dX12_isSmall_9 : decode cX12_isSmall 9 = .ok (.if_icmp .gt 7, 3) := by decide +kernel
theorem dX12_isSmall_12 : decode cX12_isSmall 12 = .ok (.iconst 1, 1) := by decide +kernel
theorem dX12_isSmall_13 : decode cX12_isSmall 13 = .ok (.goto 4, 3) := by decide +kernel
theorem dX12_isSmall_16 : decode cX12_isSmall 16 = .ok (.iconst 0, 1) := by decide +kernel
theorem dX12_isSmall_17 : decode cX12_isSmall 17 = .ok (.ireturn, 1) := by decide +kernel
theorem dX12_isDigit_0 : decode cX12_isDigit 0 = .ok (.iload_n 0, 1) := by decide +kernel
theorem dX12_isDigit_1 : decode cX12_isDigit 1 = .ok (.bipush 48, 2) := by decide +kernel
theorem dX12_isDigit_3 : decode cX12_isDigit 3 = .ok (.if_icmp .lt 13, 3) := by decide +kernel
theorem dX12_isDigit_6 : decode cX12_isDigit 6 = .ok (.iload_n 0, 1) := by decide +kernel
theorem dX12_isDigit_7 : decode cX12_isDigit 7 = .ok (.bipush 57, 2) := by decide +kernel
theorem dX12_isDigit_9 : decode cX12_isDigit 9 = .ok (.if_icmp .gt 7, 3) := by decide +kernel
theorem dX12_isDigit_12 : decode cX12_isDigit 12 = .ok (.iconst 1, 1) := by decide +kernel
theorem dX12_isDigit_13 : decode cX12_isDigit 13 = .ok (.goto 4, 3) := by decide +kernel
theorem dX12_isDigit_16 : decode cX12_isDigit 16 = .ok (.iconst 0, 1) := by decide +kernel
theorem dX12_isDigit_17 : decode cX12_isDigit 17 = .ok (.ireturn, 1) := by decide +kernel
theorem dX12_begin_0 : decode cX12_begin 0 = .ok (.aload_n 0, 1) := by decide +kernel
theorem dX12_begin_1 : decode cX12_begin 1 = .ok (.iconst 0, 1) := by decide +kernel
theorem dX12_begin_2 : decode cX12_begin 2 = .ok (.putfield 177, 3) := by decide +kernel
theorem dX12_begin_5 : decode cX12_begin 5 = .ok (.aload_n 0, 1) := by decide +kernel
theorem dX12_begin_6 : decode cX12_begin 6 = .ok (.iconst 0, 1) := by decide +kernel
theorem dX12_begin_7 : decode cX12_begin 7 = .ok (.putfield 180, 3) := by decide +kernel
theorem dX12_begin_10 : decode cX12_begin 10 = .ok (.aload_n 0, 1) := by decide +kernel
theorem dX12_begin_11 : decode cX12_begin 11 = .ok (.iconst (-1), 1) := by decide +kernel
theorem dX12_begin_12 : decode cX12_begin 12 = .ok (.putfield 25, 3) := by decide +kernel
theorem dX12_begin_15 : decode cX12_begin 15 = .ok (.aload_n 0, 1) := by decide +kernel
theorem dX12_begin_16 : decode cX12_begin 16 = .ok (.invokevirtual 184, 3) := by decide +kernel
theorem dX12_begin_19 : decode cX12_begin 19 = .ok (.return_, 1) := by decide +kernel
theorem dX12_next_0 : decode cX12_next 0 = .ok (.aload_n 0, 1) := by decide +kernel
theorem dX12_next_1 : decode cX12_next 1 = .ok (.aload_n 0, 1) := by decide +kernel
theorem dX12_next_2 : decode cX12_next 2 = .ok (.getfield 177, 3) := by decide +kernel
theorem dX12_next_5 : decode cX12_next 5 = .ok (.putfield 187, 3) := by decide +kernel
theorem dX12_next_8 : decode cX12_next 8 = .ok (.aload_n 0, 1) := by decide +kernel
theorem dX12_next_9 : decode cX12_next 9 = .ok (.getfield 187, 3) := by decide +kernel
theorem dX12_next_12 : decode cX12_next 12 = .ok (.aload_n 0, 1) := by decide +kernel
theorem dX12_next_13 : decode cX12_next 13 = .ok (.getfield 167, 3) := by decide +kernel
theorem dX12_next_16 : decode cX12_next 16 = .ok (.if_icmp .ge 30, 3) := by decide +kernel
theorem dX12_next_19 : decode cX12_next 19 = .ok (.aload_n 0, 1) := by decide +kernel
theorem dX12_next_20 : decode cX12_next 20 = .ok (.getfield 22, 3) := by decide +kernel
theorem dX12_next_23 : decode cX12_next 23 = .ok (.aload_n 0, 1) := by decide +kernel
theorem dX12_next_24 : decode cX12_next 24 = .ok (.getfield 187, 3) := by decide +kernel
theorem dX12_next_27 : decode cX12_next 27 = .ok (.iaload, 1) := by decide +kernel
theorem dX12_next_28 : decode cX12_next 28 = .ok (.bipush 32, 2) := by decide +kernel
theorem dX12_next_30 : decode cX12_next 30 = .ok (.if_icmp .ne 16, 3) := by decide +kernel
theorem dX12_next_33 : decode cX12_next 33 = .ok (.aload_n 0, 1) := by decide +kernel
theorem dX12_next_34 : decode cX12_next 34 = .ok (.dup, 1) := by decide +kernel
theorem dX12_next_35 : decode cX12_next 35 = .ok (.getfield 187, 3) := by decide +kernel
theorem dX12_next_38 : decode cX12_next 38 = .ok (.iconst 1, 1) := by decide +kernel
theorem dX12_next_39 : decode cX12_next 39 = .ok (.iadd, 1) := by decide +kernel
theorem dX12_next_40 : decode cX12_next 40 = .ok (.putfield 187, 3) := by decide +kernel
theorem dX12_next_43 : decode cX12_next 43 = .ok (.goto (-35), 3) := by decide +kernel
theorem dX12_next_46 : decode cX12_next 46 = .ok (.aload_n 0, 1) := by decide +kernel
theorem dX12_next_47 : decode cX12_next 47 = .ok (.aload_n 0, 1) := by decide +kernel
theorem dX12_next_48 : decode cX12_next 48 = .ok (.getfield 187, 3) := by decide +kernel
theorem dX12_next_51 : decode cX12_next 51 = .ok (.putfield 177, 3) := by decide +kernel
theorem dX12_next_54 : decode cX12_next 54 = .ok (.aload_n 0, 1) := by decide +kernel
theorem dX12_next_55 : decode cX12_next 55 = .ok (.lconst 0, 1) := by decide +kernel
theorem dX12_next_56 : decode cX12_next 56 = .ok (.putfield 190, 3) := by decide +kernel
theorem dX12_next_59 : decode cX12_next 59 = .ok (.aload_n 0, 1) := by decide +kernel
theorem dX12_next_60 : decode cX12_next 60 = .ok (.aload_n 0, 1) := by decide +kernel
theorem dX12_next_61 : decode cX12_next 61 = .ok (.getfield 187, 3) := by decide +kernel
theorem dX12_next_64 : decode cX12_next 64 = .ok (.aload_n 0, 1) := by decide +kernel
theorem dX12_next_65 : decode cX12_next 65 = .ok (.getfield 167, 3) := by decide +kernel
theorem dX12_next_68 : decode cX12_next 68 = .ok (.if_icmp .ne 7, 3) := by decide +kernel
theorem dX12_next_71 : decode cX12_next 71 = .ok (.iconst 0, 1) := by decide +kernel
theorem dX12_next_72 : decode cX12_next 72 = .ok (.goto 42, 3) := by decide +kernel
theorem dX12_next_75 : decode cX12_next 75 = .ok (.aload_n 0, 1) := by decide +kernel
theorem dX12_next_76 : decode cX12_next 76 = .ok (.getfield 22, 3) := by decide +kernel
theorem dX12_next_79 : decode cX12_next 79 = .ok (.aload_n 0, 1) := by decide +kernel
theorem dX12_next_80 : decode cX12_next 80 = .ok (.getfield 187, 3) := by decide +kernel
theorem dX12_next_83 : decode cX12_next 83 = .ok (.iaload, 1) := by decide +kernel
theorem dX12_next_84 : decode cX12_next 84 = .ok (.invokestatic 194, 3) := by decide +kernel
theorem dX12_next_87 : decode cX12_next 87 = .ok (.ifCond .eq 7, 3) := by decide +kernel
theorem dX12_next_90 : decode cX12_next 90 = .ok (.iconst 1, 1) := by decide +kernel
theorem dX12_next_91 : decode cX12_next 91 = .ok (.goto 23, 3) := by decide +kernel
theorem dX12_next_94 : decode cX12_next 94 = .ok (.aload_n 0, 1) := by decide +kernel
theorem dX12_next_95 : decode cX12_next 95 = .ok (.getfield 22, 3) := by decide +kernel
theorem dX12_next_98 : decode cX12_next 98 = .ok (.aload_n 0, 1) := by decide +kernel
theorem dX12_next_99 : decode cX12_next 99 = .ok (.getfield 187, 3) := by decide +kernel
theorem dX12_next_102 : decode cX12_next 102 = .ok (.iaload, 1) := by decide +kernel
theorem dX12_next_103 : decode cX12_next 103 = .ok (.invokestatic 198, 3) := by decide +kernel
theorem dX12_next_106 : decode cX12_next 106 = .ok (.ifCond .eq 7, 3) := by decide +kernel
theorem dX12_next_109 : decode cX12_next 109 = .ok (.iconst 2, 1) := by decide +kernel
theorem dX12_next_110 : decode cX12_next 110 = .ok (.goto 4, 3) := by decide +kernel
theorem dX12_next_113 : decode cX12_next 113 = .ok (.iconst 3, 1) := by decide +kernel
theorem dX12_next_114 : decode cX12_next 114 = .ok (.putfield 201, 3) := by decide +kernel
theorem dX12_next_117 : decode cX12_next 117 = .ok (.aload_n 0, 1) := by decide +kernel
theorem dX12_next_118 : decode cX12_next 118 = .ok (.getfield 201, 3) := by decide +kernel
theorem dX12_next_121 : decode cX12_next 121 = .ok (.iconst 3, 1) := by decide +kernel
theorem dX12_next_122 : decode cX12_next 122 = .ok (.if_icmp .ne 27, 3) := by decide +kernel
theorem dX12_next_125 : decode cX12_next 125 = .ok (.aload_n 0, 1) := by decide +kernel
theorem dX12_next_126 : decode cX12_next 126 = .ok (.aload_n 0, 1) := by decide +kernel
theorem dX12_next_127 : decode cX12_next 127 = .ok (.getfield 22, 3) := by decide +kernel
theorem dX12_next_130 : decode cX12_next 130 = .ok (.aload_n 0, 1) := by decide +kernel
theorem dX12_next_131 : decode cX12_next 131 = .ok (.getfield 187, 3) := by decide +kernel
theorem dX12_next_134 : decode cX12_next 134 = .ok (.iaload, 1) := by decide +kernel
theorem dX12_next_135 : decode cX12_next 135 = .ok (.i2l, 1) := by decide +kernel
theorem dX12_next_136 : decode cX12_next 136 = .ok (.putfield 190, 3) := by decide +kernel
theorem dX12_next_139 : decode cX12_next 139 = .ok (.aload_n 0, 1) := by decide +kernel
theorem dX12_next_140 : decode cX12_next 140 = .ok (.dup, 1) := by decide +kernel
theorem dX12_next_141 : decode cX12_next 141 = .ok (.getfield 177, 3) := by decide +kernel
theorem dX12_next_144 : decode cX12_next 144 = .ok (.iconst 1, 1) := by decide +kernel
theorem dX12_next_145 : decode cX12_next 145 = .ok (.iadd, 1) := by decide +kernel
theorem dX12_next_146 : decode cX12_next 146 = .ok (.putfield 177, 3) := by decide +kernel
theorem dX12_next_149 : decode cX12_next 149 = .ok (.aload_n 0, 1) := by decide +kernel
theorem dX12_next_150 : decode cX12_next 150 = .ok (.getfield 201, 3) := by decide +kernel
theorem dX12_next_153 : decode cX12_next 153 = .ok (.iconst 1, 1) := by decide +kernel
theorem dX12_next_154 : decode cX12_next 154 = .ok (.if_icmp .ne 89, 3) := by decide +kernel
theorem dX12_next_157 : decode cX12_next 157 = .ok (.aload_n 0, 1) := by decide +kernel
theorem dX12_next_158 : decode cX12_next 158 = .ok (.getfield 177, 3) := by decide +kernel
theorem dX12_next_161 : decode cX12_next 161 = .ok (.aload_n 0, 1) := by decide +kernel
theorem dX12_next_162 : decode cX12_next 162 = .ok (.getfield 167, 3) := by decide +kernel
theorem dX12_next_165 : decode cX12_next 165 = .ok (.if_icmp .ge 78, 3) := by decide +kernel
theorem dX12_next_168 : decode cX12_next 168 = .ok (.aload_n 0, 1) := by decide +kernel
theorem dX12_next_169 : decode cX12_next 169 = .ok (.getfield 22, 3) := by decide +kernel
theorem dX12_next_172 : decode cX12_next 172 = .ok (.aload_n 0, 1) := by decide +kernel
theorem dX12_next_173 : decode cX12_next 173 = .ok (.getfield 177, 3) := by decide +kernel
theorem dX12_next_176 : decode cX12_next 176 = .ok (.iaload, 1) := by decide +kernel
theorem dX12_next_177 : decode cX12_next 177 = .ok (.invokestatic 194, 3) := by decide +kernel
theorem dX12_next_180 : decode cX12_next 180 = .ok (.ifCond .eq 63, 3) := by decide +kernel
theorem dX12_next_183 : decode cX12_next 183 = .ok (.aload_n 0, 1) := by decide +kernel
theorem dX12_next_184 : decode cX12_next 184 = .ok (.aload_n 0, 1) := by decide +kernel
theorem dX12_next_185 : decode cX12_next 185 = .ok (.getfield 177, 3) := by decide +kernel
theorem dX12_next_188 : decode cX12_next 188 = .ok (.aload_n 0, 1) := by decide +kernel
theorem dX12_next_189 : decode cX12_next 189 = .ok (.getfield 187, 3) := by decide +kernel
theorem dX12_next_192 : decode cX12_next 192 = .ok (.isub, 1) := by decide +kernel
theorem dX12_next_193 : decode cX12_next 193 = .ok (.bipush 10, 2) := by decide +kernel
theorem dX12_next_195 : decode cX12_next 195 = .ok (.if_icmp .ge 29, 3) := by decide +kernel
theorem dX12_next_198 : decode cX12_next 198 = .ok (.aload_n 0, 1) := by decide +kernel
theorem dX12_next_199 : decode cX12_next 199 = .ok (.getfield 190, 3) := by decide +kernel
theorem dX12_next_202 : decode cX12_next 202 = .ok (.ldc2_w 204, 3) := by decide +kernel
theorem dX12_next_205 : decode cX12_next 205 = .ok (.lmul, 1) := by decide +kernel
theorem dX12_next_206 : decode cX12_next 206 = .ok (.aload_n 0, 1) := by decide +kernel
theorem dX12_next_207 : decode cX12_next 207 = .ok (.getfield 22, 3) := by decide +kernel
theorem dX12_next_210 : decode cX12_next 210 = .ok (.aload_n 0, 1) := by decide +kernel
theorem dX12_next_211 : decode cX12_next 211 = .ok (.getfield 177, 3) := by decide +kernel
theorem dX12_next_214 : decode cX12_next 214 = .ok (.iaload, 1) := by decide +kernel
theorem dX12_next_215 : decode cX12_next 215 = .ok (.i2l, 1) := by decide +kernel
theorem dX12_next_216 : decode cX12_next 216 = .ok (.ladd, 1) := by decide +kernel
theorem dX12_next_217 : decode cX12_next 217 = .ok (.ldc2_w 206, 3) := by decide +kernel
theorem dX12_next_220 : decode cX12_next 220 = .ok (.lsub, 1) := by decide +kernel
theorem dX12_next_221 : decode cX12_next 221 = .ok (.goto 6, 3) := by decide +kernel
theorem dX12_next_224 : decode cX12_next 224 = .ok (.ldc2_w 208, 3) := by decide +kernel
theorem dX12_next_227 : decode cX12_next 227 = .ok (.putfield 190, 3) := by decide +kernel
theorem dX12_next_230 : decode cX12_next 230 = .ok (.aload_n 0, 1) := by decide +kernel
theorem dX12_next_231 : decode cX12_next 231 = .ok (.dup, 1) := by decide +kernel
theorem dX12_next_232 : decode cX12_next 232 = .ok (.getfield 177, 3) := by decide +kernel
theorem dX12_next_235 : decode cX12_next 235 = .ok (.iconst 1, 1) := by decide +kernel
theorem dX12_next_236 : decode cX12_next 236 = .ok (.iadd, 1) := by decide +kernel
theorem dX12_next_237 : decode cX12_next 237 = .ok (.putfield 177, 3) := by decide +kernel
theorem dX12_next_240 : decode cX12_next 240 = .ok (.goto (-91), 3) := by decide +kernel
theorem dX12_next_243 : decode cX12_next 243 = .ok (.aload_n 0, 1) := by decide +kernel
theorem dX12_next_244 : decode cX12_next 244 = .ok (.getfield 201, 3) := by decide +kernel
theorem dX12_next_247 : decode cX12_next 247 = .ok (.iconst 2, 1) := by decide +kernel
theorem dX12_next_248 : decode cX12_next 248 = .ok (.if_icmp .ne 87, 3) := by decide +kernel
theorem dX12_next_251 : decode cX12_next 251 = .ok (.aload_n 0, 1) := by decide +kernel
theorem dX12_next_252 : decode cX12_next 252 = .ok (.getfield 177, 3) := by decide +kernel
theorem dX12_next_255 : decode cX12_next 255 = .ok (.aload_n 0, 1) := by decide +kernel
theorem dX12_next_256 : decode cX12_next 256 = .ok (.getfield 167, 3) := by decide +kernel
theorem dX12_next_259 : decode cX12_next 259 = .ok (.if_icmp .ge 76, 3) := by decide +kernel
theorem dX12_next_262 : decode cX12_next 262 = .ok (.aload_n 0, 1) := by decide +kernel
theorem dX12_next_263 : decode cX12_next 263 = .ok (.getfield 22, 3) := by decide +kernel
theorem dX12_next_266 : decode cX12_next 266 = .ok (.aload_n 0, 1) := by decide +kernel
theorem dX12_next_267 : decode cX12_next 267 = .ok (.getfield 177, 3) := by decide +kernel
theorem dX12_next_270 : decode cX12_next 270 = .ok (.iaload, 1) := by decide +kernel
theorem dX12_next_271 : decode cX12_next 271 = .ok (.invokestatic 198, 3) := by decide +kernel
theorem dX12_next_274 : decode cX12_next 274 = .ok (.ifCond .eq 61, 3) := by decide +kernel
theorem dX12_next_277 : decode cX12_next 277 = .ok (.aload_n 0, 1) := by decide +kernel
theorem dX12_next_278 : decode cX12_next 278 = .ok (.aload_n 0, 1) := by decide +kernel
theorem dX12_next_279 : decode cX12_next 279 = .ok (.getfield 190, 3) := by decide +kernel
theorem dX12_next_282 : decode cX12_next 282 = .ok (.ldc2_w 210, 3) := by decide +kernel
theorem dX12_next_285 : decode cX12_next 285 = .ok (.lcmp, 1) := by decide +kernel
theorem dX12_next_286 : decode cX12_next 286 = .ok (.ifCond .le 10, 3) := by decide +kernel
theorem dX12_next_289 : decode cX12_next 289 = .ok (.aload_n 0, 1) := by decide +kernel
theorem dX12_next_290 : decode cX12_next 290 = .ok (.getfield 190, 3) := by decide +kernel
theorem dX12_next_293 : decode cX12_next 293 = .ok (.goto 26, 3) := by decide +kernel
theorem dX12_next_296 : decode cX12_next 296 = .ok (.aload_n 0, 1) := by decide +kernel
theorem dX12_next_297 : decode cX12_next 297 = .ok (.getfield 190, 3) := by decide +kernel
theorem dX12_next_300 : decode cX12_next 300 = .ok (.ldc2_w 212, 3) := by decide +kernel
theorem dX12_next_303 : decode cX12_next 303 = .ok (.lmul, 1) := by decide +kernel
theorem dX12_next_304 : decode cX12_next 304 = .ok (.aload_n 0, 1) := by decide +kernel
theorem dX12_next_305 : decode cX12_next 305 = .ok (.getfield 22, 3) := by decide +kernel
theorem dX12_next_308 : decode cX12_next 308 = .ok (.aload_n 0, 1) := by decide +kernel
theorem dX12_next_309 : decode cX12_next 309 = .ok (.getfield 177, 3) := by decide +kernel
theorem dX12_next_312 : decode cX12_next 312 = .ok (.iaload, 1) := by decide +kernel
theorem dX12_next_313 : decode cX12_next 313 = .ok (.i2l, 1) := by decide +kernel
theorem dX12_next_314 : decode cX12_next 314 = .ok (.ladd, 1) := by decide +kernel
theorem dX12_next_315 : decode cX12_next 315 = .ok (.ldc2_w 214, 3) := by decide +kernel
theorem dX12_next_318 : decode cX12_next 318 = .ok (.lsub, 1) := by decide +kernel
theorem dX12_next_319 : decode cX12_next 319 = .ok (.putfield 190, 3) := by decide +kernel
theorem dX12_next_322 : decode cX12_next 322 = .ok (.aload_n 0, 1) := by decide +kernel
theorem dX12_next_323 : decode cX12_next 323 = .ok (.dup, 1) := by decide +kernel
theorem dX12_next_324 : decode cX12_next 324 = .ok (.getfield 177, 3) := by decide +kernel
theorem dX12_next_327 : decode cX12_next 327 = .ok (.iconst 1, 1) := by decide +kernel
theorem dX12_next_328 : decode cX12_next 328 = .ok (.iadd, 1) := by decide +kernel
theorem dX12_next_329 : decode cX12_next 329 = .ok (.putfield 177, 3) := by decide +kernel
theorem dX12_next_332 : decode cX12_next 332 = .ok (.goto (-89), 3) := by decide +kernel
theorem dX12_next_335 : decode cX12_next 335 = .ok (.return_, 1) := by decide +kernel
theorem dX12_isWord_0 : decode cX12_isWord 0 = .ok (.aload_n 0, 1) := by decide +kernel
theorem dX12_isWord_1 : decode cX12_isWord 1 = .ok (.getfield 201, 3) := by decide +kernel
theorem dX12_isWord_4 : decode cX12_isWord 4 = .ok (.iconst 1, 1) := by decide +kernel
theorem dX12_isWord_5 : decode cX12_isWord 5 = .ok (.if_icmp .ne 16, 3) := by decide +kernel
theorem dX12_isWord_8 : decode cX12_isWord 8 = .ok (.aload_n 0, 1) := by decide +kernel
theorem dX12_isWord_9 : decode cX12_isWord 9 = .ok (.getfield 190, 3) := by decide +kernel
theorem dX12_isWord_12 : decode cX12_isWord 12 = .ok (.lload_n 1, 1) := by decide +kernel
theorem dX12_isWord_13 : decode cX12_isWord 13 = .ok (.lcmp, 1) := by decide +kernel
theorem dX12_isWord_14 : decode cX12_isWord 14 = .ok (.ifCond .ne 7, 3) := by decide +kernel
theorem dX12_isWord_17 : decode cX12_isWord 17 = .ok (.iconst 1, 1) := by decide +kernel
theorem dX12_isWord_18 : decode cX12_isWord 18 = .ok (.goto 4, 3) := by decide +kernel
theorem dX12_isWord_21 : decode cX12_isWord 21 = .ok (.iconst 0, 1) := by decide +kernel
theorem dX12_isWord_22 : decode cX12_isWord 22 = .ok (.ireturn, 1) := by decide +kernel
theorem dX12_isSign_0 : decode cX12_isSign 0 = .ok (.aload_n 0, 1) := by decide +kernel
theorem dX12_isSign_1 : decode cX12_isSign 1 = .ok (.getfield 201, 3) := by decide +kernel
theorem dX12_isSign_4 : decode cX12_isSign 4 = .ok (.iconst 3, 1) := by decide +kernel
theorem dX12_isSign_5 : decode cX12_isSign 5 = .ok (.if_icmp .ne 17, 3) := by decide +kernel
theorem dX12_isSign_8 : decode cX12_isSign 8 = .ok (.aload_n 0, 1) := by decide +kernel
theorem dX12_isSign_9 : decode cX12_isSign 9 = .ok (.getfield 190, 3) := by decide +kernel
theorem dX12_isSign_12 : decode cX12_isSign 12 = .ok (.iload_n 1, 1) := by decide +kernel
theorem dX12_isSign_13 : decode cX12_isSign 13 = .ok (.i2l, 1) := by decide +kernel
theorem dX12_isSign_14 : decode cX12_isSign 14 = .ok (.lcmp, 1) := by decide +kernel
theorem dX12_isSign_15 : decode cX12_isSign 15 = .ok (.ifCond .ne 7, 3) := by decide +kernel
theorem dX12_isSign_18 : decode cX12_isSign 18 = .ok (.iconst 1, 1) := by decide +kernel
theorem dX12_isSign_19 : decode cX12_isSign 19 = .ok (.goto 4, 3) := by decide +kernel
theorem dX12_isSign_22 : decode cX12_isSign 22 = .ok (.iconst 0, 1) := by decide +kernel
theorem dX12_isSign_23 : decode cX12_isSign 23 = .ok (.ireturn, 1) := by decide +kernel
theorem dX12_must_0 : decode cX12_must 0 = .ok (.aload_n 0, 1) := by decide +kernel
theorem dX12_must_1 : decode cX12_must 1 = .ok (.getfield 180, 3) := by decide +kernel
theorem dX12_must_4 : decode cX12_must 4 = .ok (.ifCond .ne 20, 3) := by decide +kernel
theorem dX12_must_7 : decode cX12_must 7 = .ok (.iload_n 1, 1) := by decide +kernel
theorem dX12_must_8 : decode cX12_must 8 = .ok (.ifCond .ne 16, 3) := by decide +kernel
theorem dX12_must_11 : decode cX12_must 11 = .ok (.aload_n 0, 1) := by decide +kernel
theorem dX12_must_12 : decode cX12_must 12 = .ok (.iconst 1, 1) := by decide +kernel
theorem dX12_must_13 : decode cX12_must 13 = .ok (.putfield 180, 3) := by decide +kernel
theorem dX12_must_16 : decode cX12_must 16 = .ok (.aload_n 0, 1) := by decide +kernel
theorem dX12_must_17 : decode cX12_must 17 = .ok (.aload_n 0, 1) := by decide +kernel
theorem dX12_must_18 : decode cX12_must 18 = .ok (.getfield 187, 3) := by decide +kernel
theorem dX12_must_21 : decode cX12_must 21 = .ok (.putfield 25, 3) := by decide +kernel
theorem dX12_must_24 : decode cX12_must 24 = .ok (.aload_n 0, 1) := by decide +kernel
theorem dX12_must_25 : decode cX12_must 25 = .ok (.getfield 180, 3) := by decide +kernel
theorem dX12_must_28 : decode cX12_must 28 = .ok (.ifCond .ne 7, 3) := by decide +kernel
theorem dX12_must_31 : decode cX12_must 31 = .ok (.aload_n 0, 1) := by decide +kernel
theorem dX12_must_32 : decode cX12_must 32 = .ok (.invokevirtual 184, 3) := by decide +kernel
theorem dX12_must_35 : decode cX12_must 35 = .ok (.return_, 1) := by decide +kernel
theorem dX12_number_0 : decode cX12_number 0 = .ok (.aload_n 0, 1) := by decide +kernel
theorem dX12_number_1 : decode cX12_number 1 = .ok (.getfield 190, 3) := by decide +kernel
theorem dX12_number_4 : decode cX12_number 4 = .ok (.l2i, 1) := by decide +kernel
theorem dX12_number_5 : decode cX12_number 5 = .ok (.istore_n 3, 1) := by decide +kernel
theorem dX12_number_6 : decode cX12_number 6 = .ok (.aload_n 0, 1) := by decide +kernel
theorem dX12_number_7 : decode cX12_number 7 = .ok (.aload_n 0, 1) := by decide +kernel
theorem dX12_number_8 : decode cX12_number 8 = .ok (.getfield 201, 3) := by decide +kernel
theorem dX12_number_11 : decode cX12_number 11 = .ok (.iconst 2, 1) := by decide +kernel
theorem dX12_number_12 : decode cX12_number 12 = .ok (.if_icmp .ne 16, 3) := by decide +kernel
theorem dX12_number_15 : decode cX12_number 15 = .ok (.aload_n 0, 1) := by decide +kernel
theorem dX12_number_16 : decode cX12_number 16 = .ok (.getfield 190, 3) := by decide +kernel
theorem dX12_number_19 : decode cX12_number 19 = .ok (.lload_n 1, 1) := by decide +kernel
theorem dX12_number_20 : decode cX12_number 20 = .ok (.lcmp, 1) := by decide +kernel
theorem dX12_number_21 : decode cX12_number 21 = .ok (.ifCond .gt 7, 3) := by decide +kernel
theorem dX12_number_24 : decode cX12_number 24 = .ok (.iconst 1, 1) := by decide +kernel
theorem dX12_number_25 : decode cX12_number 25 = .ok (.goto 4, 3) := by decide +kernel
theorem dX12_number_28 : decode cX12_number 28 = .ok (.iconst 0, 1) := by decide +kernel
theorem dX12_number_29 : decode cX12_number 29 = .ok (.invokevirtual 216, 3) := by decide +kernel
theorem dX12_number_32 : decode cX12_number 32 = .ok (.iload_n 3, 1) := by decide +kernel
theorem dX12_number_33 : decode cX12_number 33 = .ok (.ireturn, 1) := by decide +kernel
theorem dX12_fault_0 : decode cX12_fault 0 = .ok (.aload_n 0, 1) := by decide +kernel
theorem dX12_fault_1 : decode cX12_fault 1 = .ok (.iconst 0, 1) := by decide +kernel
theorem dX12_fault_2 : decode cX12_fault 2 = .ok (.putfield 145, 3) := by decide +kernel
theorem dX12_fault_5 : decode cX12_fault 5 = .ok (.aload_n 0, 1) := by decide +kernel
theorem dX12_fault_6 : decode cX12_fault 6 = .ok (.getfield 25, 3) := by decide +kernel
theorem dX12_fault_9 : decode cX12_fault 9 = .ok (.ireturn, 1) := by decide +kernel
theorem dX12_emit_0 : decode cX12_emit 0 = .ok (.aload_n 0, 1) := by decide +kernel
theorem dX12_emit_1 : decode cX12_emit 1 = .ok (.getfield 32, 3) := by decide +kernel
theorem dX12_emit_4 : decode cX12_emit 4 = .ok (.aload_n 0, 1) := by decide +kernel
theorem dX12_emit_5 : decode cX12_emit 5 = .ok (.getfield 220, 3) := by decide +kernel
theorem dX12_emit_8 : decode cX12_emit 8 = .ok (.iload_n 1, 1) := by decide +kernel
theorem dX12_emit_9 : decode cX12_emit 9 = .ok (.iastore, 1) := by decide +kernel
theorem dX12_emit_10 : decode cX12_emit 10 = .ok (.aload_n 0, 1) := by decide +kernel
theorem dX12_emit_11 : decode cX12_emit 11 = .ok (.getfield 35, 3) := by decide +kernel
theorem dX12_emit_14 : decode cX12_emit 14 = .ok (.aload_n 0, 1) := by decide +kernel
theorem dX12_emit_15 : decode cX12_emit 15 = .ok (.getfield 220, 3) := by decide +kernel
theorem dX12_emit_18 : decode cX12_emit 18 = .ok (.iload_n 2, 1) := by decide +kernel
theorem dX12_emit_19 : decode cX12_emit 19 = .ok (.iastore, 1) := by decide +kernel
theorem dX12_emit_20 : decode cX12_emit 20 = .ok (.aload_n 0, 1) := by decide +kernel
theorem dX12_emit_21 : decode cX12_emit 21 = .ok (.dup, 1) := by decide +kernel
theorem dX12_emit_22 : decode cX12_emit 22 = .ok (.getfield 220, 3) := by decide +kernel
theorem dX12_emit_25 : decode cX12_emit 25 = .ok (.iconst 1, 1) := by decide +kernel
theorem dX12_emit_26 : decode cX12_emit 26 = .ok (.iadd, 1) := by decide +kernel
theorem dX12_emit_27 : decode cX12_emit 27 = .ok (.putfield 220, 3) := by decide +kernel
theorem dX12_emit_30 : decode cX12_emit 30 = .ok (.return_, 1) := by decide +kernel
theorem dX12_push_0 : decode cX12_push 0 = .ok (.aload_n 0, 1) := by decide +kernel
theorem dX12_push_1 : decode cX12_push 1 = .ok (.getfield 38, 3) := by decide +kernel
theorem dX12_push_4 : decode cX12_push 4 = .ok (.aload_n 0, 1) := by decide +kernel
theorem dX12_push_5 : decode cX12_push 5 = .ok (.getfield 223, 3) := by decide +kernel
theorem dX12_push_8 : decode cX12_push 8 = .ok (.iload_n 1, 1) := by decide +kernel
theorem dX12_push_9 : decode cX12_push 9 = .ok (.iastore, 1) := by decide +kernel
theorem dX12_push_10 : decode cX12_push 10 = .ok (.aload_n 0, 1) := by decide +kernel
theorem dX12_push_11 : decode cX12_push 11 = .ok (.getfield 41, 3) := by decide +kernel
theorem dX12_push_14 : decode cX12_push 14 = .ok (.aload_n 0, 1) := by decide +kernel
theorem dX12_push_15 : decode cX12_push 15 = .ok (.getfield 223, 3) := by decide +kernel
theorem dX12_push_18 : decode cX12_push 18 = .ok (.iload_n 2, 1) := by decide +kernel
theorem dX12_push_19 : decode cX12_push 19 = .ok (.iastore, 1) := by decide +kernel
theorem dX12_push_20 : decode cX12_push 20 = .ok (.aload_n 0, 1) := by decide +kernel
theorem dX12_push_21 : decode cX12_push 21 = .ok (.dup, 1) := by decide +kernel
theorem dX12_push_22 : decode cX12_push 22 = .ok (.getfield 223, 3) := by decide +kernel
theorem dX12_push_25 : decode cX12_push 25 = .ok (.iconst 1, 1) := by decide +kernel
theorem dX12_push_26 : decode cX12_push 26 = .ok (.iadd, 1) := by decide +kernel
theorem dX12_push_27 : decode cX12_push 27 = .ok (.putfield 223, 3) := by decide +kernel
theorem dX12_push_30 : decode cX12_push 30 = .ok (.return_, 1) := by decide +kernel
theorem dX12_binds_0 : decode cX12_binds 0 = .ok (.iload_n 0, 1) := by decide +kernel
theorem dX12_binds_1 : decode cX12_binds 1 = .ok (.bipush 30, 2) := by decide +kernel
theorem dX12_binds_3 : decode cX12_binds 3 = .ok (.if_icmp .lt 7, 3) := by decide +kernel
theorem dX12_binds_6 : decode cX12_binds 6 = .ok (.iconst 0, 1) := by decide +kernel
theorem dX12_binds_7 : decode cX12_binds 7 = .ok (.goto 55, 3) := by decide +kernel
theorem dX12_binds_10 : decode cX12_binds 10 = .ok (.iload_n 0, 1) := by decide +kernel
theorem dX12_binds_11 : decode cX12_binds 11 = .ok (.bipush 19, 2) := by decide +kernel
theorem dX12_binds_13 : decode cX12_binds 13 = .ok (.if_icmp .ne 7, 3) := by decide +kernel
theorem dX12_binds_16 : decode cX12_binds 16 = .ok (.iconst 1, 1) := by decide +kernel
theorem dX12_binds_17 : decode cX12_binds 17 = .ok (.goto 45, 3) := by decide +kernel
theorem dX12_binds_20 : decode cX12_binds 20 = .ok (.iload_n 0, 1) := by decide +kernel
theorem dX12_binds_21 : decode cX12_binds 21 = .ok (.bipush 18, 2) := by decide +kernel
theorem dX12_binds_23 : decode cX12_binds 23 = .ok (.if_icmp .ne 7, 3) := by decide +kernel
theorem dX12_binds_26 : decode cX12_binds 26 = .ok (.iconst 2, 1) := by decide +kernel
theorem dX12_binds_27 : decode cX12_binds 27 = .ok (.goto 35, 3) := by decide +kernel
theorem dX12_binds_30 : decode cX12_binds 30 = .ok (.iload_n 0, 1) := by decide +kernel
theorem dX12_binds_31 : decode cX12_binds 31 = .ok (.bipush 17, 2) := by decide +kernel
theorem dX12_binds_33 : decode cX12_binds 33 = .ok (.if_icmp .ne 7, 3) := by decide +kernel
theorem dX12_binds_36 : decode cX12_binds 36 = .ok (.iconst 3, 1) := by decide +kernel
theorem dX12_binds_37 : decode cX12_binds 37 = .ok (.goto 25, 3) := by decide +kernel
theorem dX12_binds_40 : decode cX12_binds 40 = .ok (.iload_n 0, 1) := by decide +kernel
theorem dX12_binds_41 : decode cX12_binds 41 = .ok (.bipush 12, 2) := by decide +kernel
theorem dX12_binds_43 : decode cX12_binds 43 = .ok (.if_icmp .lt 7, 3) := by decide +kernel
theorem dX12_binds_46 : decode cX12_binds 46 = .ok (.iconst 4, 1) := by decide +kernel
theorem dX12_binds_47 : decode cX12_binds 47 = .ok (.goto 15, 3) := by decide +kernel
theorem dX12_binds_50 : decode cX12_binds 50 = .ok (.iload_n 0, 1) := by decide +kernel
theorem dX12_binds_51 : decode cX12_binds 51 = .ok (.bipush 10, 2) := by decide +kernel
theorem dX12_binds_53 : decode cX12_binds 53 = .ok (.if_icmp .lt 8, 3) := by decide +kernel
theorem dX12_binds_56 : decode cX12_binds 56 = .ok (.bipush 6, 2) := by decide +kernel
theorem dX12_binds_58 : decode cX12_binds 58 = .ok (.goto 4, 3) := by decide +kernel
theorem dX12_binds_61 : decode cX12_binds 61 = .ok (.iconst 5, 1) := by decide +kernel
theorem dX12_binds_62 : decode cX12_binds 62 = .ok (.ireturn, 1) := by decide +kernel
theorem dX12_settle_0 : decode cX12_settle 0 = .ok (.aload_n 0, 1) := by decide +kernel
theorem dX12_settle_1 : decode cX12_settle 1 = .ok (.getfield 223, 3) := by decide +kernel
theorem dX12_settle_4 : decode cX12_settle 4 = .ok (.ifCond .le 97, 3) := by decide +kernel
theorem dX12_settle_7 : decode cX12_settle 7 = .ok (.aload_n 0, 1) := by decide +kernel
theorem dX12_settle_8 : decode cX12_settle 8 = .ok (.getfield 38, 3) := by decide +kernel
theorem dX12_settle_11 : decode cX12_settle 11 = .ok (.aload_n 0, 1) := by decide +kernel
theorem dX12_settle_12 : decode cX12_settle 12 = .ok (.getfield 223, 3) := by decide +kernel
theorem dX12_settle_15 : decode cX12_settle 15 = .ok (.iconst 1, 1) := by decide +kernel
theorem dX12_settle_16 : decode cX12_settle 16 = .ok (.isub, 1) := by decide +kernel
theorem dX12_settle_17 : decode cX12_settle 17 = .ok (.iaload, 1) := by decide +kernel
theorem dX12_settle_18 : decode cX12_settle 18 = .ok (.invokestatic 226, 3) := by decide +kernel
theorem dX12_settle_21 : decode cX12_settle 21 = .ok (.iload_n 1, 1) := by decide +kernel
theorem dX12_settle_22 : decode cX12_settle 22 = .ok (.if_icmp .lt 79, 3) := by decide +kernel
theorem dX12_settle_25 : decode cX12_settle 25 = .ok (.aload_n 0, 1) := by decide +kernel
theorem dX12_settle_26 : decode cX12_settle 26 = .ok (.dup, 1) := by decide +kernel
theorem dX12_settle_27 : decode cX12_settle 27 = .ok (.getfield 223, 3) := by decide +kernel
theorem dX12_settle_30 : decode cX12_settle 30 = .ok (.iconst 1, 1) := by decide +kernel
theorem dX12_settle_31 : decode cX12_settle 31 = .ok (.isub, 1) := by decide +kernel
theorem dX12_settle_32 : decode cX12_settle 32 = .ok (.putfield 223, 3) := by decide +kernel
theorem dX12_settle_35 : decode cX12_settle 35 = .ok (.aload_n 0, 1) := by decide +kernel
theorem dX12_settle_36 : decode cX12_settle 36 = .ok (.getfield 38, 3) := by decide +kernel
theorem dX12_settle_39 : decode cX12_settle 39 = .ok (.aload_n 0, 1) := by decide +kernel
theorem dX12_settle_40 : decode cX12_settle 40 = .ok (.getfield 223, 3) := by decide +kernel
theorem dX12_settle_43 : decode cX12_settle 43 = .ok (.iaload, 1) := by decide +kernel
theorem dX12_settle_44 : decode cX12_settle 44 = .ok (.bipush 18, 2) := by decide +kernel
theorem dX12_settle_46 : decode cX12_settle 46 = .ok (.if_icmp .eq 17, 3) := by decide +kernel
theorem dX12_settle_49 : decode cX12_settle 49 = .ok (.aload_n 0, 1) := by decide +kernel
theorem dX12_settle_50 : decode cX12_settle 50 = .ok (.getfield 38, 3) := by decide +kernel
theorem dX12_settle_53 : decode cX12_settle 53 = .ok (.aload_n 0, 1) := by decide +kernel
theorem dX12_settle_54 : decode cX12_settle 54 = .ok (.getfield 223, 3) := by decide +kernel
theorem dX12_settle_57 : decode cX12_settle 57 = .ok (.iaload, 1) := by decide +kernel
theorem dX12_settle_58 : decode cX12_settle 58 = .ok (.bipush 19, 2) := by decide +kernel
theorem dX12_settle_60 : decode cX12_settle 60 = .ok (.if_icmp .ne 24, 3) := by decide +kernel
theorem dX12_settle_63 : decode cX12_settle 63 = .ok (.aload_n 0, 1) := by decide +kernel
theorem dX12_settle_64 : decode cX12_settle 64 = .ok (.getfield 35, 3) := by decide +kernel
theorem dX12_settle_67 : decode cX12_settle 67 = .ok (.aload_n 0, 1) := by decide +kernel
theorem dX12_settle_68 : decode cX12_settle 68 = .ok (.getfield 41, 3) := by decide +kernel
theorem dX12_settle_71 : decode cX12_settle 71 = .ok (.aload_n 0, 1) := by decide +kernel
theorem dX12_settle_72 : decode cX12_settle 72 = .ok (.getfield 223, 3) := by decide +kernel
theorem dX12_settle_75 : decode cX12_settle 75 = .ok (.iaload, 1) := by decide +kernel
theorem dX12_settle_76 : decode cX12_settle 76 = .ok (.aload_n 0, 1) := by decide +kernel
theorem dX12_settle_77 : decode cX12_settle 77 = .ok (.getfield 220, 3) := by decide +kernel
theorem dX12_settle_80 : decode cX12_settle 80 = .ok (.iastore, 1) := by decide +kernel
theorem dX12_settle_81 : decode cX12_settle 81 = .ok (.goto (-81), 3) := by decide +kernel
theorem dX12_settle_84 : decode cX12_settle 84 = .ok (.aload_n 0, 1) := by decide +kernel
theorem dX12_settle_85 : decode cX12_settle 85 = .ok (.aload_n 0, 1) := by decide +kernel
theorem dX12_settle_86 : decode cX12_settle 86 = .ok (.getfield 38, 3) := by decide +kernel
theorem dX12_settle_89 : decode cX12_settle 89 = .ok (.aload_n 0, 1) := by decide +kernel
theorem dX12_settle_90 : decode cX12_settle 90 = .ok (.getfield 223, 3) := by decide +kernel
theorem dX12_settle_93 : decode cX12_settle 93 = .ok (.iaload, 1) := by decide +kernel
theorem dX12_settle_94 : decode cX12_settle 94 = .ok (.iconst 0, 1) := by decide +kernel
theorem dX12_settle_95 : decode cX12_settle 95 = .ok (.invokevirtual 229, 3) := by decide +kernel
theorem dX12_settle_98 : decode cX12_settle 98 = .ok (.goto (-98), 3) := by decide +kernel
theorem dX12_settle_101 : decode cX12_settle 101 = .ok (.return_, 1) := by decide +kernel
theorem dX12_inner_0 : decode cX12_inner 0 = .ok (.iconst (-1), 1) := by decide +kernel
theorem dX12_inner_1 : decode cX12_inner 1 = .ok (.istore_n 1, 1) := by decide +kernel
theorem dX12_inner_2 : decode cX12_inner 2 = .ok (.iconst 0, 1) := by decide +kernel
theorem dX12_inner_3 : decode cX12_inner 3 = .ok (.istore_n 2, 1) := by decide +kernel
theorem dX12_inner_4 : decode cX12_inner 4 = .ok (.iload_n 2, 1) := by decide +kernel
theorem dX12_inner_5 : decode cX12_inner 5 = .ok (.aload_n 0, 1) := by decide +kernel
theorem dX12_inner_6 : decode cX12_inner 6 = .ok (.getfield 223, 3) := by decide +kernel
theorem dX12_inner_9 : decode cX12_inner 9 = .ok (.if_icmp .ge 31, 3) := by decide +kernel
theorem dX12_inner_12 : decode cX12_inner 12 = .ok (.aload_n 0, 1) := by decide +kernel
theorem dX12_inner_13 : decode cX12_inner 13 = .ok (.getfield 38, 3) := by decide +kernel
theorem dX12_inner_16 : decode cX12_inner 16 = .ok (.iload_n 2, 1) := by decide +kernel
theorem dX12_inner_17 : decode cX12_inner 17 = .ok (.iaload, 1) := by decide +kernel
theorem dX12_inner_18 : decode cX12_inner 18 = .ok (.bipush 30, 2) := by decide +kernel
theorem dX12_inner_20 : decode cX12_inner 20 = .ok (.if_icmp .lt 12, 3) := by decide +kernel
theorem dX12_inner_23 : decode cX12_inner 23 = .ok (.aload_n 0, 1) := by decide +kernel
theorem dX12_inner_24 : decode cX12_inner 24 = .ok (.getfield 38, 3) := by decide +kernel
theorem dX12_inner_27 : decode cX12_inner 27 = .ok (.iload_n 2, 1) := by decide +kernel
theorem dX12_inner_28 : decode cX12_inner 28 = .ok (.iaload, 1) := by decide +kernel
theorem dX12_inner_29 : decode cX12_inner 29 = .ok (.goto 4, 3) := by decide +kernel
theorem dX12_inner_32 : decode cX12_inner 32 = .ok (.iload_n 1, 1) := by decide +kernel
theorem dX12_inner_33 : decode cX12_inner 33 = .ok (.istore_n 1, 1) := by decide +kernel
theorem dX12_inner_34 : decode cX12_inner 34 = .ok (.iinc 2 1, 3) := by decide +kernel
theorem dX12_inner_37 : decode cX12_inner 37 = .ok (.goto (-33), 3) := by decide +kernel
theorem dX12_inner_40 : decode cX12_inner 40 = .ok (.iload_n 1, 1) := by decide +kernel
theorem dX12_inner_41 : decode cX12_inner 41 = .ok (.ireturn, 1) := by decide +kernel
theorem dX12_isCompared_0 : decode cX12_isCompared 0 = .ok (.aload_n 0, 1) := by decide +kernel
theorem dX12_isCompared_1 : decode cX12_isCompared 1 = .ok (.getfield 223, 3) := by decide +kernel
theorem dX12_isCompared_4 : decode cX12_isCompared 4 = .ok (.iconst 1, 1) := by decide +kernel
theorem dX12_isCompared_5 : decode cX12_isCompared 5 = .ok (.isub, 1) := by decide +kernel
theorem dX12_isCompared_6 : decode cX12_isCompared 6 = .ok (.istore_n 1, 1) := by decide +kernel
theorem dX12_isCompared_7 : decode cX12_isCompared 7 = .ok (.iload_n 1, 1) := by decide +kernel
theorem dX12_isCompared_8 : decode cX12_isCompared 8 = .ok (.ifCond .lt 28, 3) := by decide +kernel
theorem dX12_isCompared_11 : decode cX12_isCompared 11 = .ok (.aload_n 0, 1) := by decide +kernel
theorem dX12_isCompared_12 : decode cX12_isCompared 12 = .ok (.getfield 38, 3) := by decide +kernel
theorem dX12_isCompared_15 : decode cX12_isCompared 15 = .ok (.iload_n 1, 1) := by decide +kernel
theorem dX12_isCompared_16 : decode cX12_isCompared 16 = .ok (.iaload, 1) := by decide +kernel
theorem dX12_isCompared_17 : decode cX12_isCompared 17 = .ok (.i2l, 1) := by decide +kernel
theorem dX12_isCompared_18 : decode cX12_isCompared 18 = .ok (.ldc2_w 233, 3) := by decide +kernel
theorem dX12_isCompared_21 : decode cX12_isCompared 21 = .ok (.ldc2_w 235, 3) := by decide +kernel
theorem dX12_isCompared_24 : decode cX12_isCompared 24 = .ok (.invokestatic 153, 3) := by decide +kernel
theorem dX12_isCompared_27 : decode cX12_isCompared 27 = .ok (.ifCond .eq 9, 3) := by decide +kernel
theorem dX12_isCompared_30 : decode cX12_isCompared 30 = .ok (.iinc 1 (-1), 3) := by decide +kernel
theorem dX12_isCompared_33 : decode cX12_isCompared 33 = .ok (.goto (-26), 3) := by decide +kernel
theorem dX12_isCompared_36 : decode cX12_isCompared 36 = .ok (.iload_n 1, 1) := by decide +kernel
theorem dX12_isCompared_37 : decode cX12_isCompared 37 = .ok (.ifCond .lt 26, 3) := by decide +kernel
theorem dX12_isCompared_40 : decode cX12_isCompared 40 = .ok (.aload_n 0, 1) := by decide +kernel
theorem dX12_isCompared_41 : decode cX12_isCompared 41 = .ok (.getfield 38, 3) := by decide +kernel
theorem dX12_isCompared_44 : decode cX12_isCompared 44 = .ok (.iload_n 1, 1) := by decide +kernel
theorem dX12_isCompared_45 : decode cX12_isCompared 45 = .ok (.iaload, 1) := by decide +kernel
theorem dX12_isCompared_46 : decode cX12_isCompared 46 = .ok (.i2l, 1) := by decide +kernel
theorem dX12_isCompared_47 : decode cX12_isCompared 47 = .ok (.ldc2_w 237, 3) := by decide +kernel
theorem dX12_isCompared_50 : decode cX12_isCompared 50 = .ok (.ldc2_w 239, 3) := by decide +kernel
theorem dX12_isCompared_53 : decode cX12_isCompared 53 = .ok (.invokestatic 153, 3) := by decide +kernel
theorem dX12_isCompared_56 : decode cX12_isCompared 56 = .ok (.ifCond .eq 7, 3) := by decide +kernel
theorem dX12_isCompared_59 : decode cX12_isCompared 59 = .ok (.iconst 1, 1) := by decide +kernel
theorem dX12_isCompared_60 : decode cX12_isCompared 60 = .ok (.goto 4, 3) := by decide +kernel
theorem dX12_isCompared_63 : decode cX12_isCompared 63 = .ok (.iconst 0, 1) := by decide +kernel
theorem dX12_isCompared_64 : decode cX12_isCompared 64 = .ok (.ireturn, 1) := by decide +kernel
theorem dX12_partAt_0 : decode cX12_partAt 0 = .ok (.aload_n 0, 1) := by decide +kernel
theorem dX12_partAt_1 : decode cX12_partAt 1 = .ok (.ldc2_w 241, 3) := by decide +kernel
theorem dX12_partAt_4 : decode cX12_partAt 4 = .ok (.invokevirtual 243, 3) := by decide +kernel
theorem dX12_partAt_7 : decode cX12_partAt 7 = .ok (.ifCond .ne 23, 3) := by decide +kernel
theorem dX12_partAt_10 : decode cX12_partAt 10 = .ok (.aload_n 0, 1) := by decide +kernel
theorem dX12_partAt_11 : decode cX12_partAt 11 = .ok (.ldc2_w 247, 3) := by decide +kernel
theorem dX12_partAt_14 : decode cX12_partAt 14 = .ok (.invokevirtual 243, 3) := by decide +kernel
theorem dX12_partAt_17 : decode cX12_partAt 17 = .ok (.ifCond .ne 13, 3) := by decide +kernel
theorem dX12_partAt_20 : decode cX12_partAt 20 = .ok (.aload_n 0, 1) := by decide +kernel
theorem dX12_partAt_21 : decode cX12_partAt 21 = .ok (.ldc2_w 249, 3) := by decide +kernel
theorem dX12_partAt_24 : decode cX12_partAt 24 = .ok (.invokevirtual 243, 3) := by decide +kernel
theorem dX12_partAt_27 : decode cX12_partAt 27 = .ok (.ifCond .eq 33, 3) := by decide +kernel
theorem dX12_partAt_30 : decode cX12_partAt 30 = .ok (.aload_n 0, 1) := by decide +kernel
theorem dX12_partAt_31 : decode cX12_partAt 31 = .ok (.ldc2_w 241, 3) := by decide +kernel
theorem dX12_partAt_34 : decode cX12_partAt 34 = .ok (.invokevirtual 243, 3) := by decide +kernel
theorem dX12_partAt_37 : decode cX12_partAt 37 = .ok (.ifCond .eq 7, 3) := by decide +kernel
theorem dX12_partAt_40 : decode cX12_partAt 40 = .ok (.iconst 1, 1) := by decide +kernel
theorem dX12_partAt_41 : decode cX12_partAt 41 = .ok (.goto 18, 3) := by decide +kernel
theorem dX12_partAt_44 : decode cX12_partAt 44 = .ok (.aload_n 0, 1) := by decide +kernel
theorem dX12_partAt_45 : decode cX12_partAt 45 = .ok (.ldc2_w 247, 3) := by decide +kernel
theorem dX12_partAt_48 : decode cX12_partAt 48 = .ok (.invokevirtual 243, 3) := by decide +kernel
theorem dX12_partAt_51 : decode cX12_partAt 51 = .ok (.ifCond .eq 7, 3) := by decide +kernel
theorem dX12_partAt_54 : decode cX12_partAt 54 = .ok (.iconst 2, 1) := by decide +kernel
theorem dX12_partAt_55 : decode cX12_partAt 55 = .ok (.goto 4, 3) := by decide +kernel
theorem dX12_partAt_58 : decode cX12_partAt 58 = .ok (.iconst 3, 1) := by decide +kernel
theorem dX12_partAt_59 : decode cX12_partAt 59 = .ok (.ireturn, 1) := by decide +kernel
theorem dX12_partAt_60 : decode cX12_partAt 60 = .ok (.aload_n 0, 1) := by decide +kernel
theorem dX12_partAt_61 : decode cX12_partAt 61 = .ok (.ldc2_w 251, 3) := by decide +kernel
theorem dX12_partAt_64 : decode cX12_partAt 64 = .ok (.invokevirtual 243, 3) := by decide +kernel
theorem dX12_partAt_67 : decode cX12_partAt 67 = .ok (.ifCond .eq 7, 3) := by decide +kernel
theorem dX12_partAt_70 : decode cX12_partAt 70 = .ok (.iconst 4, 1) := by decide +kernel
theorem dX12_partAt_71 : decode cX12_partAt 71 = .ok (.goto 48, 3) := by decide +kernel
theorem dX12_partAt_74 : decode cX12_partAt 74 = .ok (.aload_n 0, 1) := by decide +kernel
theorem dX12_partAt_75 : decode cX12_partAt 75 = .ok (.ldc2_w 253, 3) := by decide +kernel
theorem dX12_partAt_78 : decode cX12_partAt 78 = .ok (.invokevirtual 243, 3) := by decide +kernel
theorem dX12_partAt_81 : decode cX12_partAt 81 = .ok (.ifCond .eq 7, 3) := by decide +kernel
theorem dX12_partAt_84 : decode cX12_partAt 84 = .ok (.iconst 5, 1) := by decide +kernel
theorem dX12_partAt_85 : decode cX12_partAt 85 = .ok (.goto 34, 3) := by decide +kernel
theorem dX12_partAt_88 : decode cX12_partAt 88 = .ok (.aload_n 0, 1) := by decide +kernel
theorem dX12_partAt_89 : decode cX12_partAt 89 = .ok (.ldc2_w 255, 3) := by decide +kernel
theorem dX12_partAt_92 : decode cX12_partAt 92 = .ok (.invokevirtual 243, 3) := by decide +kernel
theorem dX12_partAt_95 : decode cX12_partAt 95 = .ok (.ifCond .eq 8, 3) := by decide +kernel
theorem dX12_partAt_98 : decode cX12_partAt 98 = .ok (.bipush 6, 2) := by decide +kernel
theorem dX12_partAt_100 : decode cX12_partAt 100 = .ok (.goto 19, 3) := by decide +kernel
theorem dX12_partAt_103 : decode cX12_partAt 103 = .ok (.aload_n 0, 1) := by decide +kernel
theorem dX12_partAt_104 : decode cX12_partAt 104 = .ok (.ldc2_w 257, 3) := by decide +kernel
theorem dX12_partAt_107 : decode cX12_partAt 107 = .ok (.invokevirtual 243, 3) := by decide +kernel
theorem dX12_partAt_110 : decode cX12_partAt 110 = .ok (.ifCond .eq 8, 3) := by decide +kernel
theorem dX12_partAt_113 : decode cX12_partAt 113 = .ok (.bipush 7, 2) := by decide +kernel
theorem dX12_partAt_115 : decode cX12_partAt 115 = .ok (.goto 4, 3) := by decide +kernel
theorem dX12_partAt_118 : decode cX12_partAt 118 = .ok (.iconst (-1), 1) := by decide +kernel
theorem dX12_partAt_119 : decode cX12_partAt 119 = .ok (.ireturn, 1) := by decide +kernel
theorem dX12_open_0 : decode cX12_open 0 = .ok (.aload_n 0, 1) := by decide +kernel
theorem dX12_open_1 : decode cX12_open 1 = .ok (.aload_n 0, 1) := by decide +kernel
theorem dX12_open_2 : decode cX12_open 2 = .ok (.getfield 259, 3) := by decide +kernel
theorem dX12_open_5 : decode cX12_open 5 = .ok (.bipush 8, 2) := by decide +kernel
theorem dX12_open_7 : decode cX12_open 7 = .ok (.if_icmp .ge 7, 3) := by decide +kernel
theorem dX12_open_10 : decode cX12_open 10 = .ok (.iconst 1, 1) := by decide +kernel
theorem dX12_open_11 : decode cX12_open 11 = .ok (.goto 4, 3) := by decide +kernel
theorem dX12_open_14 : decode cX12_open 14 = .ok (.iconst 0, 1) := by decide +kernel
theorem dX12_open_15 : decode cX12_open 15 = .ok (.invokevirtual 216, 3) := by decide +kernel
theorem dX12_open_18 : decode cX12_open 18 = .ok (.aload_n 0, 1) := by decide +kernel
theorem dX12_open_19 : decode cX12_open 19 = .ok (.getfield 180, 3) := by decide +kernel
theorem dX12_open_22 : decode cX12_open 22 = .ok (.ifCond .ne 19, 3) := by decide +kernel
theorem dX12_open_25 : decode cX12_open 25 = .ok (.aload_n 0, 1) := by decide +kernel
theorem dX12_open_26 : decode cX12_open 26 = .ok (.dup, 1) := by decide +kernel
theorem dX12_open_27 : decode cX12_open 27 = .ok (.getfield 259, 3) := by decide +kernel
theorem dX12_open_30 : decode cX12_open 30 = .ok (.iconst 1, 1) := by decide +kernel
theorem dX12_open_31 : decode cX12_open 31 = .ok (.iadd, 1) := by decide +kernel
theorem dX12_open_32 : decode cX12_open 32 = .ok (.putfield 259, 3) := by decide +kernel
theorem dX12_open_35 : decode cX12_open 35 = .ok (.aload_n 0, 1) := by decide +kernel
theorem dX12_open_36 : decode cX12_open 36 = .ok (.iload_n 1, 1) := by decide +kernel
theorem dX12_open_37 : decode cX12_open 37 = .ok (.iconst 0, 1) := by decide +kernel
theorem dX12_open_38 : decode cX12_open 38 = .ok (.invokevirtual 262, 3) := by decide +kernel
theorem dX12_open_41 : decode cX12_open 41 = .ok (.return_, 1) := by decide +kernel
def W_X12_init_0 (X : Sx) (l : Launch) (D : Nat) (x0 : Nat) (σ : AH) (r : Option Value) (σ' : AH) : Prop := kd σ x0 = (12, NO 12) ∧ x0 < nx σ ∧ 1 ≤ D ∧ (∀ τ1 : AH, τ1 = (aw σ 100 269832) → al m_X12_init x0 ∧ (Sh τ1 → Sh (sR τ1 x0 2 (some (nx σ)))) ∧ (∀ τ10 : AH, τ10 = (sR τ1 x0 2 (some (nx σ))) → (∀ τ15 : AH, τ15 = (aw τ10 100 809496) → al m_X12_init x0 ∧ (Sh τ15 → Sh (sR τ15 x0 3 (some (nx τ10)))) ∧ (∀ τ24 : AH, τ24 = (sR τ15 x0 3 (some (nx τ10))) → (∀ τ29 : AH, τ29 = (aw τ24 101 3) → al m_X12_init x0 ∧ (Sh τ29 → Sh (sR τ29 x0 4 (some (nx τ24)))) ∧ (∀ τ38 : AH, τ38 = (sR τ29 x0 4 (some (nx τ24))) → (∀ τ43 : AH, τ43 = (aw τ38 100 400) → al m_X12_init x0 ∧ (Sh τ43 → Sh (sR τ43 x0 5 (some (nx τ38)))) ∧ (∀ τ52 : AH, τ52 = (sR τ43 x0 5 (some (nx τ38))) → al m_X12_init x0 ∧ (∀ τ58 : AH, τ58 = (aw (sI τ52 x0 11 (-1 : Int32)) 100 144) → al m_X12_init x0 ∧ (Sh τ58 → Sh (sR τ58 x0 14 (some (nx (sI τ52 x0 11 (-1 : Int32)))))) ∧ (∀ τ67 : AH, τ67 = (sR τ58 x0 14 (some (nx (sI τ52 x0 11 (-1 : Int32))))) → (∀ τ72 : AH, τ72 = (aw τ67 100 400) → al m_X12_init x0 ∧ (Sh τ72 → Sh (sR τ72 x0 16 (some (nx τ67)))) ∧ (∀ τ81 : AH, τ81 = (sR τ72 x0 16 (some (nx τ67))) → (∀ τ86 : AH, τ86 = (aw τ81 100 400) → al m_X12_init x0 ∧ (Sh τ86 → Sh (sR τ86 x0 17 (some (nx τ81)))) ∧ (∀ τ95 : AH, τ95 = (sR τ86 x0 17 (some (nx τ81))) → (∀ τ100 : AH, τ100 = (aw τ95 100 400) → al m_X12_init x0 ∧ (Sh τ100 → Sh (sR τ100 x0 19 (some (nx τ95)))) ∧ (∀ τ109 : AH, τ109 = (sR τ100 x0 19 (some (nx τ95))) → (∀ τ114 : AH, τ114 = (aw τ109 100 400) → al m_X12_init x0 ∧ (Sh τ114 → Sh (sR τ114 x0 20 (some (nx τ109)))) ∧ (∀ τ123 : AH, τ123 = (sR τ114 x0 20 (some (nx τ109))) → al m_X12_init x0 ∧ (∀ τ129 : AH, τ129 = (aw (sI τ123 x0 24 (-1 : Int32)) 101 24) → al m_X12_init x0 ∧ (Sh τ129 → Sh (sR τ129 x0 25 (some (nx (sI τ123 x0 24 (-1 : Int32)))))) ∧ (∀ τ138 : AH, τ138 = (sR τ129 x0 25 (some (nx (sI τ123 x0 24 (-1 : Int32))))) → (∀ τ143 : AH, τ143 = (aw τ138 101 384) → al m_X12_init x0 ∧ (Sh τ143 → Sh (sR τ143 x0 26 (some (nx τ138)))) ∧ (∀ τ152 : AH, τ152 = (sR τ143 x0 26 (some (nx τ138))) → (∀ τ157 : AH, τ157 = (aw τ152 100 8) → al m_X12_init x0 ∧ (Sh τ157 → Sh (sR τ157 x0 27 (some (nx τ152)))) ∧ (∀ τ166 : AH, τ166 = (sR τ157 x0 27 (some (nx τ152))) → (∀ τ171 : AH, τ171 = (aw τ166 102 400) → al m_X12_init x0 ∧ (Sh τ171 → Sh (sR τ171 x0 28 (some (nx τ166)))) ∧ (∀ τ180 : AH, τ180 = (sR τ171 x0 28 (some (nx τ166))) → (∀ τ185 : AH, τ185 = (aw τ180 100 84240) → al m_X12_init x0 ∧ (Sh τ185 → Sh (sR τ185 x0 33 (some (nx τ180)))) ∧ (∀ τ194 : AH, τ194 = (sR τ185 x0 33 (some (nx τ180))) → (∀ τ199 : AH, τ199 = (aw τ194 100 260) → al m_X12_init x0 ∧ (Sh τ199 → Sh (sR τ199 x0 34 (some (nx τ194)))) ∧ (∀ τ208 : AH, τ208 = (sR τ199 x0 34 (some (nx τ194))) → (∀ τ213 : AH, τ213 = (aw τ208 100 30) → al m_X12_init x0 ∧ (Sh τ213 → Sh (sR τ213 x0 35 (some (nx τ208)))) ∧ (∀ τ222 : AH, τ222 = (sR τ213 x0 35 (some (nx τ208))) → (∀ τ227 : AH, τ227 = (aw τ222 101 30) → al m_X12_init x0 ∧ (Sh τ227 → Sh (sR τ227 x0 36 (some (nx τ222)))) ∧ (∀ τ236 : AH, τ236 = (sR τ227 x0 36 (some (nx τ222))) → (∀ τ241 : AH, τ241 = (aw τ236 100 5) → al m_X12_init x0 ∧ (Sh τ241 → Sh (sR τ241 x0 37 (some (nx τ236)))) ∧ (∀ τ250 : AH, τ250 = (sR τ241 x0 37 (some (nx τ236))) → (∀ τ255 : AH, τ255 = (aw τ250 100 6) → al m_X12_init x0 ∧ (Sh τ255 → Sh (sR τ255 x0 38 (some (nx τ250)))) ∧ (∀ τ264 : AH, τ264 = (sR τ255 x0 38 (some (nx τ250))) → (∀ τ269 : AH, τ269 = (aw τ264 100 30) → al m_X12_init x0 ∧ (Sh τ269 → Sh (sR τ269 x0 39 (some (nx τ264)))) ∧ (∀ τ278 : AH, τ278 = (sR τ269 x0 39 (some (nx τ264))) → (∀ τ283 : AH, τ283 = (aw τ278 101 30) → al m_X12_init x0 ∧ (Sh τ283 → Sh (sR τ283 x0 40 (some (nx τ278)))) ∧ (∀ τ292 : AH, τ292 = (sR τ283 x0 40 (some (nx τ278))) → (∀ τ297 : AH, τ297 = (aw τ292 100 30) → al m_X12_init x0 ∧ (Sh τ297 → Sh (sR τ297 x0 41 (some (nx τ292)))) ∧ (∀ τ306 : AH, τ306 = (sR τ297 x0 41 (some (nx τ292))) → (∀ τ311 : AH, τ311 = (aw τ306 101 30) → al m_X12_init x0 ∧ (Sh τ311 → Sh (sR τ311 x0 42 (some (nx τ306)))) ∧ (∀ τ320 : AH, τ320 = (sR τ311 x0 42 (some (nx τ306))) → (∀ τ325 : AH, τ325 = (aw τ320 100 90) → al m_X12_init x0 ∧ (Sh τ325 → Sh (sR τ325 x0 43 (some (nx τ320)))) ∧ (∀ τ334 : AH, τ334 = (sR τ325 x0 43 (some (nx τ320))) → (∀ τ339 : AH, τ339 = (aw τ334 100 90) → al m_X12_init x0 ∧ (Sh τ339 → Sh (sR τ339 x0 44 (some (nx τ334)))) ∧ (∀ τ348 : AH, τ348 = (sR τ339 x0 44 (some (nx τ334))) → (∀ τ353 : AH, τ353 = (aw τ348 100 30) → al m_X12_init x0 ∧ (Sh τ353 → Sh (sR τ353 x0 46 (some (nx τ348)))) ∧ (∀ τ362 : AH, τ362 = (sR τ353 x0 46 (some (nx τ348))) → (∀ τ367 : AH, τ367 = (aw τ362 100 30) → al m_X12_init x0 ∧ (Sh τ367 → Sh (sR τ367 x0 47 (some (nx τ362)))) ∧ (∀ τ376 : AH, τ376 = (sR τ367 x0 47 (some (nx τ362))) → (∀ τ381 : AH, τ381 = (aw τ376 100 6) → al m_X12_init x0 ∧ (Sh τ381 → Sh (sR τ381 x0 49 (some (nx τ376)))) ∧ (∀ τ390 : AH, τ390 = (sR τ381 x0 49 (some (nx τ376))) → (∀ τ395 : AH, τ395 = (aw τ390 100 6) → al m_X12_init x0 ∧ (Sh τ395 → Sh (sR τ395 x0 52 (some (nx τ390)))) ∧ (∀ τ404 : AH, τ404 = (sR τ395 x0 52 (some (nx τ390))) → (∀ τ409 : AH, τ409 = (aw τ404 100 5) → al m_X12_init x0 ∧ (Sh τ409 → Sh (sR τ409 x0 54 (some (nx τ404)))) ∧ (∀ τ418 : AH, τ418 = (sR τ409 x0 54 (some (nx τ404))) → (∀ τ423 : AH, τ423 = (aw τ418 100 30) → al m_X12_init x0 ∧ (Sh τ423 → Sh (sR τ423 x0 55 (some (nx τ418)))) ∧ (∀ τ432 : AH, τ432 = (sR τ423 x0 55 (some (nx τ418))) → (∀ τ437 : AH, τ437 = (aw τ432 101 30) → al m_X12_init x0 ∧ (Sh τ437 → Sh (sR τ437 x0 56 (some (nx τ432)))) ∧ (∀ τ446 : AH, τ446 = (sR τ437 x0 56 (some (nx τ432))) → (∀ τ451 : AH, τ451 = (aw τ446 100 30) → al m_X12_init x0 ∧ (Sh τ451 → Sh (sR τ451 x0 57 (some (nx τ446)))) ∧ (∀ τ460 : AH, τ460 = (sR τ451 x0 57 (some (nx τ446))) → (∀ τ465 : AH, τ465 = (aw τ460 100 90) → al m_X12_init x0 ∧ (Sh τ465 → Sh (sR τ465 x0 58 (some (nx τ460)))) ∧ (∀ τ474 : AH, τ474 = (sR τ465 x0 58 (some (nx τ460))) → (∀ τ479 : AH, τ479 = (aw τ474 100 90) → al m_X12_init x0 ∧ (Sh τ479 → Sh (sR τ479 x0 59 (some (nx τ474)))) ∧ (∀ τ488 : AH, τ488 = (sR τ479 x0 59 (some (nx τ474))) → (∀ τ493 : AH, τ493 = (aw τ488 100 60) → al m_X12_init x0 ∧ (Sh τ493 → Sh (sR τ493 x0 62 (some (nx τ488)))) ∧ (∀ τ502 : AH, τ502 = (sR τ493 x0 62 (some (nx τ488))) → (∀ τ507 : AH, τ507 = (aw τ502 102 60) → al m_X12_init x0 ∧ (Sh τ507 → Sh (sR τ507 x0 63 (some (nx τ502)))) ∧ (∀ τ516 : AH, τ516 = (sR τ507 x0 63 (some (nx τ502))) → (∀ τ521 : AH, τ521 = (aw τ516 100 60) → al m_X12_init x0 ∧ (Sh τ521 → Sh (sR τ521 x0 64 (some (nx τ516)))) ∧ (∀ τ530 : AH, τ530 = (sR τ521 x0 64 (some (nx τ516))) → (∀ τ535 : AH, τ535 = (aw τ530 100 60) → al m_X12_init x0 ∧ (Sh τ535 → Sh (sR τ535 x0 66 (some (nx τ530)))) ∧ (∀ τ544 : AH, τ544 = (sR τ535 x0 66 (some (nx τ530))) → (∀ τ549 : AH, τ549 = (aw τ544 100 30) → al m_X12_init x0 ∧ (Sh τ549 → Sh (sR τ549 x0 67 (some (nx τ544)))) ∧ (∀ τ558 : AH, τ558 = (sR τ549 x0 67 (some (nx τ544))) → (∀ τ563 : AH, τ563 = (aw τ558 100 30) → al m_X12_init x0 ∧ (Sh τ563 → Sh (sR τ563 x0 68 (some (nx τ558)))) ∧ (∀ τ572 : AH, τ572 = (sR τ563 x0 68 (some (nx τ558))) → (r = none ∧ σ' = τ572)))))))))))))))))))))))))))))))))))))))))))))))))))))))))))))))))))))))))))))))))))
set_option maxRecDepth 100000 in
theorem w_X12_init_0 {X : Sx} {l : Launch} {D : Nat} {x0 : Nat} {σ : AH} {r : Option Value} {σ' : AH} (h : W_X12_init_0 X l D x0 σ r σ') : E X l m_X12_init D 0 [(0, .ref x0)] [] σ r σ' := by
  unfold W_X12_init_0 at h
  obtain ⟨hkx0, hbx0, h⟩ := h
  refine E_aload_n 0 dX12_init_0 rfl rfl ?_
  obtain ⟨g577, h⟩ := h
  refine E_objInit dX12_init_1 mo_X12_1 g577 (Nat.le_of_ble_eq_true rfl) ?_
  refine E_aload_n 0 dX12_init_4 rfl rfl ?_
  refine E_ldc (269832 : Int32) dX12_init_5 ct_X12_7 ?_
  refine E_newaI 269832 dX12_init_7 ac_int (by decide) (by decide) (by decide) ?_
  obtain ⟨τ1, e2⟩ : ∃ τ : AH, τ = (aw σ 100 269832) := ⟨_, rfl⟩
  replace h := h τ1 e2
  rw [← e2]
  have hk4 : kd _ x0 = (12, NO 12) := (congrFun (congrArg kd e2) _).trans ((up_ne _ _ _ (Nat.ne_of_lt hbx0)).trans hkx0)
  have hb5 := Nat.lt_of_lt_of_eq (Nat.lt_succ_of_lt hbx0) (congrArg nx e2).symm
  have hk6 : kd _ (nx σ) = (100, 269832) := (congrFun (congrArg kd e2) _).trans (up_same _ _ _)
  have hb7 := Nat.lt_of_lt_of_eq (Nat.lt_succ_self _) (congrArg nx e2).symm
  obtain ⟨ga8, h⟩ := h
  obtain ⟨g9, h⟩ := h
  refine E_putR dX12_init_9 fl_X12_8 rfl (Or.inr ⟨rfl, rfl, rfl⟩) hk4 hb5 ga8 g9 ?_
  obtain ⟨τ10, e11⟩ : ∃ τ : AH, τ = (sR τ1 x0 2 (some (nx σ))) := ⟨_, rfl⟩
  replace h := h τ10 e11
  rw [← e11]
  have hk13 : kd _ x0 = (12, NO 12) := (congrFun (congrArg kd e11) _).trans hk4
  have hb14 := Nat.lt_of_lt_of_eq hb5 (congrArg nx e11).symm
  refine E_aload_n 0 dX12_init_12 rfl rfl ?_
  refine E_ldc (809496 : Int32) dX12_init_13 ct_X12_14 ?_
  refine E_newaI 809496 dX12_init_15 ac_int (by decide) (by decide) (by decide) ?_
  obtain ⟨τ15, e16⟩ : ∃ τ : AH, τ = (aw τ10 100 809496) := ⟨_, rfl⟩
  replace h := h τ15 e16
  rw [← e16]
  have hk18 : kd _ x0 = (12, NO 12) := (congrFun (congrArg kd e16) _).trans ((up_ne _ _ _ (Nat.ne_of_lt hb14)).trans hk13)
  have hb19 := Nat.lt_of_lt_of_eq (Nat.lt_succ_of_lt hb14) (congrArg nx e16).symm
  have hk20 : kd _ (nx τ10) = (100, 809496) := (congrFun (congrArg kd e16) _).trans (up_same _ _ _)
  have hb21 := Nat.lt_of_lt_of_eq (Nat.lt_succ_self _) (congrArg nx e16).symm
  obtain ⟨ga22, h⟩ := h
  obtain ⟨g23, h⟩ := h
  refine E_putR dX12_init_17 fl_X12_15 rfl (Or.inr ⟨rfl, rfl, rfl⟩) hk18 hb19 ga22 g23 ?_
  obtain ⟨τ24, e25⟩ : ∃ τ : AH, τ = (sR τ15 x0 3 (some (nx τ10))) := ⟨_, rfl⟩
  replace h := h τ24 e25
  rw [← e25]
  have hk27 : kd _ x0 = (12, NO 12) := (congrFun (congrArg kd e25) _).trans hk18
  have hb28 := Nat.lt_of_lt_of_eq hb19 (congrArg nx e25).symm
  refine E_aload_n 0 dX12_init_20 rfl rfl ?_
  refine E_iconst (3 : Int32) dX12_init_21 (by decide) ?_
  refine E_newaZ 3 dX12_init_22 ac_boolean (by decide) (by decide) (by decide) ?_
  obtain ⟨τ29, e30⟩ : ∃ τ : AH, τ = (aw τ24 101 3) := ⟨_, rfl⟩
  replace h := h τ29 e30
  rw [← e30]
  have hk32 : kd _ x0 = (12, NO 12) := (congrFun (congrArg kd e30) _).trans ((up_ne _ _ _ (Nat.ne_of_lt hb28)).trans hk27)
  have hb33 := Nat.lt_of_lt_of_eq (Nat.lt_succ_of_lt hb28) (congrArg nx e30).symm
  have hk34 : kd _ (nx τ24) = (101, 3) := (congrFun (congrArg kd e30) _).trans (up_same _ _ _)
  have hb35 := Nat.lt_of_lt_of_eq (Nat.lt_succ_self _) (congrArg nx e30).symm
  obtain ⟨ga36, h⟩ := h
  obtain ⟨g37, h⟩ := h
  refine E_putR dX12_init_24 fl_X12_18 rfl (Or.inr ⟨rfl, rfl, rfl⟩) hk32 hb33 ga36 g37 ?_
  obtain ⟨τ38, e39⟩ : ∃ τ : AH, τ = (sR τ29 x0 4 (some (nx τ24))) := ⟨_, rfl⟩
  replace h := h τ38 e39
  rw [← e39]
  have hk41 : kd _ x0 = (12, NO 12) := (congrFun (congrArg kd e39) _).trans hk32
  have hb42 := Nat.lt_of_lt_of_eq hb33 (congrArg nx e39).symm
  refine E_aload_n 0 dX12_init_27 rfl rfl ?_
  refine E_sipush (400 : Int32) dX12_init_28 (by decide) ?_
  refine E_newaI 400 dX12_init_31 ac_int (by decide) (by decide) (by decide) ?_
  obtain ⟨τ43, e44⟩ : ∃ τ : AH, τ = (aw τ38 100 400) := ⟨_, rfl⟩
  replace h := h τ43 e44
  rw [← e44]
  have hk46 : kd _ x0 = (12, NO 12) := (congrFun (congrArg kd e44) _).trans ((up_ne _ _ _ (Nat.ne_of_lt hb42)).trans hk41)
  have hb47 := Nat.lt_of_lt_of_eq (Nat.lt_succ_of_lt hb42) (congrArg nx e44).symm
  have hk48 : kd _ (nx τ38) = (100, 400) := (congrFun (congrArg kd e44) _).trans (up_same _ _ _)
  have hb49 := Nat.lt_of_lt_of_eq (Nat.lt_succ_self _) (congrArg nx e44).symm
  obtain ⟨ga50, h⟩ := h
  obtain ⟨g51, h⟩ := h
  refine E_putR dX12_init_33 fl_X12_22 rfl (Or.inr ⟨rfl, rfl, rfl⟩) hk46 hb47 ga50 g51 ?_
  obtain ⟨τ52, e53⟩ : ∃ τ : AH, τ = (sR τ43 x0 5 (some (nx τ38))) := ⟨_, rfl⟩
  replace h := h τ52 e53
  rw [← e53]
  have hk55 : kd _ x0 = (12, NO 12) := (congrFun (congrArg kd e53) _).trans hk46
  have hb56 := Nat.lt_of_lt_of_eq hb47 (congrArg nx e53).symm
  refine E_aload_n 0 dX12_init_36 rfl rfl ?_
  refine E_iconst (-1 : Int32) dX12_init_37 (by decide) ?_
  obtain ⟨ga57, h⟩ := h
  refine E_putI dX12_init_38 fl_X12_25 rfl (Or.inl rfl) hk55 hb56 ga57 rfl rfl ?_
  refine E_aload_n 0 dX12_init_41 rfl rfl ?_
  refine E_sipush (144 : Int32) dX12_init_42 (by decide) ?_
  refine E_newaI 144 dX12_init_45 ac_int (by decide) (by decide) (by decide) ?_
  obtain ⟨τ58, e59⟩ : ∃ τ : AH, τ = (aw (sI τ52 x0 11 (-1 : Int32)) 100 144) := ⟨_, rfl⟩
  replace h := h τ58 e59
  rw [← e59]
  have hk61 : kd _ x0 = (12, NO 12) := (congrFun (congrArg kd e59) _).trans ((up_ne _ _ _ (Nat.ne_of_lt hb56)).trans hk55)
  have hb62 := Nat.lt_of_lt_of_eq (Nat.lt_succ_of_lt hb56) (congrArg nx e59).symm
  have hk63 : kd _ (nx (sI τ52 x0 11 (-1 : Int32))) = (100, 144) := (congrFun (congrArg kd e59) _).trans (up_same _ _ _)
  have hb64 := Nat.lt_of_lt_of_eq (Nat.lt_succ_self _) (congrArg nx e59).symm
  obtain ⟨ga65, h⟩ := h
  obtain ⟨g66, h⟩ := h
  refine E_putR dX12_init_47 fl_X12_29 rfl (Or.inr ⟨rfl, rfl, rfl⟩) hk61 hb62 ga65 g66 ?_
  obtain ⟨τ67, e68⟩ : ∃ τ : AH, τ = (sR τ58 x0 14 (some (nx (sI τ52 x0 11 (-1 : Int32))))) := ⟨_, rfl⟩
  replace h := h τ67 e68
  rw [← e68]
  have hk70 : kd _ x0 = (12, NO 12) := (congrFun (congrArg kd e68) _).trans hk61
  have hb71 := Nat.lt_of_lt_of_eq hb62 (congrArg nx e68).symm
  refine E_aload_n 0 dX12_init_50 rfl rfl ?_
  refine E_sipush (400 : Int32) dX12_init_51 (by decide) ?_
  refine E_newaI 400 dX12_init_54 ac_int (by decide) (by decide) (by decide) ?_
  obtain ⟨τ72, e73⟩ : ∃ τ : AH, τ = (aw τ67 100 400) := ⟨_, rfl⟩
  replace h := h τ72 e73
  rw [← e73]
  have hk75 : kd _ x0 = (12, NO 12) := (congrFun (congrArg kd e73) _).trans ((up_ne _ _ _ (Nat.ne_of_lt hb71)).trans hk70)
  have hb76 := Nat.lt_of_lt_of_eq (Nat.lt_succ_of_lt hb71) (congrArg nx e73).symm
  have hk77 : kd _ (nx τ67) = (100, 400) := (congrFun (congrArg kd e73) _).trans (up_same _ _ _)
  have hb78 := Nat.lt_of_lt_of_eq (Nat.lt_succ_self _) (congrArg nx e73).symm
  obtain ⟨ga79, h⟩ := h
  obtain ⟨g80, h⟩ := h
  refine E_putR dX12_init_56 fl_X12_32 rfl (Or.inr ⟨rfl, rfl, rfl⟩) hk75 hb76 ga79 g80 ?_
  obtain ⟨τ81, e82⟩ : ∃ τ : AH, τ = (sR τ72 x0 16 (some (nx τ67))) := ⟨_, rfl⟩
  replace h := h τ81 e82
  rw [← e82]
  have hk84 : kd _ x0 = (12, NO 12) := (congrFun (congrArg kd e82) _).trans hk75
  have hb85 := Nat.lt_of_lt_of_eq hb76 (congrArg nx e82).symm
  refine E_aload_n 0 dX12_init_59 rfl rfl ?_
  refine E_sipush (400 : Int32) dX12_init_60 (by decide) ?_
  refine E_newaI 400 dX12_init_63 ac_int (by decide) (by decide) (by decide) ?_
  obtain ⟨τ86, e87⟩ : ∃ τ : AH, τ = (aw τ81 100 400) := ⟨_, rfl⟩
  replace h := h τ86 e87
  rw [← e87]
  have hk89 : kd _ x0 = (12, NO 12) := (congrFun (congrArg kd e87) _).trans ((up_ne _ _ _ (Nat.ne_of_lt hb85)).trans hk84)
  have hb90 := Nat.lt_of_lt_of_eq (Nat.lt_succ_of_lt hb85) (congrArg nx e87).symm
  have hk91 : kd _ (nx τ81) = (100, 400) := (congrFun (congrArg kd e87) _).trans (up_same _ _ _)
  have hb92 := Nat.lt_of_lt_of_eq (Nat.lt_succ_self _) (congrArg nx e87).symm
  obtain ⟨ga93, h⟩ := h
  obtain ⟨g94, h⟩ := h
  refine E_putR dX12_init_65 fl_X12_35 rfl (Or.inr ⟨rfl, rfl, rfl⟩) hk89 hb90 ga93 g94 ?_
  obtain ⟨τ95, e96⟩ : ∃ τ : AH, τ = (sR τ86 x0 17 (some (nx τ81))) := ⟨_, rfl⟩
  replace h := h τ95 e96
  rw [← e96]
  have hk98 : kd _ x0 = (12, NO 12) := (congrFun (congrArg kd e96) _).trans hk89
  have hb99 := Nat.lt_of_lt_of_eq hb90 (congrArg nx e96).symm
  refine E_aload_n 0 dX12_init_68 rfl rfl ?_
  refine E_sipush (400 : Int32) dX12_init_69 (by decide) ?_
  refine E_newaI 400 dX12_init_72 ac_int (by decide) (by decide) (by decide) ?_
  obtain ⟨τ100, e101⟩ : ∃ τ : AH, τ = (aw τ95 100 400) := ⟨_, rfl⟩
  replace h := h τ100 e101
  rw [← e101]
  have hk103 : kd _ x0 = (12, NO 12) := (congrFun (congrArg kd e101) _).trans ((up_ne _ _ _ (Nat.ne_of_lt hb99)).trans hk98)
  have hb104 := Nat.lt_of_lt_of_eq (Nat.lt_succ_of_lt hb99) (congrArg nx e101).symm
  have hk105 : kd _ (nx τ95) = (100, 400) := (congrFun (congrArg kd e101) _).trans (up_same _ _ _)
  have hb106 := Nat.lt_of_lt_of_eq (Nat.lt_succ_self _) (congrArg nx e101).symm
  obtain ⟨ga107, h⟩ := h
  obtain ⟨g108, h⟩ := h
  refine E_putR dX12_init_74 fl_X12_38 rfl (Or.inr ⟨rfl, rfl, rfl⟩) hk103 hb104 ga107 g108 ?_
  obtain ⟨τ109, e110⟩ : ∃ τ : AH, τ = (sR τ100 x0 19 (some (nx τ95))) := ⟨_, rfl⟩
  replace h := h τ109 e110
  rw [← e110]
  have hk112 : kd _ x0 = (12, NO 12) := (congrFun (congrArg kd e110) _).trans hk103
  have hb113 := Nat.lt_of_lt_of_eq hb104 (congrArg nx e110).symm
  refine E_aload_n 0 dX12_init_77 rfl rfl ?_
  refine E_sipush (400 : Int32) dX12_init_78 (by decide) ?_
  refine E_newaI 400 dX12_init_81 ac_int (by decide) (by decide) (by decide) ?_
  obtain ⟨τ114, e115⟩ : ∃ τ : AH, τ = (aw τ109 100 400) := ⟨_, rfl⟩
  replace h := h τ114 e115
  rw [← e115]
  have hk117 : kd _ x0 = (12, NO 12) := (congrFun (congrArg kd e115) _).trans ((up_ne _ _ _ (Nat.ne_of_lt hb113)).trans hk112)
  have hb118 := Nat.lt_of_lt_of_eq (Nat.lt_succ_of_lt hb113) (congrArg nx e115).symm
  have hk119 : kd _ (nx τ109) = (100, 400) := (congrFun (congrArg kd e115) _).trans (up_same _ _ _)
  have hb120 := Nat.lt_of_lt_of_eq (Nat.lt_succ_self _) (congrArg nx e115).symm
  obtain ⟨ga121, h⟩ := h
  obtain ⟨g122, h⟩ := h
  refine E_putR dX12_init_83 fl_X12_41 rfl (Or.inr ⟨rfl, rfl, rfl⟩) hk117 hb118 ga121 g122 ?_
  obtain ⟨τ123, e124⟩ : ∃ τ : AH, τ = (sR τ114 x0 20 (some (nx τ109))) := ⟨_, rfl⟩
  replace h := h τ123 e124
  rw [← e124]
  have hk126 : kd _ x0 = (12, NO 12) := (congrFun (congrArg kd e124) _).trans hk117
  have hb127 := Nat.lt_of_lt_of_eq hb118 (congrArg nx e124).symm
  refine E_aload_n 0 dX12_init_86 rfl rfl ?_
  refine E_iconst (-1 : Int32) dX12_init_87 (by decide) ?_
  obtain ⟨ga128, h⟩ := h
  refine E_putI dX12_init_88 fl_X12_44 rfl (Or.inl rfl) hk126 hb127 ga128 rfl rfl ?_
  refine E_aload_n 0 dX12_init_91 rfl rfl ?_
  refine E_bipush (24 : Int32) dX12_init_92 (by decide) ?_
  refine E_newaZ 24 dX12_init_94 ac_boolean (by decide) (by decide) (by decide) ?_
  obtain ⟨τ129, e130⟩ : ∃ τ : AH, τ = (aw (sI τ123 x0 24 (-1 : Int32)) 101 24) := ⟨_, rfl⟩
  replace h := h τ129 e130
  rw [← e130]
  have hk132 : kd _ x0 = (12, NO 12) := (congrFun (congrArg kd e130) _).trans ((up_ne _ _ _ (Nat.ne_of_lt hb127)).trans hk126)
  have hb133 := Nat.lt_of_lt_of_eq (Nat.lt_succ_of_lt hb127) (congrArg nx e130).symm
  have hk134 : kd _ (nx (sI τ123 x0 24 (-1 : Int32))) = (101, 24) := (congrFun (congrArg kd e130) _).trans (up_same _ _ _)
  have hb135 := Nat.lt_of_lt_of_eq (Nat.lt_succ_self _) (congrArg nx e130).symm
  obtain ⟨ga136, h⟩ := h
  obtain ⟨g137, h⟩ := h
  refine E_putR dX12_init_96 fl_X12_47 rfl (Or.inr ⟨rfl, rfl, rfl⟩) hk132 hb133 ga136 g137 ?_
  obtain ⟨τ138, e139⟩ : ∃ τ : AH, τ = (sR τ129 x0 25 (some (nx (sI τ123 x0 24 (-1 : Int32))))) := ⟨_, rfl⟩
  replace h := h τ138 e139
  rw [← e139]
  have hk141 : kd _ x0 = (12, NO 12) := (congrFun (congrArg kd e139) _).trans hk132
  have hb142 := Nat.lt_of_lt_of_eq hb133 (congrArg nx e139).symm
  refine E_aload_n 0 dX12_init_99 rfl rfl ?_
  refine E_sipush (384 : Int32) dX12_init_100 (by decide) ?_
  refine E_newaZ 384 dX12_init_103 ac_boolean (by decide) (by decide) (by decide) ?_
  obtain ⟨τ143, e144⟩ : ∃ τ : AH, τ = (aw τ138 101 384) := ⟨_, rfl⟩
  replace h := h τ143 e144
  rw [← e144]
  have hk146 : kd _ x0 = (12, NO 12) := (congrFun (congrArg kd e144) _).trans ((up_ne _ _ _ (Nat.ne_of_lt hb142)).trans hk141)
  have hb147 := Nat.lt_of_lt_of_eq (Nat.lt_succ_of_lt hb142) (congrArg nx e144).symm
  have hk148 : kd _ (nx τ138) = (101, 384) := (congrFun (congrArg kd e144) _).trans (up_same _ _ _)
  have hb149 := Nat.lt_of_lt_of_eq (Nat.lt_succ_self _) (congrArg nx e144).symm
  obtain ⟨ga150, h⟩ := h
  obtain ⟨g151, h⟩ := h
  refine E_putR dX12_init_105 fl_X12_50 rfl (Or.inr ⟨rfl, rfl, rfl⟩) hk146 hb147 ga150 g151 ?_
  obtain ⟨τ152, e153⟩ : ∃ τ : AH, τ = (sR τ143 x0 26 (some (nx τ138))) := ⟨_, rfl⟩
  replace h := h τ152 e153
  rw [← e153]
  have hk155 : kd _ x0 = (12, NO 12) := (congrFun (congrArg kd e153) _).trans hk146
  have hb156 := Nat.lt_of_lt_of_eq hb147 (congrArg nx e153).symm
  refine E_aload_n 0 dX12_init_108 rfl rfl ?_
  refine E_bipush (8 : Int32) dX12_init_109 (by decide) ?_
  refine E_newaI 8 dX12_init_111 ac_int (by decide) (by decide) (by decide) ?_
  obtain ⟨τ157, e158⟩ : ∃ τ : AH, τ = (aw τ152 100 8) := ⟨_, rfl⟩
  replace h := h τ157 e158
  rw [← e158]
  have hk160 : kd _ x0 = (12, NO 12) := (congrFun (congrArg kd e158) _).trans ((up_ne _ _ _ (Nat.ne_of_lt hb156)).trans hk155)
  have hb161 := Nat.lt_of_lt_of_eq (Nat.lt_succ_of_lt hb156) (congrArg nx e158).symm
  have hk162 : kd _ (nx τ152) = (100, 8) := (congrFun (congrArg kd e158) _).trans (up_same _ _ _)
  have hb163 := Nat.lt_of_lt_of_eq (Nat.lt_succ_self _) (congrArg nx e158).symm
  obtain ⟨ga164, h⟩ := h
  obtain ⟨g165, h⟩ := h
  refine E_putR dX12_init_113 fl_X12_53 rfl (Or.inr ⟨rfl, rfl, rfl⟩) hk160 hb161 ga164 g165 ?_
  obtain ⟨τ166, e167⟩ : ∃ τ : AH, τ = (sR τ157 x0 27 (some (nx τ152))) := ⟨_, rfl⟩
  replace h := h τ166 e167
  rw [← e167]
  have hk169 : kd _ x0 = (12, NO 12) := (congrFun (congrArg kd e167) _).trans hk160
  have hb170 := Nat.lt_of_lt_of_eq hb161 (congrArg nx e167).symm
  refine E_aload_n 0 dX12_init_116 rfl rfl ?_
  refine E_sipush (400 : Int32) dX12_init_117 (by decide) ?_
  refine E_newaL 400 dX12_init_120 ac_long (by decide) (by decide) (by decide) ?_
  obtain ⟨τ171, e172⟩ : ∃ τ : AH, τ = (aw τ166 102 400) := ⟨_, rfl⟩
  replace h := h τ171 e172
  rw [← e172]
  have hk174 : kd _ x0 = (12, NO 12) := (congrFun (congrArg kd e172) _).trans ((up_ne _ _ _ (Nat.ne_of_lt hb170)).trans hk169)
  have hb175 := Nat.lt_of_lt_of_eq (Nat.lt_succ_of_lt hb170) (congrArg nx e172).symm
  have hk176 : kd _ (nx τ166) = (102, 400) := (congrFun (congrArg kd e172) _).trans (up_same _ _ _)
  have hb177 := Nat.lt_of_lt_of_eq (Nat.lt_succ_self _) (congrArg nx e172).symm
  obtain ⟨ga178, h⟩ := h
  obtain ⟨g179, h⟩ := h
  refine E_putR dX12_init_122 fl_X12_56 rfl (Or.inr ⟨rfl, rfl, rfl⟩) hk174 hb175 ga178 g179 ?_
  obtain ⟨τ180, e181⟩ : ∃ τ : AH, τ = (sR τ171 x0 28 (some (nx τ166))) := ⟨_, rfl⟩
  replace h := h τ180 e181
  rw [← e181]
  have hk183 : kd _ x0 = (12, NO 12) := (congrFun (congrArg kd e181) _).trans hk174
  have hb184 := Nat.lt_of_lt_of_eq hb175 (congrArg nx e181).symm
  refine E_aload_n 0 dX12_init_125 rfl rfl ?_
  refine E_ldc (84240 : Int32) dX12_init_126 ct_X12_60 ?_
  refine E_newaI 84240 dX12_init_128 ac_int (by decide) (by decide) (by decide) ?_
  obtain ⟨τ185, e186⟩ : ∃ τ : AH, τ = (aw τ180 100 84240) := ⟨_, rfl⟩
  replace h := h τ185 e186
  rw [← e186]
  have hk188 : kd _ x0 = (12, NO 12) := (congrFun (congrArg kd e186) _).trans ((up_ne _ _ _ (Nat.ne_of_lt hb184)).trans hk183)
  have hb189 := Nat.lt_of_lt_of_eq (Nat.lt_succ_of_lt hb184) (congrArg nx e186).symm
  have hk190 : kd _ (nx τ180) = (100, 84240) := (congrFun (congrArg kd e186) _).trans (up_same _ _ _)
  have hb191 := Nat.lt_of_lt_of_eq (Nat.lt_succ_self _) (congrArg nx e186).symm
  obtain ⟨ga192, h⟩ := h
  obtain ⟨g193, h⟩ := h
  refine E_putR dX12_init_130 fl_X12_61 rfl (Or.inr ⟨rfl, rfl, rfl⟩) hk188 hb189 ga192 g193 ?_
  obtain ⟨τ194, e195⟩ : ∃ τ : AH, τ = (sR τ185 x0 33 (some (nx τ180))) := ⟨_, rfl⟩
  replace h := h τ194 e195
  rw [← e195]
  have hk197 : kd _ x0 = (12, NO 12) := (congrFun (congrArg kd e195) _).trans hk188
  have hb198 := Nat.lt_of_lt_of_eq hb189 (congrArg nx e195).symm
  refine E_aload_n 0 dX12_init_133 rfl rfl ?_
  refine E_sipush (260 : Int32) dX12_init_134 (by decide) ?_
  refine E_newaI 260 dX12_init_137 ac_int (by decide) (by decide) (by decide) ?_
  obtain ⟨τ199, e200⟩ : ∃ τ : AH, τ = (aw τ194 100 260) := ⟨_, rfl⟩
  replace h := h τ199 e200
  rw [← e200]
  have hk202 : kd _ x0 = (12, NO 12) := (congrFun (congrArg kd e200) _).trans ((up_ne _ _ _ (Nat.ne_of_lt hb198)).trans hk197)
  have hb203 := Nat.lt_of_lt_of_eq (Nat.lt_succ_of_lt hb198) (congrArg nx e200).symm
  have hk204 : kd _ (nx τ194) = (100, 260) := (congrFun (congrArg kd e200) _).trans (up_same _ _ _)
  have hb205 := Nat.lt_of_lt_of_eq (Nat.lt_succ_self _) (congrArg nx e200).symm
  obtain ⟨ga206, h⟩ := h
  obtain ⟨g207, h⟩ := h
  refine E_putR dX12_init_139 fl_X12_64 rfl (Or.inr ⟨rfl, rfl, rfl⟩) hk202 hb203 ga206 g207 ?_
  obtain ⟨τ208, e209⟩ : ∃ τ : AH, τ = (sR τ199 x0 34 (some (nx τ194))) := ⟨_, rfl⟩
  replace h := h τ208 e209
  rw [← e209]
  have hk211 : kd _ x0 = (12, NO 12) := (congrFun (congrArg kd e209) _).trans hk202
  have hb212 := Nat.lt_of_lt_of_eq hb203 (congrArg nx e209).symm
  refine E_aload_n 0 dX12_init_142 rfl rfl ?_
  refine E_bipush (30 : Int32) dX12_init_143 (by decide) ?_
  refine E_newaI 30 dX12_init_145 ac_int (by decide) (by decide) (by decide) ?_
  obtain ⟨τ213, e214⟩ : ∃ τ : AH, τ = (aw τ208 100 30) := ⟨_, rfl⟩
  replace h := h τ213 e214
  rw [← e214]
  have hk216 : kd _ x0 = (12, NO 12) := (congrFun (congrArg kd e214) _).trans ((up_ne _ _ _ (Nat.ne_of_lt hb212)).trans hk211)
  have hb217 := Nat.lt_of_lt_of_eq (Nat.lt_succ_of_lt hb212) (congrArg nx e214).symm
  have hk218 : kd _ (nx τ208) = (100, 30) := (congrFun (congrArg kd e214) _).trans (up_same _ _ _)
  have hb219 := Nat.lt_of_lt_of_eq (Nat.lt_succ_self _) (congrArg nx e214).symm
  obtain ⟨ga220, h⟩ := h
  obtain ⟨g221, h⟩ := h
  refine E_putR dX12_init_147 fl_X12_67 rfl (Or.inr ⟨rfl, rfl, rfl⟩) hk216 hb217 ga220 g221 ?_
  obtain ⟨τ222, e223⟩ : ∃ τ : AH, τ = (sR τ213 x0 35 (some (nx τ208))) := ⟨_, rfl⟩
  replace h := h τ222 e223
  rw [← e223]
  have hk225 : kd _ x0 = (12, NO 12) := (congrFun (congrArg kd e223) _).trans hk216
  have hb226 := Nat.lt_of_lt_of_eq hb217 (congrArg nx e223).symm
  refine E_aload_n 0 dX12_init_150 rfl rfl ?_
  refine E_bipush (30 : Int32) dX12_init_151 (by decide) ?_
  refine E_newaZ 30 dX12_init_153 ac_boolean (by decide) (by decide) (by decide) ?_
  obtain ⟨τ227, e228⟩ : ∃ τ : AH, τ = (aw τ222 101 30) := ⟨_, rfl⟩
  replace h := h τ227 e228
  rw [← e228]
  have hk230 : kd _ x0 = (12, NO 12) := (congrFun (congrArg kd e228) _).trans ((up_ne _ _ _ (Nat.ne_of_lt hb226)).trans hk225)
  have hb231 := Nat.lt_of_lt_of_eq (Nat.lt_succ_of_lt hb226) (congrArg nx e228).symm
  have hk232 : kd _ (nx τ222) = (101, 30) := (congrFun (congrArg kd e228) _).trans (up_same _ _ _)
  have hb233 := Nat.lt_of_lt_of_eq (Nat.lt_succ_self _) (congrArg nx e228).symm
  obtain ⟨ga234, h⟩ := h
  obtain ⟨g235, h⟩ := h
  refine E_putR dX12_init_155 fl_X12_70 rfl (Or.inr ⟨rfl, rfl, rfl⟩) hk230 hb231 ga234 g235 ?_
  obtain ⟨τ236, e237⟩ : ∃ τ : AH, τ = (sR τ227 x0 36 (some (nx τ222))) := ⟨_, rfl⟩
  replace h := h τ236 e237
  rw [← e237]
  have hk239 : kd _ x0 = (12, NO 12) := (congrFun (congrArg kd e237) _).trans hk230
  have hb240 := Nat.lt_of_lt_of_eq hb231 (congrArg nx e237).symm
  refine E_aload_n 0 dX12_init_158 rfl rfl ?_
  refine E_iconst (5 : Int32) dX12_init_159 (by decide) ?_
  refine E_newaI 5 dX12_init_160 ac_int (by decide) (by decide) (by decide) ?_
  obtain ⟨τ241, e242⟩ : ∃ τ : AH, τ = (aw τ236 100 5) := ⟨_, rfl⟩
  replace h := h τ241 e242
  rw [← e242]
  have hk244 : kd _ x0 = (12, NO 12) := (congrFun (congrArg kd e242) _).trans ((up_ne _ _ _ (Nat.ne_of_lt hb240)).trans hk239)
  have hb245 := Nat.lt_of_lt_of_eq (Nat.lt_succ_of_lt hb240) (congrArg nx e242).symm
  have hk246 : kd _ (nx τ236) = (100, 5) := (congrFun (congrArg kd e242) _).trans (up_same _ _ _)
  have hb247 := Nat.lt_of_lt_of_eq (Nat.lt_succ_self _) (congrArg nx e242).symm
  obtain ⟨ga248, h⟩ := h
  obtain ⟨g249, h⟩ := h
  refine E_putR dX12_init_162 fl_X12_73 rfl (Or.inr ⟨rfl, rfl, rfl⟩) hk244 hb245 ga248 g249 ?_
  obtain ⟨τ250, e251⟩ : ∃ τ : AH, τ = (sR τ241 x0 37 (some (nx τ236))) := ⟨_, rfl⟩
  replace h := h τ250 e251
  rw [← e251]
  have hk253 : kd _ x0 = (12, NO 12) := (congrFun (congrArg kd e251) _).trans hk244
  have hb254 := Nat.lt_of_lt_of_eq hb245 (congrArg nx e251).symm
  refine E_aload_n 0 dX12_init_165 rfl rfl ?_
  refine E_bipush (6 : Int32) dX12_init_166 (by decide) ?_
  refine E_newaI 6 dX12_init_168 ac_int (by decide) (by decide) (by decide) ?_
  obtain ⟨τ255, e256⟩ : ∃ τ : AH, τ = (aw τ250 100 6) := ⟨_, rfl⟩
  replace h := h τ255 e256
  rw [← e256]
  have hk258 : kd _ x0 = (12, NO 12) := (congrFun (congrArg kd e256) _).trans ((up_ne _ _ _ (Nat.ne_of_lt hb254)).trans hk253)
  have hb259 := Nat.lt_of_lt_of_eq (Nat.lt_succ_of_lt hb254) (congrArg nx e256).symm
  have hk260 : kd _ (nx τ250) = (100, 6) := (congrFun (congrArg kd e256) _).trans (up_same _ _ _)
  have hb261 := Nat.lt_of_lt_of_eq (Nat.lt_succ_self _) (congrArg nx e256).symm
  obtain ⟨ga262, h⟩ := h
  obtain ⟨g263, h⟩ := h
  refine E_putR dX12_init_170 fl_X12_76 rfl (Or.inr ⟨rfl, rfl, rfl⟩) hk258 hb259 ga262 g263 ?_
  obtain ⟨τ264, e265⟩ : ∃ τ : AH, τ = (sR τ255 x0 38 (some (nx τ250))) := ⟨_, rfl⟩
  replace h := h τ264 e265
  rw [← e265]
  have hk267 : kd _ x0 = (12, NO 12) := (congrFun (congrArg kd e265) _).trans hk258
  have hb268 := Nat.lt_of_lt_of_eq hb259 (congrArg nx e265).symm
  refine E_aload_n 0 dX12_init_173 rfl rfl ?_
  refine E_bipush (30 : Int32) dX12_init_174 (by decide) ?_
  refine E_newaI 30 dX12_init_176 ac_int (by decide) (by decide) (by decide) ?_
  obtain ⟨τ269, e270⟩ : ∃ τ : AH, τ = (aw τ264 100 30) := ⟨_, rfl⟩
  replace h := h τ269 e270
  rw [← e270]
  have hk272 : kd _ x0 = (12, NO 12) := (congrFun (congrArg kd e270) _).trans ((up_ne _ _ _ (Nat.ne_of_lt hb268)).trans hk267)
  have hb273 := Nat.lt_of_lt_of_eq (Nat.lt_succ_of_lt hb268) (congrArg nx e270).symm
  have hk274 : kd _ (nx τ264) = (100, 30) := (congrFun (congrArg kd e270) _).trans (up_same _ _ _)
  have hb275 := Nat.lt_of_lt_of_eq (Nat.lt_succ_self _) (congrArg nx e270).symm
  obtain ⟨ga276, h⟩ := h
  obtain ⟨g277, h⟩ := h
  refine E_putR dX12_init_178 fl_X12_79 rfl (Or.inr ⟨rfl, rfl, rfl⟩) hk272 hb273 ga276 g277 ?_
  obtain ⟨τ278, e279⟩ : ∃ τ : AH, τ = (sR τ269 x0 39 (some (nx τ264))) := ⟨_, rfl⟩
  replace h := h τ278 e279
  rw [← e279]
  have hk281 : kd _ x0 = (12, NO 12) := (congrFun (congrArg kd e279) _).trans hk272
  have hb282 := Nat.lt_of_lt_of_eq hb273 (congrArg nx e279).symm
  refine E_aload_n 0 dX12_init_181 rfl rfl ?_
  refine E_bipush (30 : Int32) dX12_init_182 (by decide) ?_
  refine E_newaZ 30 dX12_init_184 ac_boolean (by decide) (by decide) (by decide) ?_
  obtain ⟨τ283, e284⟩ : ∃ τ : AH, τ = (aw τ278 101 30) := ⟨_, rfl⟩
  replace h := h τ283 e284
  rw [← e284]
  have hk286 : kd _ x0 = (12, NO 12) := (congrFun (congrArg kd e284) _).trans ((up_ne _ _ _ (Nat.ne_of_lt hb282)).trans hk281)
  have hb287 := Nat.lt_of_lt_of_eq (Nat.lt_succ_of_lt hb282) (congrArg nx e284).symm
  have hk288 : kd _ (nx τ278) = (101, 30) := (congrFun (congrArg kd e284) _).trans (up_same _ _ _)
  have hb289 := Nat.lt_of_lt_of_eq (Nat.lt_succ_self _) (congrArg nx e284).symm
  obtain ⟨ga290, h⟩ := h
  obtain ⟨g291, h⟩ := h
  refine E_putR dX12_init_186 fl_X12_82 rfl (Or.inr ⟨rfl, rfl, rfl⟩) hk286 hb287 ga290 g291 ?_
  obtain ⟨τ292, e293⟩ : ∃ τ : AH, τ = (sR τ283 x0 40 (some (nx τ278))) := ⟨_, rfl⟩
  replace h := h τ292 e293
  rw [← e293]
  have hk295 : kd _ x0 = (12, NO 12) := (congrFun (congrArg kd e293) _).trans hk286
  have hb296 := Nat.lt_of_lt_of_eq hb287 (congrArg nx e293).symm
  refine E_aload_n 0 dX12_init_189 rfl rfl ?_
  refine E_bipush (30 : Int32) dX12_init_190 (by decide) ?_
  refine E_newaI 30 dX12_init_192 ac_int (by decide) (by decide) (by decide) ?_
  obtain ⟨τ297, e298⟩ : ∃ τ : AH, τ = (aw τ292 100 30) := ⟨_, rfl⟩
  replace h := h τ297 e298
  rw [← e298]
  have hk300 : kd _ x0 = (12, NO 12) := (congrFun (congrArg kd e298) _).trans ((up_ne _ _ _ (Nat.ne_of_lt hb296)).trans hk295)
  have hb301 := Nat.lt_of_lt_of_eq (Nat.lt_succ_of_lt hb296) (congrArg nx e298).symm
  have hk302 : kd _ (nx τ292) = (100, 30) := (congrFun (congrArg kd e298) _).trans (up_same _ _ _)
  have hb303 := Nat.lt_of_lt_of_eq (Nat.lt_succ_self _) (congrArg nx e298).symm
  obtain ⟨ga304, h⟩ := h
  obtain ⟨g305, h⟩ := h
  refine E_putR dX12_init_194 fl_X12_85 rfl (Or.inr ⟨rfl, rfl, rfl⟩) hk300 hb301 ga304 g305 ?_
  obtain ⟨τ306, e307⟩ : ∃ τ : AH, τ = (sR τ297 x0 41 (some (nx τ292))) := ⟨_, rfl⟩
  replace h := h τ306 e307
  rw [← e307]
  have hk309 : kd _ x0 = (12, NO 12) := (congrFun (congrArg kd e307) _).trans hk300
  have hb310 := Nat.lt_of_lt_of_eq hb301 (congrArg nx e307).symm
  refine E_aload_n 0 dX12_init_197 rfl rfl ?_
  refine E_bipush (30 : Int32) dX12_init_198 (by decide) ?_
  refine E_newaZ 30 dX12_init_200 ac_boolean (by decide) (by decide) (by decide) ?_
  obtain ⟨τ311, e312⟩ : ∃ τ : AH, τ = (aw τ306 101 30) := ⟨_, rfl⟩
  replace h := h τ311 e312
  rw [← e312]
  have hk314 : kd _ x0 = (12, NO 12) := (congrFun (congrArg kd e312) _).trans ((up_ne _ _ _ (Nat.ne_of_lt hb310)).trans hk309)
  have hb315 := Nat.lt_of_lt_of_eq (Nat.lt_succ_of_lt hb310) (congrArg nx e312).symm
  have hk316 : kd _ (nx τ306) = (101, 30) := (congrFun (congrArg kd e312) _).trans (up_same _ _ _)
  have hb317 := Nat.lt_of_lt_of_eq (Nat.lt_succ_self _) (congrArg nx e312).symm
  obtain ⟨ga318, h⟩ := h
  obtain ⟨g319, h⟩ := h
  refine E_putR dX12_init_202 fl_X12_88 rfl (Or.inr ⟨rfl, rfl, rfl⟩) hk314 hb315 ga318 g319 ?_
  obtain ⟨τ320, e321⟩ : ∃ τ : AH, τ = (sR τ311 x0 42 (some (nx τ306))) := ⟨_, rfl⟩
  replace h := h τ320 e321
  rw [← e321]
  have hk323 : kd _ x0 = (12, NO 12) := (congrFun (congrArg kd e321) _).trans hk314
  have hb324 := Nat.lt_of_lt_of_eq hb315 (congrArg nx e321).symm
  refine E_aload_n 0 dX12_init_205 rfl rfl ?_
  refine E_bipush (90 : Int32) dX12_init_206 (by decide) ?_
  refine E_newaI 90 dX12_init_208 ac_int (by decide) (by decide) (by decide) ?_
  obtain ⟨τ325, e326⟩ : ∃ τ : AH, τ = (aw τ320 100 90) := ⟨_, rfl⟩
  replace h := h τ325 e326
  rw [← e326]
  have hk328 : kd _ x0 = (12, NO 12) := (congrFun (congrArg kd e326) _).trans ((up_ne _ _ _ (Nat.ne_of_lt hb324)).trans hk323)
  have hb329 := Nat.lt_of_lt_of_eq (Nat.lt_succ_of_lt hb324) (congrArg nx e326).symm
  have hk330 : kd _ (nx τ320) = (100, 90) := (congrFun (congrArg kd e326) _).trans (up_same _ _ _)
  have hb331 := Nat.lt_of_lt_of_eq (Nat.lt_succ_self _) (congrArg nx e326).symm
  obtain ⟨ga332, h⟩ := h
  obtain ⟨g333, h⟩ := h
  refine E_putR dX12_init_210 fl_X12_91 rfl (Or.inr ⟨rfl, rfl, rfl⟩) hk328 hb329 ga332 g333 ?_
  obtain ⟨τ334, e335⟩ : ∃ τ : AH, τ = (sR τ325 x0 43 (some (nx τ320))) := ⟨_, rfl⟩
  replace h := h τ334 e335
  rw [← e335]
  have hk337 : kd _ x0 = (12, NO 12) := (congrFun (congrArg kd e335) _).trans hk328
  have hb338 := Nat.lt_of_lt_of_eq hb329 (congrArg nx e335).symm
  refine E_aload_n 0 dX12_init_213 rfl rfl ?_
  refine E_bipush (90 : Int32) dX12_init_214 (by decide) ?_
  refine E_newaI 90 dX12_init_216 ac_int (by decide) (by decide) (by decide) ?_
  obtain ⟨τ339, e340⟩ : ∃ τ : AH, τ = (aw τ334 100 90) := ⟨_, rfl⟩
  replace h := h τ339 e340
  rw [← e340]
  have hk342 : kd _ x0 = (12, NO 12) := (congrFun (congrArg kd e340) _).trans ((up_ne _ _ _ (Nat.ne_of_lt hb338)).trans hk337)
  have hb343 := Nat.lt_of_lt_of_eq (Nat.lt_succ_of_lt hb338) (congrArg nx e340).symm
  have hk344 : kd _ (nx τ334) = (100, 90) := (congrFun (congrArg kd e340) _).trans (up_same _ _ _)
  have hb345 := Nat.lt_of_lt_of_eq (Nat.lt_succ_self _) (congrArg nx e340).symm
  obtain ⟨ga346, h⟩ := h
  obtain ⟨g347, h⟩ := h
  refine E_putR dX12_init_218 fl_X12_94 rfl (Or.inr ⟨rfl, rfl, rfl⟩) hk342 hb343 ga346 g347 ?_
  obtain ⟨τ348, e349⟩ : ∃ τ : AH, τ = (sR τ339 x0 44 (some (nx τ334))) := ⟨_, rfl⟩
  replace h := h τ348 e349
  rw [← e349]
  have hk351 : kd _ x0 = (12, NO 12) := (congrFun (congrArg kd e349) _).trans hk342
  have hb352 := Nat.lt_of_lt_of_eq hb343 (congrArg nx e349).symm
  refine E_aload_n 0 dX12_init_221 rfl rfl ?_
  refine E_bipush (30 : Int32) dX12_init_222 (by decide) ?_
  refine E_newaI 30 dX12_init_224 ac_int (by decide) (by decide) (by decide) ?_
  obtain ⟨τ353, e354⟩ : ∃ τ : AH, τ = (aw τ348 100 30) := ⟨_, rfl⟩
  replace h := h τ353 e354
  rw [← e354]
  have hk356 : kd _ x0 = (12, NO 12) := (congrFun (congrArg kd e354) _).trans ((up_ne _ _ _ (Nat.ne_of_lt hb352)).trans hk351)
  have hb357 := Nat.lt_of_lt_of_eq (Nat.lt_succ_of_lt hb352) (congrArg nx e354).symm
  have hk358 : kd _ (nx τ348) = (100, 30) := (congrFun (congrArg kd e354) _).trans (up_same _ _ _)
  have hb359 := Nat.lt_of_lt_of_eq (Nat.lt_succ_self _) (congrArg nx e354).symm
  obtain ⟨ga360, h⟩ := h
  obtain ⟨g361, h⟩ := h
  refine E_putR dX12_init_226 fl_X12_97 rfl (Or.inr ⟨rfl, rfl, rfl⟩) hk356 hb357 ga360 g361 ?_
  obtain ⟨τ362, e363⟩ : ∃ τ : AH, τ = (sR τ353 x0 46 (some (nx τ348))) := ⟨_, rfl⟩
  replace h := h τ362 e363
  rw [← e363]
  have hk365 : kd _ x0 = (12, NO 12) := (congrFun (congrArg kd e363) _).trans hk356
  have hb366 := Nat.lt_of_lt_of_eq hb357 (congrArg nx e363).symm
  refine E_aload_n 0 dX12_init_229 rfl rfl ?_
  refine E_bipush (30 : Int32) dX12_init_230 (by decide) ?_
  refine E_newaI 30 dX12_init_232 ac_int (by decide) (by decide) (by decide) ?_
  obtain ⟨τ367, e368⟩ : ∃ τ : AH, τ = (aw τ362 100 30) := ⟨_, rfl⟩
  replace h := h τ367 e368
  rw [← e368]
  have hk370 : kd _ x0 = (12, NO 12) := (congrFun (congrArg kd e368) _).trans ((up_ne _ _ _ (Nat.ne_of_lt hb366)).trans hk365)
  have hb371 := Nat.lt_of_lt_of_eq (Nat.lt_succ_of_lt hb366) (congrArg nx e368).symm
  have hk372 : kd _ (nx τ362) = (100, 30) := (congrFun (congrArg kd e368) _).trans (up_same _ _ _)
  have hb373 := Nat.lt_of_lt_of_eq (Nat.lt_succ_self _) (congrArg nx e368).symm
  obtain ⟨ga374, h⟩ := h
  obtain ⟨g375, h⟩ := h
  refine E_putR dX12_init_234 fl_X12_100 rfl (Or.inr ⟨rfl, rfl, rfl⟩) hk370 hb371 ga374 g375 ?_
  obtain ⟨τ376, e377⟩ : ∃ τ : AH, τ = (sR τ367 x0 47 (some (nx τ362))) := ⟨_, rfl⟩
  replace h := h τ376 e377
  rw [← e377]
  have hk379 : kd _ x0 = (12, NO 12) := (congrFun (congrArg kd e377) _).trans hk370
  have hb380 := Nat.lt_of_lt_of_eq hb371 (congrArg nx e377).symm
  refine E_aload_n 0 dX12_init_237 rfl rfl ?_
  refine E_bipush (6 : Int32) dX12_init_238 (by decide) ?_
  refine E_newaI 6 dX12_init_240 ac_int (by decide) (by decide) (by decide) ?_
  obtain ⟨τ381, e382⟩ : ∃ τ : AH, τ = (aw τ376 100 6) := ⟨_, rfl⟩
  replace h := h τ381 e382
  rw [← e382]
  have hk384 : kd _ x0 = (12, NO 12) := (congrFun (congrArg kd e382) _).trans ((up_ne _ _ _ (Nat.ne_of_lt hb380)).trans hk379)
  have hb385 := Nat.lt_of_lt_of_eq (Nat.lt_succ_of_lt hb380) (congrArg nx e382).symm
  have hk386 : kd _ (nx τ376) = (100, 6) := (congrFun (congrArg kd e382) _).trans (up_same _ _ _)
  have hb387 := Nat.lt_of_lt_of_eq (Nat.lt_succ_self _) (congrArg nx e382).symm
  obtain ⟨ga388, h⟩ := h
  obtain ⟨g389, h⟩ := h
  refine E_putR dX12_init_242 fl_X12_103 rfl (Or.inr ⟨rfl, rfl, rfl⟩) hk384 hb385 ga388 g389 ?_
  obtain ⟨τ390, e391⟩ : ∃ τ : AH, τ = (sR τ381 x0 49 (some (nx τ376))) := ⟨_, rfl⟩
  replace h := h τ390 e391
  rw [← e391]
  have hk393 : kd _ x0 = (12, NO 12) := (congrFun (congrArg kd e391) _).trans hk384
  have hb394 := Nat.lt_of_lt_of_eq hb385 (congrArg nx e391).symm
  refine E_aload_n 0 dX12_init_245 rfl rfl ?_
  refine E_bipush (6 : Int32) dX12_init_246 (by decide) ?_
  refine E_newaI 6 dX12_init_248 ac_int (by decide) (by decide) (by decide) ?_
  obtain ⟨τ395, e396⟩ : ∃ τ : AH, τ = (aw τ390 100 6) := ⟨_, rfl⟩
  replace h := h τ395 e396
  rw [← e396]
  have hk398 : kd _ x0 = (12, NO 12) := (congrFun (congrArg kd e396) _).trans ((up_ne _ _ _ (Nat.ne_of_lt hb394)).trans hk393)
  have hb399 := Nat.lt_of_lt_of_eq (Nat.lt_succ_of_lt hb394) (congrArg nx e396).symm
  have hk400 : kd _ (nx τ390) = (100, 6) := (congrFun (congrArg kd e396) _).trans (up_same _ _ _)
  have hb401 := Nat.lt_of_lt_of_eq (Nat.lt_succ_self _) (congrArg nx e396).symm
  obtain ⟨ga402, h⟩ := h
  obtain ⟨g403, h⟩ := h
  refine E_putR dX12_init_250 fl_X12_106 rfl (Or.inr ⟨rfl, rfl, rfl⟩) hk398 hb399 ga402 g403 ?_
  obtain ⟨τ404, e405⟩ : ∃ τ : AH, τ = (sR τ395 x0 52 (some (nx τ390))) := ⟨_, rfl⟩
  replace h := h τ404 e405
  rw [← e405]
  have hk407 : kd _ x0 = (12, NO 12) := (congrFun (congrArg kd e405) _).trans hk398
  have hb408 := Nat.lt_of_lt_of_eq hb399 (congrArg nx e405).symm
  refine E_aload_n 0 dX12_init_253 rfl rfl ?_
  refine E_iconst (5 : Int32) dX12_init_254 (by decide) ?_
  refine E_newaI 5 dX12_init_255 ac_int (by decide) (by decide) (by decide) ?_
  obtain ⟨τ409, e410⟩ : ∃ τ : AH, τ = (aw τ404 100 5) := ⟨_, rfl⟩
  replace h := h τ409 e410
  rw [← e410]
  have hk412 : kd _ x0 = (12, NO 12) := (congrFun (congrArg kd e410) _).trans ((up_ne _ _ _ (Nat.ne_of_lt hb408)).trans hk407)
  have hb413 := Nat.lt_of_lt_of_eq (Nat.lt_succ_of_lt hb408) (congrArg nx e410).symm
  have hk414 : kd _ (nx τ404) = (100, 5) := (congrFun (congrArg kd e410) _).trans (up_same _ _ _)
  have hb415 := Nat.lt_of_lt_of_eq (Nat.lt_succ_self _) (congrArg nx e410).symm
  obtain ⟨ga416, h⟩ := h
  obtain ⟨g417, h⟩ := h
  refine E_putR dX12_init_257 fl_X12_109 rfl (Or.inr ⟨rfl, rfl, rfl⟩) hk412 hb413 ga416 g417 ?_
  obtain ⟨τ418, e419⟩ : ∃ τ : AH, τ = (sR τ409 x0 54 (some (nx τ404))) := ⟨_, rfl⟩
  replace h := h τ418 e419
  rw [← e419]
  have hk421 : kd _ x0 = (12, NO 12) := (congrFun (congrArg kd e419) _).trans hk412
  have hb422 := Nat.lt_of_lt_of_eq hb413 (congrArg nx e419).symm
  refine E_aload_n 0 dX12_init_260 rfl rfl ?_
  refine E_bipush (30 : Int32) dX12_init_261 (by decide) ?_
  refine E_newaI 30 dX12_init_263 ac_int (by decide) (by decide) (by decide) ?_
  obtain ⟨τ423, e424⟩ : ∃ τ : AH, τ = (aw τ418 100 30) := ⟨_, rfl⟩
  replace h := h τ423 e424
  rw [← e424]
  have hk426 : kd _ x0 = (12, NO 12) := (congrFun (congrArg kd e424) _).trans ((up_ne _ _ _ (Nat.ne_of_lt hb422)).trans hk421)
  have hb427 := Nat.lt_of_lt_of_eq (Nat.lt_succ_of_lt hb422) (congrArg nx e424).symm
  have hk428 : kd _ (nx τ418) = (100, 30) := (congrFun (congrArg kd e424) _).trans (up_same _ _ _)
  have hb429 := Nat.lt_of_lt_of_eq (Nat.lt_succ_self _) (congrArg nx e424).symm
  obtain ⟨ga430, h⟩ := h
  obtain ⟨g431, h⟩ := h
  refine E_putR dX12_init_265 fl_X12_112 rfl (Or.inr ⟨rfl, rfl, rfl⟩) hk426 hb427 ga430 g431 ?_
  obtain ⟨τ432, e433⟩ : ∃ τ : AH, τ = (sR τ423 x0 55 (some (nx τ418))) := ⟨_, rfl⟩
  replace h := h τ432 e433
  rw [← e433]
  have hk435 : kd _ x0 = (12, NO 12) := (congrFun (congrArg kd e433) _).trans hk426
  have hb436 := Nat.lt_of_lt_of_eq hb427 (congrArg nx e433).symm
  refine E_aload_n 0 dX12_init_268 rfl rfl ?_
  refine E_bipush (30 : Int32) dX12_init_269 (by decide) ?_
  refine E_newaZ 30 dX12_init_271 ac_boolean (by decide) (by decide) (by decide) ?_
  obtain ⟨τ437, e438⟩ : ∃ τ : AH, τ = (aw τ432 101 30) := ⟨_, rfl⟩
  replace h := h τ437 e438
  rw [← e438]
  have hk440 : kd _ x0 = (12, NO 12) := (congrFun (congrArg kd e438) _).trans ((up_ne _ _ _ (Nat.ne_of_lt hb436)).trans hk435)
  have hb441 := Nat.lt_of_lt_of_eq (Nat.lt_succ_of_lt hb436) (congrArg nx e438).symm
  have hk442 : kd _ (nx τ432) = (101, 30) := (congrFun (congrArg kd e438) _).trans (up_same _ _ _)
  have hb443 := Nat.lt_of_lt_of_eq (Nat.lt_succ_self _) (congrArg nx e438).symm
  obtain ⟨ga444, h⟩ := h
  obtain ⟨g445, h⟩ := h
  refine E_putR dX12_init_273 fl_X12_115 rfl (Or.inr ⟨rfl, rfl, rfl⟩) hk440 hb441 ga444 g445 ?_
  obtain ⟨τ446, e447⟩ : ∃ τ : AH, τ = (sR τ437 x0 56 (some (nx τ432))) := ⟨_, rfl⟩
  replace h := h τ446 e447
  rw [← e447]
  have hk449 : kd _ x0 = (12, NO 12) := (congrFun (congrArg kd e447) _).trans hk440
  have hb450 := Nat.lt_of_lt_of_eq hb441 (congrArg nx e447).symm
  refine E_aload_n 0 dX12_init_276 rfl rfl ?_
  refine E_bipush (30 : Int32) dX12_init_277 (by decide) ?_
  refine E_newaI 30 dX12_init_279 ac_int (by decide) (by decide) (by decide) ?_
  obtain ⟨τ451, e452⟩ : ∃ τ : AH, τ = (aw τ446 100 30) := ⟨_, rfl⟩
  replace h := h τ451 e452
  rw [← e452]
  have hk454 : kd _ x0 = (12, NO 12) := (congrFun (congrArg kd e452) _).trans ((up_ne _ _ _ (Nat.ne_of_lt hb450)).trans hk449)
  have hb455 := Nat.lt_of_lt_of_eq (Nat.lt_succ_of_lt hb450) (congrArg nx e452).symm
  have hk456 : kd _ (nx τ446) = (100, 30) := (congrFun (congrArg kd e452) _).trans (up_same _ _ _)
  have hb457 := Nat.lt_of_lt_of_eq (Nat.lt_succ_self _) (congrArg nx e452).symm
  obtain ⟨ga458, h⟩ := h
  obtain ⟨g459, h⟩ := h
  refine E_putR dX12_init_281 fl_X12_118 rfl (Or.inr ⟨rfl, rfl, rfl⟩) hk454 hb455 ga458 g459 ?_
  obtain ⟨τ460, e461⟩ : ∃ τ : AH, τ = (sR τ451 x0 57 (some (nx τ446))) := ⟨_, rfl⟩
  replace h := h τ460 e461
  rw [← e461]
  have hk463 : kd _ x0 = (12, NO 12) := (congrFun (congrArg kd e461) _).trans hk454
  have hb464 := Nat.lt_of_lt_of_eq hb455 (congrArg nx e461).symm
  refine E_aload_n 0 dX12_init_284 rfl rfl ?_
  refine E_bipush (90 : Int32) dX12_init_285 (by decide) ?_
  refine E_newaI 90 dX12_init_287 ac_int (by decide) (by decide) (by decide) ?_
  obtain ⟨τ465, e466⟩ : ∃ τ : AH, τ = (aw τ460 100 90) := ⟨_, rfl⟩
  replace h := h τ465 e466
  rw [← e466]
  have hk468 : kd _ x0 = (12, NO 12) := (congrFun (congrArg kd e466) _).trans ((up_ne _ _ _ (Nat.ne_of_lt hb464)).trans hk463)
  have hb469 := Nat.lt_of_lt_of_eq (Nat.lt_succ_of_lt hb464) (congrArg nx e466).symm
  have hk470 : kd _ (nx τ460) = (100, 90) := (congrFun (congrArg kd e466) _).trans (up_same _ _ _)
  have hb471 := Nat.lt_of_lt_of_eq (Nat.lt_succ_self _) (congrArg nx e466).symm
  obtain ⟨ga472, h⟩ := h
  obtain ⟨g473, h⟩ := h
  refine E_putR dX12_init_289 fl_X12_121 rfl (Or.inr ⟨rfl, rfl, rfl⟩) hk468 hb469 ga472 g473 ?_
  obtain ⟨τ474, e475⟩ : ∃ τ : AH, τ = (sR τ465 x0 58 (some (nx τ460))) := ⟨_, rfl⟩
  replace h := h τ474 e475
  rw [← e475]
  have hk477 : kd _ x0 = (12, NO 12) := (congrFun (congrArg kd e475) _).trans hk468
  have hb478 := Nat.lt_of_lt_of_eq hb469 (congrArg nx e475).symm
  refine E_aload_n 0 dX12_init_292 rfl rfl ?_
  refine E_bipush (90 : Int32) dX12_init_293 (by decide) ?_
  refine E_newaI 90 dX12_init_295 ac_int (by decide) (by decide) (by decide) ?_
  obtain ⟨τ479, e480⟩ : ∃ τ : AH, τ = (aw τ474 100 90) := ⟨_, rfl⟩
  replace h := h τ479 e480
  rw [← e480]
  have hk482 : kd _ x0 = (12, NO 12) := (congrFun (congrArg kd e480) _).trans ((up_ne _ _ _ (Nat.ne_of_lt hb478)).trans hk477)
  have hb483 := Nat.lt_of_lt_of_eq (Nat.lt_succ_of_lt hb478) (congrArg nx e480).symm
  have hk484 : kd _ (nx τ474) = (100, 90) := (congrFun (congrArg kd e480) _).trans (up_same _ _ _)
  have hb485 := Nat.lt_of_lt_of_eq (Nat.lt_succ_self _) (congrArg nx e480).symm
  obtain ⟨ga486, h⟩ := h
  obtain ⟨g487, h⟩ := h
  refine E_putR dX12_init_297 fl_X12_124 rfl (Or.inr ⟨rfl, rfl, rfl⟩) hk482 hb483 ga486 g487 ?_
  obtain ⟨τ488, e489⟩ : ∃ τ : AH, τ = (sR τ479 x0 59 (some (nx τ474))) := ⟨_, rfl⟩
  replace h := h τ488 e489
  rw [← e489]
  have hk491 : kd _ x0 = (12, NO 12) := (congrFun (congrArg kd e489) _).trans hk482
  have hb492 := Nat.lt_of_lt_of_eq hb483 (congrArg nx e489).symm
  refine E_aload_n 0 dX12_init_300 rfl rfl ?_
  refine E_bipush (60 : Int32) dX12_init_301 (by decide) ?_
  refine E_newaI 60 dX12_init_303 ac_int (by decide) (by decide) (by decide) ?_
  obtain ⟨τ493, e494⟩ : ∃ τ : AH, τ = (aw τ488 100 60) := ⟨_, rfl⟩
  replace h := h τ493 e494
  rw [← e494]
  have hk496 : kd _ x0 = (12, NO 12) := (congrFun (congrArg kd e494) _).trans ((up_ne _ _ _ (Nat.ne_of_lt hb492)).trans hk491)
  have hb497 := Nat.lt_of_lt_of_eq (Nat.lt_succ_of_lt hb492) (congrArg nx e494).symm
  have hk498 : kd _ (nx τ488) = (100, 60) := (congrFun (congrArg kd e494) _).trans (up_same _ _ _)
  have hb499 := Nat.lt_of_lt_of_eq (Nat.lt_succ_self _) (congrArg nx e494).symm
  obtain ⟨ga500, h⟩ := h
  obtain ⟨g501, h⟩ := h
  refine E_putR dX12_init_305 fl_X12_127 rfl (Or.inr ⟨rfl, rfl, rfl⟩) hk496 hb497 ga500 g501 ?_
  obtain ⟨τ502, e503⟩ : ∃ τ : AH, τ = (sR τ493 x0 62 (some (nx τ488))) := ⟨_, rfl⟩
  replace h := h τ502 e503
  rw [← e503]
  have hk505 : kd _ x0 = (12, NO 12) := (congrFun (congrArg kd e503) _).trans hk496
  have hb506 := Nat.lt_of_lt_of_eq hb497 (congrArg nx e503).symm
  refine E_aload_n 0 dX12_init_308 rfl rfl ?_
  refine E_bipush (60 : Int32) dX12_init_309 (by decide) ?_
  refine E_newaL 60 dX12_init_311 ac_long (by decide) (by decide) (by decide) ?_
  obtain ⟨τ507, e508⟩ : ∃ τ : AH, τ = (aw τ502 102 60) := ⟨_, rfl⟩
  replace h := h τ507 e508
  rw [← e508]
  have hk510 : kd _ x0 = (12, NO 12) := (congrFun (congrArg kd e508) _).trans ((up_ne _ _ _ (Nat.ne_of_lt hb506)).trans hk505)
  have hb511 := Nat.lt_of_lt_of_eq (Nat.lt_succ_of_lt hb506) (congrArg nx e508).symm
  have hk512 : kd _ (nx τ502) = (102, 60) := (congrFun (congrArg kd e508) _).trans (up_same _ _ _)
  have hb513 := Nat.lt_of_lt_of_eq (Nat.lt_succ_self _) (congrArg nx e508).symm
  obtain ⟨ga514, h⟩ := h
  obtain ⟨g515, h⟩ := h
  refine E_putR dX12_init_313 fl_X12_130 rfl (Or.inr ⟨rfl, rfl, rfl⟩) hk510 hb511 ga514 g515 ?_
  obtain ⟨τ516, e517⟩ : ∃ τ : AH, τ = (sR τ507 x0 63 (some (nx τ502))) := ⟨_, rfl⟩
  replace h := h τ516 e517
  rw [← e517]
  have hk519 : kd _ x0 = (12, NO 12) := (congrFun (congrArg kd e517) _).trans hk510
  have hb520 := Nat.lt_of_lt_of_eq hb511 (congrArg nx e517).symm
  refine E_aload_n 0 dX12_init_316 rfl rfl ?_
  refine E_bipush (60 : Int32) dX12_init_317 (by decide) ?_
  refine E_newaI 60 dX12_init_319 ac_int (by decide) (by decide) (by decide) ?_
  obtain ⟨τ521, e522⟩ : ∃ τ : AH, τ = (aw τ516 100 60) := ⟨_, rfl⟩
  replace h := h τ521 e522
  rw [← e522]
  have hk524 : kd _ x0 = (12, NO 12) := (congrFun (congrArg kd e522) _).trans ((up_ne _ _ _ (Nat.ne_of_lt hb520)).trans hk519)
  have hb525 := Nat.lt_of_lt_of_eq (Nat.lt_succ_of_lt hb520) (congrArg nx e522).symm
  have hk526 : kd _ (nx τ516) = (100, 60) := (congrFun (congrArg kd e522) _).trans (up_same _ _ _)
  have hb527 := Nat.lt_of_lt_of_eq (Nat.lt_succ_self _) (congrArg nx e522).symm
  obtain ⟨ga528, h⟩ := h
  obtain ⟨g529, h⟩ := h
  refine E_putR dX12_init_321 fl_X12_133 rfl (Or.inr ⟨rfl, rfl, rfl⟩) hk524 hb525 ga528 g529 ?_
  obtain ⟨τ530, e531⟩ : ∃ τ : AH, τ = (sR τ521 x0 64 (some (nx τ516))) := ⟨_, rfl⟩
  replace h := h τ530 e531
  rw [← e531]
  have hk533 : kd _ x0 = (12, NO 12) := (congrFun (congrArg kd e531) _).trans hk524
  have hb534 := Nat.lt_of_lt_of_eq hb525 (congrArg nx e531).symm
  refine E_aload_n 0 dX12_init_324 rfl rfl ?_
  refine E_bipush (60 : Int32) dX12_init_325 (by decide) ?_
  refine E_newaI 60 dX12_init_327 ac_int (by decide) (by decide) (by decide) ?_
  obtain ⟨τ535, e536⟩ : ∃ τ : AH, τ = (aw τ530 100 60) := ⟨_, rfl⟩
  replace h := h τ535 e536
  rw [← e536]
  have hk538 : kd _ x0 = (12, NO 12) := (congrFun (congrArg kd e536) _).trans ((up_ne _ _ _ (Nat.ne_of_lt hb534)).trans hk533)
  have hb539 := Nat.lt_of_lt_of_eq (Nat.lt_succ_of_lt hb534) (congrArg nx e536).symm
  have hk540 : kd _ (nx τ530) = (100, 60) := (congrFun (congrArg kd e536) _).trans (up_same _ _ _)
  have hb541 := Nat.lt_of_lt_of_eq (Nat.lt_succ_self _) (congrArg nx e536).symm
  obtain ⟨ga542, h⟩ := h
  obtain ⟨g543, h⟩ := h
  refine E_putR dX12_init_329 fl_X12_136 rfl (Or.inr ⟨rfl, rfl, rfl⟩) hk538 hb539 ga542 g543 ?_
  obtain ⟨τ544, e545⟩ : ∃ τ : AH, τ = (sR τ535 x0 66 (some (nx τ530))) := ⟨_, rfl⟩
  replace h := h τ544 e545
  rw [← e545]
  have hk547 : kd _ x0 = (12, NO 12) := (congrFun (congrArg kd e545) _).trans hk538
  have hb548 := Nat.lt_of_lt_of_eq hb539 (congrArg nx e545).symm
  refine E_aload_n 0 dX12_init_332 rfl rfl ?_
  refine E_bipush (30 : Int32) dX12_init_333 (by decide) ?_
  refine E_newaI 30 dX12_init_335 ac_int (by decide) (by decide) (by decide) ?_
  obtain ⟨τ549, e550⟩ : ∃ τ : AH, τ = (aw τ544 100 30) := ⟨_, rfl⟩
  replace h := h τ549 e550
  rw [← e550]
  have hk552 : kd _ x0 = (12, NO 12) := (congrFun (congrArg kd e550) _).trans ((up_ne _ _ _ (Nat.ne_of_lt hb548)).trans hk547)
  have hb553 := Nat.lt_of_lt_of_eq (Nat.lt_succ_of_lt hb548) (congrArg nx e550).symm
  have hk554 : kd _ (nx τ544) = (100, 30) := (congrFun (congrArg kd e550) _).trans (up_same _ _ _)
  have hb555 := Nat.lt_of_lt_of_eq (Nat.lt_succ_self _) (congrArg nx e550).symm
  obtain ⟨ga556, h⟩ := h
  obtain ⟨g557, h⟩ := h
  refine E_putR dX12_init_337 fl_X12_139 rfl (Or.inr ⟨rfl, rfl, rfl⟩) hk552 hb553 ga556 g557 ?_
  obtain ⟨τ558, e559⟩ : ∃ τ : AH, τ = (sR τ549 x0 67 (some (nx τ544))) := ⟨_, rfl⟩
  replace h := h τ558 e559
  rw [← e559]
  have hk561 : kd _ x0 = (12, NO 12) := (congrFun (congrArg kd e559) _).trans hk552
  have hb562 := Nat.lt_of_lt_of_eq hb553 (congrArg nx e559).symm
  refine E_aload_n 0 dX12_init_340 rfl rfl ?_
  refine E_bipush (30 : Int32) dX12_init_341 (by decide) ?_
  refine E_newaI 30 dX12_init_343 ac_int (by decide) (by decide) (by decide) ?_
  obtain ⟨τ563, e564⟩ : ∃ τ : AH, τ = (aw τ558 100 30) := ⟨_, rfl⟩
  replace h := h τ563 e564
  rw [← e564]
  have hk566 : kd _ x0 = (12, NO 12) := (congrFun (congrArg kd e564) _).trans ((up_ne _ _ _ (Nat.ne_of_lt hb562)).trans hk561)
  have hb567 := Nat.lt_of_lt_of_eq (Nat.lt_succ_of_lt hb562) (congrArg nx e564).symm
  have hk568 : kd _ (nx τ558) = (100, 30) := (congrFun (congrArg kd e564) _).trans (up_same _ _ _)
  have hb569 := Nat.lt_of_lt_of_eq (Nat.lt_succ_self _) (congrArg nx e564).symm
  obtain ⟨ga570, h⟩ := h
  obtain ⟨g571, h⟩ := h
  refine E_putR dX12_init_345 fl_X12_142 rfl (Or.inr ⟨rfl, rfl, rfl⟩) hk566 hb567 ga570 g571 ?_
  obtain ⟨τ572, e573⟩ : ∃ τ : AH, τ = (sR τ563 x0 68 (some (nx τ558))) := ⟨_, rfl⟩
  replace h := h τ572 e573
  rw [← e573]
  have hk575 : kd _ x0 = (12, NO 12) := (congrFun (congrArg kd e573) _).trans hk566
  have hb576 := Nat.lt_of_lt_of_eq hb567 (congrArg nx e573).symm
  obtain ⟨rfl, rfl⟩ := h
  exact E_vret dX12_init_348 rfl
def W_X12_in_0 (X : Sx) (l : Launch) (D : Nat) (x0 : Int64) (x2 : Int64) (x4 : Int64) (σ : AH) (r : Option Value) (σ' : AH) : Prop := (if x0 < x2 then (r = some (.int (0 : Int32)) ∧ σ' = σ) else (if x4 < x0 then (r = some (.int (0 : Int32)) ∧ σ' = σ) else (r = some (.int (1 : Int32)) ∧ σ' = σ)))
set_option maxRecDepth 100000 in
theorem w_X12_in_0 {X : Sx} {l : Launch} {D : Nat} {x0 : Int64} {x2 : Int64} {x4 : Int64} {σ : AH} {r : Option Value} {σ' : AH} (hs : Sh σ) (h : W_X12_in_0 X l D x0 x2 x4 σ r σ') : E X l m_X12_in D 0 [(0, .long x0), (2, .long x2), (4, .long x4)] [] σ r σ' := by
  unfold W_X12_in_0 at h
  refine E_lload_n 0 dX12_in_0 rfl rfl ?_
  refine E_lload_n 1 dX12_in_1 rfl rfl ?_
  refine E_lcmp dX12_in_2 ?_
  refine E_if_lt 17 dX12_in_3 (by decide) (fun c => ?_) (fun c => ?_)
  · rw [if_pos ((lc_lt _ _).mp c)] at h
    refine E_iconst (0 : Int32) dX12_in_17 (by decide) ?_
    obtain ⟨rfl, rfl⟩ := h
    exact E_zret dX12_in_18 rfl (Or.inl rfl)
  · rw [if_neg (fun q => c ((lc_lt _ _).mpr q))] at h
    refine E_lload_n 0 dX12_in_6 rfl rfl ?_
    refine E_lload 2 dX12_in_7 rfl ?_
    refine E_lcmp dX12_in_9 ?_
    refine E_if_gt 17 dX12_in_10 (by decide) (fun c => ?_) (fun c => ?_)
    · rw [if_pos ((lc_gt _ _).mp c)] at h
      refine E_iconst (0 : Int32) dX12_in_17 (by decide) ?_
      obtain ⟨rfl, rfl⟩ := h
      exact E_zret dX12_in_18 rfl (Or.inl rfl)
    · rw [if_neg (fun q => c ((lc_gt _ _).mpr q))] at h
      refine E_iconst (1 : Int32) dX12_in_13 (by decide) ?_
      refine E_goto 18 dX12_in_14 (by decide) ?_
      obtain ⟨rfl, rfl⟩ := h
      exact E_zret dX12_in_18 rfl (Or.inr rfl)
def W_X12_told_10 (X : Sx) (l : Launch) (D : Nat) (x1 : Int32) (y0 : Int32) (σ : AH) (r : Option Value) (σ' : AH) : Prop := (r = some (.int x1) ∧ σ' = (sI σ 124 1 y0))
set_option maxRecDepth 100000 in
theorem w_X12_told_10 {X : Sx} {l : Launch} {D : Nat} {x1 : Int32} {y0 : Int32} {σ : AH} {r : Option Value} {σ' : AH} (hs : Sh σ) (h : W_X12_told_10 X l D x1 y0 σ r σ') : E X l m_X12_told D 10 [(1, .int x1)] [.int y0, .ref 124] σ r σ' := by
  unfold W_X12_told_10 at h
  refine E_putI dX12_told_10 fl_X12_148 rfl (Or.inl rfl) (sk_124 hs) (sn hs (by decide)) (Or.inl (by decide)) rfl rfl ?_
  refine E_iload_n 0 dX12_told_13 rfl rfl ?_
  obtain ⟨rfl, rfl⟩ := h
  exact E_iret dX12_told_14 rfl
def W_X12_told_0 (X : Sx) (l : Launch) (D : Nat) (x1 : Int32) (σ : AH) (r : Option Value) (σ' : AH) : Prop := (if 0 ≤ x1 then W_X12_told_10 X l D x1 (0 : Int32) σ r σ' else W_X12_told_10 X l D x1 x1 σ r σ')
set_option maxRecDepth 100000 in
theorem w_X12_told_0 {X : Sx} {l : Launch} {D : Nat} {x1 : Int32} {σ : AH} {r : Option Value} {σ' : AH} (hs : Sh σ) (h : W_X12_told_0 X l D x1 σ r σ') : E X l m_X12_told D 0 [(0, .ref 124), (1, .int x1)] [] σ r σ' := by
  unfold W_X12_told_0 at h
  refine E_aload_n 0 dX12_told_0 rfl rfl ?_
  refine E_iload_n 1 dX12_told_1 rfl rfl ?_
  refine E_if_ge 9 dX12_told_2 (by decide) (fun c => ?_) (fun c => ?_)
  · rw [if_pos c] at h
    refine E_iconst (0 : Int32) dX12_told_9 (by decide) ?_
    exact E_lv [1] rfl (w_X12_told_10 hs h)
  · rw [if_neg c] at h
    refine E_iload_n 1 dX12_told_5 rfl rfl ?_
    refine E_goto 10 dX12_told_6 (by decide) ?_
    exact E_lv [1] rfl (w_X12_told_10 hs h)
def W_X12_isWeek_0 (X : Sx) (l : Launch) (D : Nat) (x0 : Int32) (σ : AH) (r : Option Value) (σ' : AH) : Prop := ∃ d1 : Nat, ∃ v6 : Int32, ∃ σ2 : AH, d1 + 1 ≤ D ∧ Call X l m_X12_in d1 [.long (x0).toInt64, .long (0 : Int64), .long (259 : Int64)] σ (some (.int v6)) σ2 ∧ ((v6 = 0 ∨ v6 = 1) ∧ r = some (.int v6) ∧ σ' = σ2)
set_option maxRecDepth 100000 in
theorem w_X12_isWeek_0 {X : Sx} {l : Launch} {D : Nat} {x0 : Int32} {σ : AH} {r : Option Value} {σ' : AH} (hs : Sh σ) (h : W_X12_isWeek_0 X l D x0 σ r σ') : E X l m_X12_isWeek D 0 [(0, .int x0)] [] σ r σ' := by
  unfold W_X12_isWeek_0 at h
  refine E_iload_n 0 dX12_isWeek_0 rfl rfl ?_
  refine E_i2l dX12_isWeek_1 ?_
  refine E_lconst (0 : Int64) dX12_isWeek_2 (by decide) ?_
  refine E_ldc2 (259 : Int64) dX12_isWeek_3 cl_X12_151 ?_
  obtain ⟨d1, v6, σ2, hD3, hC4, h⟩ := h
  have hs5 := hC4.1.2.2.2.1 hs
  refine E_callS (As := [.long (x0).toInt64, .long (0 : Int64), .long (259 : Int64)]) (rest := []) (r1 := (some (.int v6))) dX12_isWeek_6 ok_X12_in is_X12_in ml_X12_153 hD3 rfl rfl (Nat.le_of_ble_eq_true rfl) (by decide +kernel) hC4 ?_
  obtain ⟨hz, rfl, rfl⟩ := h
  exact E_zret dX12_isWeek_9 rfl hz
def W_X12_isCouncil_0 (X : Sx) (l : Launch) (D : Nat) (x0 : Int32) (σ : AH) (r : Option Value) (σ' : AH) : Prop := ∃ d1 : Nat, ∃ v6 : Int32, ∃ σ2 : AH, d1 + 1 ≤ D ∧ Call X l m_X12_in d1 [.long (x0).toInt64, .long (0 : Int64), .long (5 : Int64)] σ (some (.int v6)) σ2 ∧ ((v6 = 0 ∨ v6 = 1) ∧ r = some (.int v6) ∧ σ' = σ2)
set_option maxRecDepth 100000 in
theorem w_X12_isCouncil_0 {X : Sx} {l : Launch} {D : Nat} {x0 : Int32} {σ : AH} {r : Option Value} {σ' : AH} (hs : Sh σ) (h : W_X12_isCouncil_0 X l D x0 σ r σ') : E X l m_X12_isCouncil D 0 [(0, .int x0)] [] σ r σ' := by
  unfold W_X12_isCouncil_0 at h
  refine E_iload_n 0 dX12_isCouncil_0 rfl rfl ?_
  refine E_i2l dX12_isCouncil_1 ?_
  refine E_lconst (0 : Int64) dX12_isCouncil_2 (by decide) ?_
  refine E_ldc2 (5 : Int64) dX12_isCouncil_3 cl_X12_157 ?_
  obtain ⟨d1, v6, σ2, hD3, hC4, h⟩ := h
  have hs5 := hC4.1.2.2.2.1 hs
  refine E_callS (As := [.long (x0).toInt64, .long (0 : Int64), .long (5 : Int64)]) (rest := []) (r1 := (some (.int v6))) dX12_isCouncil_6 ok_X12_in is_X12_in ml_X12_153 hD3 rfl rfl (Nat.le_of_ble_eq_true rfl) (by decide +kernel) hC4 ?_
  obtain ⟨hz, rfl, rfl⟩ := h
  exact E_zret dX12_isCouncil_9 rfl hz
def W_X12_isQuarter_0 (X : Sx) (l : Launch) (D : Nat) (x0 : Int32) (σ : AH) (r : Option Value) (σ' : AH) : Prop := ∃ d1 : Nat, ∃ v6 : Int32, ∃ σ2 : AH, d1 + 1 ≤ D ∧ Call X l m_X12_in d1 [.long (x0).toInt64, .long (0 : Int64), .long (19 : Int64)] σ (some (.int v6)) σ2 ∧ ((v6 = 0 ∨ v6 = 1) ∧ r = some (.int v6) ∧ σ' = σ2)
set_option maxRecDepth 100000 in
theorem w_X12_isQuarter_0 {X : Sx} {l : Launch} {D : Nat} {x0 : Int32} {σ : AH} {r : Option Value} {σ' : AH} (hs : Sh σ) (h : W_X12_isQuarter_0 X l D x0 σ r σ') : E X l m_X12_isQuarter D 0 [(0, .int x0)] [] σ r σ' := by
  unfold W_X12_isQuarter_0 at h
  refine E_iload_n 0 dX12_isQuarter_0 rfl rfl ?_
  refine E_i2l dX12_isQuarter_1 ?_
  refine E_lconst (0 : Int64) dX12_isQuarter_2 (by decide) ?_
  refine E_ldc2 (19 : Int64) dX12_isQuarter_3 cl_X12_159 ?_
  obtain ⟨d1, v6, σ2, hD3, hC4, h⟩ := h
  have hs5 := hC4.1.2.2.2.1 hs
  refine E_callS (As := [.long (x0).toInt64, .long (0 : Int64), .long (19 : Int64)]) (rest := []) (r1 := (some (.int v6))) dX12_isQuarter_6 ok_X12_in is_X12_in ml_X12_153 hD3 rfl rfl (Nat.le_of_ble_eq_true rfl) (by decide +kernel) hC4 ?_
  obtain ⟨hz, rfl, rfl⟩ := h
  exact E_zret dX12_isQuarter_9 rfl hz
def W_X12_image_0 (X : Sx) (l : Launch) (D : Nat) (x1 : Int32) (σ : AH) (r : Option Value) (σ' : AH) : Prop := ∃ d1 : Nat, ∃ v6 : Int32, ∃ σ2 : AH, d1 + 1 ≤ D ∧ Call X l m_X12_in d1 [.long (x1).toInt64, .long (0 : Int64), .long (2 : Int64)] (sI σ 124 0 (0 : Int32)) (some (.int v6)) σ2 ∧ (if v6 = 0 then ∃ d7 : Nat, ∃ v12 : Int32, ∃ σ8 : AH, d7 + 1 ≤ D ∧ Call X l m_X12_told d7 [.ref 124, .int (-1 : Int32)] σ2 (some (.int v12)) σ8 ∧ (r = some (.int v12) ∧ σ' = σ8) else E X l m_X12_image D 25 [(0, .ref 124), (1, .int x1), (2, .int (0 : Int32))] [] σ2 r σ')
set_option maxRecDepth 100000 in
theorem w_X12_image_0 {X : Sx} {l : Launch} {D : Nat} {x1 : Int32} {σ : AH} {r : Option Value} {σ' : AH} (hs : Sh σ) (h : W_X12_image_0 X l D x1 σ r σ') : E X l m_X12_image D 0 [(0, .ref 124), (1, .int x1)] [] σ r σ' := by
  unfold W_X12_image_0 at h
  refine E_aload_n 0 dX12_image_0 rfl rfl ?_
  refine E_iconst (0 : Int32) dX12_image_1 (by decide) ?_
  refine E_putI dX12_image_2 fl_X12_145 rfl (Or.inl rfl) (sk_124 hs) (sn hs (by decide)) (Or.inl (by decide)) rfl rfl ?_
  refine E_iload_n 1 dX12_image_5 rfl rfl ?_
  refine E_i2l dX12_image_6 ?_
  refine E_lconst (0 : Int64) dX12_image_7 (by decide) ?_
  refine E_ldc2 (2 : Int64) dX12_image_8 cl_X12_161 ?_
  obtain ⟨d1, v6, σ2, hD3, hC4, h⟩ := h
  have hs5 := hC4.1.2.2.2.1 hs
  refine E_callS (As := [.long (x1).toInt64, .long (0 : Int64), .long (2 : Int64)]) (rest := []) (r1 := (some (.int v6))) dX12_image_11 ok_X12_in is_X12_in ml_X12_153 hD3 rfl rfl (Nat.le_of_ble_eq_true rfl) (by decide +kernel) hC4 ?_
  refine E_if_ne 23 dX12_image_14 (by decide) (fun c => ?_) (fun c => ?_)
  · rw [if_neg c] at h
    refine E_iconst (0 : Int32) dX12_image_23 (by decide) ?_
    refine E_istore_n [(2, .int (0 : Int32)), (0, .ref 124), (1, .int x1)] dX12_image_24 rfl (by decide) rfl ?_
    exact E_lv [1, 2, 0] rfl h
  · rw [if_pos c] at h
    refine E_aload_n 0 dX12_image_17 rfl rfl ?_
    refine E_iconst (-1 : Int32) dX12_image_18 (by decide) ?_
    obtain ⟨d7, v12, σ8, hD9, hC10, h⟩ := h
    have hs11 := hC10.1.2.2.2.1 hs5
    refine E_callV (As := [.int (-1 : Int32)]) (rest := []) (r1 := (some (.int v12))) (b := 124) dX12_image_19 ok_X12_told in_X12_told se_X12_told ml_X12_163 hD9 rfl rfl (Nat.le_of_ble_eq_true rfl) (sk_124 hs5) (sn hs5 (by decide)) (by decide) rfl (by decide +kernel) hC10 ?_
    obtain ⟨rfl, rfl⟩ := h
    exact E_iret dX12_image_22 rfl
def W_X12_image_25 (X : Sx) (l : Launch) (D : Nat) (x1 : Int32) (x2 : Int32) (σ : AH) (r : Option Value) (σ' : AH) : Prop := (if (269832 : Int32) ≤ x2 then vp_in x1 3 ∧ ∃ d14 : Nat, ∃ v19 : Int32, ∃ σ15 : AH, d14 + 1 ≤ D ∧ Call X l m_X12_told d14 [.ref 124, .int (0 : Int32)] (sI σ 127 x1.toNatClampNeg (1 : Int32)) (some (.int v19)) σ15 ∧ (r = some (.int v19) ∧ σ' = σ15) else vp_in x2 269832 ∧ vp_in (((269832 : Int32) * x1) + x2) 809496 ∧ E X l m_X12_image D 25 [(0, .ref 124), (1, .int x1), (2, .int (x2 + 1))] [] (sI σ 126 ((((269832 : Int32) * x1) + x2).toNatClampNeg) (gI σ 125 x2.toNatClampNeg)) r σ')
set_option maxRecDepth 100000 in
theorem w_X12_image_25 {X : Sx} {l : Launch} {D : Nat} {x1 : Int32} {x2 : Int32} {σ : AH} {r : Option Value} {σ' : AH} (hs : Sh σ) (h : W_X12_image_25 X l D x1 x2 σ r σ') : E X l m_X12_image D 25 [(0, .ref 124), (1, .int x1), (2, .int x2)] [] σ r σ' := by
  unfold W_X12_image_25 at h
  refine E_iload_n 2 dX12_image_25 rfl rfl ?_
  refine E_ldc (269832 : Int32) dX12_image_26 ct_X12_7 ?_
  refine E_icmp_ge 54 dX12_image_28 (by decide) (fun c => ?_) (fun c => ?_)
  · rw [if_pos c] at h
    refine E_aload_n 0 dX12_image_54 rfl rfl ?_
    refine E_getR 127 dX12_image_55 fl_X12_18 rfl (sk_124 hs) (sn hs (by decide)) (sr_124_4 hs) ?_
    refine E_iload_n 1 dX12_image_58 rfl rfl ?_
    refine E_iconst (1 : Int32) dX12_image_59 (by decide) ?_
    obtain ⟨g13, h⟩ := h
    refine E_zast2 (x1.toNatClampNeg) (1 : Int32) (by decide) dX12_image_60 (sk_127 hs) (sn hs (by decide)) (Or.inl (by decide)) g13 rfl ?_
    refine E_aload_n 0 dX12_image_61 rfl rfl ?_
    refine E_iconst (0 : Int32) dX12_image_62 (by decide) ?_
    obtain ⟨d14, v19, σ15, hD16, hC17, h⟩ := h
    have hs18 := hC17.1.2.2.2.1 hs
    refine E_callV (As := [.int (0 : Int32)]) (rest := []) (r1 := (some (.int v19))) (b := 124) dX12_image_63 ok_X12_told in_X12_told se_X12_told ml_X12_163 hD16 rfl rfl (Nat.le_of_ble_eq_true rfl) (sk_124 hs) (sn hs (by decide)) (by decide) rfl (by decide +kernel) hC17 ?_
    obtain ⟨rfl, rfl⟩ := h
    exact E_iret dX12_image_66 rfl
  · rw [if_neg c] at h
    refine E_aload_n 0 dX12_image_31 rfl rfl ?_
    refine E_getR 126 dX12_image_32 fl_X12_15 rfl (sk_124 hs) (sn hs (by decide)) (sr_124_3 hs) ?_
    refine E_ldc (269832 : Int32) dX12_image_35 ct_X12_7 ?_
    refine E_iload_n 1 dX12_image_37 rfl rfl ?_
    refine E_imul dX12_image_38 ?_
    refine E_iload_n 2 dX12_image_39 rfl rfl ?_
    refine E_iadd dX12_image_40 ?_
    refine E_aload_n 0 dX12_image_41 rfl rfl ?_
    refine E_getR 125 dX12_image_42 fl_X12_8 rfl (sk_124 hs) (sn hs (by decide)) (sr_124_2 hs) ?_
    refine E_iload_n 2 dX12_image_45 rfl rfl ?_
    obtain ⟨g20, h⟩ := h
    refine E_iald2 (x2.toNatClampNeg) dX12_image_46 (sk_125 hs) (sn hs (by decide)) g20 rfl ?_
    obtain ⟨g21, h⟩ := h
    refine E_iast2 ((((269832 : Int32) * x1) + x2).toNatClampNeg) dX12_image_47 (sk_126 hs) (sn hs (by decide)) (Or.inl (by decide)) g21 rfl ?_
    refine E_iinc 2 (x2 + 1) [(2, .int (x2 + 1)), (0, .ref 124), (1, .int x1)] dX12_image_48 rfl (congrArg (x2 + ·) (by decide : Int32.ofInt 1 = 1)) (by decide) rfl ?_
    refine E_goto 25 dX12_image_51 (by decide) ?_
    exact E_lv [1, 2, 0] rfl h
def W_X12_back_0 (X : Sx) (l : Launch) (D : Nat) (x1 : Int32) (σ : AH) (r : Option Value) (σ' : AH) : Prop := ∃ d1 : Nat, ∃ v6 : Int32, ∃ σ2 : AH, d1 + 1 ≤ D ∧ Call X l m_X12_in d1 [.long (x1).toInt64, .long (0 : Int64), .long (2 : Int64)] (sI σ 124 0 (0 : Int32)) (some (.int v6)) σ2 ∧ (if v6 = 0 then ∃ d14 : Nat, ∃ v19 : Int32, ∃ σ15 : AH, d14 + 1 ≤ D ∧ Call X l m_X12_told d14 [.ref 124, .int (-1 : Int32)] σ2 (some (.int v19)) σ15 ∧ (r = some (.int v19) ∧ σ' = σ15) else vp_in x1 3 ∧ (if (gI σ2 127 x1.toNatClampNeg) = 0 then ∃ d8 : Nat, ∃ v13 : Int32, ∃ σ9 : AH, d8 + 1 ≤ D ∧ Call X l m_X12_told d8 [.ref 124, .int (-2 : Int32)] σ2 (some (.int v13)) σ9 ∧ (r = some (.int v13) ∧ σ' = σ9) else E X l m_X12_back D 41 [(0, .ref 124), (1, .int x1), (2, .int (0 : Int32))] [] σ2 r σ'))
set_option maxRecDepth 100000 in
theorem w_X12_back_0 {X : Sx} {l : Launch} {D : Nat} {x1 : Int32} {σ : AH} {r : Option Value} {σ' : AH} (hs : Sh σ) (h : W_X12_back_0 X l D x1 σ r σ') : E X l m_X12_back D 0 [(0, .ref 124), (1, .int x1)] [] σ r σ' := by
  unfold W_X12_back_0 at h
  refine E_aload_n 0 dX12_back_0 rfl rfl ?_
  refine E_iconst (0 : Int32) dX12_back_1 (by decide) ?_
  refine E_putI dX12_back_2 fl_X12_145 rfl (Or.inl rfl) (sk_124 hs) (sn hs (by decide)) (Or.inl (by decide)) rfl rfl ?_
  refine E_iload_n 1 dX12_back_5 rfl rfl ?_
  refine E_i2l dX12_back_6 ?_
  refine E_lconst (0 : Int64) dX12_back_7 (by decide) ?_
  refine E_ldc2 (2 : Int64) dX12_back_8 cl_X12_161 ?_
  obtain ⟨d1, v6, σ2, hD3, hC4, h⟩ := h
  have hs5 := hC4.1.2.2.2.1 hs
  refine E_callS (As := [.long (x1).toInt64, .long (0 : Int64), .long (2 : Int64)]) (rest := []) (r1 := (some (.int v6))) dX12_back_11 ok_X12_in is_X12_in ml_X12_153 hD3 rfl rfl (Nat.le_of_ble_eq_true rfl) (by decide +kernel) hC4 ?_
  refine E_if_ne 23 dX12_back_14 (by decide) (fun c => ?_) (fun c => ?_)
  · rw [if_neg c] at h
    refine E_aload_n 0 dX12_back_23 rfl rfl ?_
    refine E_getR 127 dX12_back_24 fl_X12_18 rfl (sk_124 hs5) (sn hs5 (by decide)) (sr_124_4 hs5) ?_
    refine E_iload_n 1 dX12_back_27 rfl rfl ?_
    obtain ⟨g7, h⟩ := h
    refine E_zald2 (x1.toNatClampNeg) dX12_back_28 (sk_127 hs5) (sn hs5 (by decide)) g7 rfl ?_
    refine E_if_ne 39 dX12_back_29 (by decide) (fun c => ?_) (fun c => ?_)
    · rw [if_neg c] at h
      refine E_iconst (0 : Int32) dX12_back_39 (by decide) ?_
      refine E_istore_n [(2, .int (0 : Int32)), (0, .ref 124), (1, .int x1)] dX12_back_40 rfl (by decide) rfl ?_
      exact E_lv [1, 2, 0] rfl h
    · rw [if_pos c] at h
      refine E_aload_n 0 dX12_back_32 rfl rfl ?_
      refine E_bipush (-2 : Int32) dX12_back_33 (by decide) ?_
      obtain ⟨d8, v13, σ9, hD10, hC11, h⟩ := h
      have hs12 := hC11.1.2.2.2.1 hs5
      refine E_callV (As := [.int (-2 : Int32)]) (rest := []) (r1 := (some (.int v13))) (b := 124) dX12_back_35 ok_X12_told in_X12_told se_X12_told ml_X12_163 hD10 rfl rfl (Nat.le_of_ble_eq_true rfl) (sk_124 hs5) (sn hs5 (by decide)) (by decide) rfl (by decide +kernel) hC11 ?_
      obtain ⟨rfl, rfl⟩ := h
      exact E_iret dX12_back_38 rfl
  · rw [if_pos c] at h
    refine E_aload_n 0 dX12_back_17 rfl rfl ?_
    refine E_iconst (-1 : Int32) dX12_back_18 (by decide) ?_
    obtain ⟨d14, v19, σ15, hD16, hC17, h⟩ := h
    have hs18 := hC17.1.2.2.2.1 hs5
    refine E_callV (As := [.int (-1 : Int32)]) (rest := []) (r1 := (some (.int v19))) (b := 124) dX12_back_19 ok_X12_told in_X12_told se_X12_told ml_X12_163 hD16 rfl rfl (Nat.le_of_ble_eq_true rfl) (sk_124 hs5) (sn hs5 (by decide)) (by decide) rfl (by decide +kernel) hC17 ?_
    obtain ⟨rfl, rfl⟩ := h
    exact E_iret dX12_back_22 rfl
def W_X12_back_41 (X : Sx) (l : Launch) (D : Nat) (x1 : Int32) (x2 : Int32) (σ : AH) (r : Option Value) (σ' : AH) : Prop := (if (269832 : Int32) ≤ x2 then ∃ d20 : Nat, ∃ v25 : Int32, ∃ σ21 : AH, d20 + 1 ≤ D ∧ Call X l m_X12_told d20 [.ref 124, .int (0 : Int32)] (sI (sI σ 124 6 (0 : Int32)) 124 48 (0 : Int32)) (some (.int v25)) σ21 ∧ (r = some (.int v25) ∧ σ' = σ21) else vp_in (((269832 : Int32) * x1) + x2) 809496 ∧ vp_in x2 269832 ∧ E X l m_X12_back D 41 [(0, .ref 124), (1, .int x1), (2, .int (x2 + 1))] [] (sI σ 125 x2.toNatClampNeg (gI σ 126 (((269832 : Int32) * x1) + x2).toNatClampNeg)) r σ')
set_option maxRecDepth 100000 in
theorem w_X12_back_41 {X : Sx} {l : Launch} {D : Nat} {x1 : Int32} {x2 : Int32} {σ : AH} {r : Option Value} {σ' : AH} (hs : Sh σ) (h : W_X12_back_41 X l D x1 x2 σ r σ') : E X l m_X12_back D 41 [(0, .ref 124), (1, .int x1), (2, .int x2)] [] σ r σ' := by
  unfold W_X12_back_41 at h
  refine E_iload_n 2 dX12_back_41 rfl rfl ?_
  refine E_ldc (269832 : Int32) dX12_back_42 ct_X12_7 ?_
  refine E_icmp_ge 70 dX12_back_44 (by decide) (fun c => ?_) (fun c => ?_)
  · rw [if_pos c] at h
    refine E_aload_n 0 dX12_back_70 rfl rfl ?_
    refine E_iconst (0 : Int32) dX12_back_71 (by decide) ?_
    refine E_putI dX12_back_72 fl_X12_167 rfl (Or.inl rfl) (sk_124 hs) (sn hs (by decide)) (Or.inl (by decide)) rfl rfl ?_
    refine E_aload_n 0 dX12_back_75 rfl rfl ?_
    refine E_iconst (0 : Int32) dX12_back_76 (by decide) ?_
    refine E_putI dX12_back_77 fl_X12_170 rfl (Or.inl rfl) (sk_124 hs) (sn hs (by decide)) (Or.inl (by decide)) rfl rfl ?_
    refine E_aload_n 0 dX12_back_80 rfl rfl ?_
    refine E_iconst (0 : Int32) dX12_back_81 (by decide) ?_
    obtain ⟨d20, v25, σ21, hD22, hC23, h⟩ := h
    have hs24 := hC23.1.2.2.2.1 hs
    refine E_callV (As := [.int (0 : Int32)]) (rest := []) (r1 := (some (.int v25))) (b := 124) dX12_back_82 ok_X12_told in_X12_told se_X12_told ml_X12_163 hD22 rfl rfl (Nat.le_of_ble_eq_true rfl) (sk_124 hs) (sn hs (by decide)) (by decide) rfl (by decide +kernel) hC23 ?_
    obtain ⟨rfl, rfl⟩ := h
    exact E_iret dX12_back_85 rfl
  · rw [if_neg c] at h
    refine E_aload_n 0 dX12_back_47 rfl rfl ?_
    refine E_getR 125 dX12_back_48 fl_X12_8 rfl (sk_124 hs) (sn hs (by decide)) (sr_124_2 hs) ?_
    refine E_iload_n 2 dX12_back_51 rfl rfl ?_
    refine E_aload_n 0 dX12_back_52 rfl rfl ?_
    refine E_getR 126 dX12_back_53 fl_X12_15 rfl (sk_124 hs) (sn hs (by decide)) (sr_124_3 hs) ?_
    refine E_ldc (269832 : Int32) dX12_back_56 ct_X12_7 ?_
    refine E_iload_n 1 dX12_back_58 rfl rfl ?_
    refine E_imul dX12_back_59 ?_
    refine E_iload_n 2 dX12_back_60 rfl rfl ?_
    refine E_iadd dX12_back_61 ?_
    obtain ⟨g26, h⟩ := h
    refine E_iald2 ((((269832 : Int32) * x1) + x2).toNatClampNeg) dX12_back_62 (sk_126 hs) (sn hs (by decide)) g26 rfl ?_
    obtain ⟨g27, h⟩ := h
    refine E_iast2 (x2.toNatClampNeg) dX12_back_63 (sk_125 hs) (sn hs (by decide)) (Or.inl (by decide)) g27 rfl ?_
    refine E_iinc 2 (x2 + 1) [(2, .int (x2 + 1)), (0, .ref 124), (1, .int x1)] dX12_back_64 rfl (congrArg (x2 + ·) (by decide : Int32.ofInt 1 = 1)) (by decide) rfl ?_
    refine E_goto 41 dX12_back_67 (by decide) ?_
    exact E_lv [1, 2, 0] rfl h
def W_X12_addFour_0 (X : Sx) (l : Launch) (D : Nat) (x1 : Int32) (x2 : Int32) (x3 : Int32) (x4 : Int32) (x5 : Int32) (σ : AH) (r : Option Value) (σ' : AH) : Prop := vp_in x1 269832 ∧ vp_in (x1 + (1 : Int32)) 269832 ∧ vp_in (x1 + (2 : Int32)) 269832 ∧ vp_in (x1 + (3 : Int32)) 269832 ∧ (∀ τ5 : AH, τ5 = (sI (sI (sI (sI σ 125 x1.toNatClampNeg x2) 125 ((x1 + (1 : Int32)).toNatClampNeg) x3) 125 ((x1 + (2 : Int32)).toNatClampNeg) x4) 125 ((x1 + (3 : Int32)).toNatClampNeg) x5) → (r = none ∧ σ' = τ5))
set_option maxRecDepth 100000 in
theorem w_X12_addFour_0 {X : Sx} {l : Launch} {D : Nat} {x1 : Int32} {x2 : Int32} {x3 : Int32} {x4 : Int32} {x5 : Int32} {σ : AH} {r : Option Value} {σ' : AH} (hs : Sh σ) (h : W_X12_addFour_0 X l D x1 x2 x3 x4 x5 σ r σ') : E X l m_X12_addFour D 0 [(0, .ref 124), (1, .int x1), (2, .int x2), (3, .int x3), (4, .int x4), (5, .int x5)] [] σ r σ' := by
  unfold W_X12_addFour_0 at h
  refine E_aload_n 0 dX12_addFour_0 rfl rfl ?_
  refine E_getR 125 dX12_addFour_1 fl_X12_8 rfl (sk_124 hs) (sn hs (by decide)) (sr_124_2 hs) ?_
  refine E_iload_n 1 dX12_addFour_4 rfl rfl ?_
  refine E_iload_n 2 dX12_addFour_5 rfl rfl ?_
  obtain ⟨g1, h⟩ := h
  refine E_iast2 (x1.toNatClampNeg) dX12_addFour_6 (sk_125 hs) (sn hs (by decide)) (Or.inl (by decide)) g1 rfl ?_
  refine E_aload_n 0 dX12_addFour_7 rfl rfl ?_
  refine E_getR 125 dX12_addFour_8 fl_X12_8 rfl (sk_124 hs) (sn hs (by decide)) (sr_124_2 hs) ?_
  refine E_iload_n 1 dX12_addFour_11 rfl rfl ?_
  refine E_iconst (1 : Int32) dX12_addFour_12 (by decide) ?_
  refine E_iadd dX12_addFour_13 ?_
  refine E_iload_n 3 dX12_addFour_14 rfl rfl ?_
  obtain ⟨g2, h⟩ := h
  refine E_iast2 ((x1 + (1 : Int32)).toNatClampNeg) dX12_addFour_15 (sk_125 hs) (sn hs (by decide)) (Or.inl (by decide)) g2 rfl ?_
  refine E_aload_n 0 dX12_addFour_16 rfl rfl ?_
  refine E_getR 125 dX12_addFour_17 fl_X12_8 rfl (sk_124 hs) (sn hs (by decide)) (sr_124_2 hs) ?_
  refine E_iload_n 1 dX12_addFour_20 rfl rfl ?_
  refine E_iconst (2 : Int32) dX12_addFour_21 (by decide) ?_
  refine E_iadd dX12_addFour_22 ?_
  refine E_iload 4 dX12_addFour_23 rfl ?_
  obtain ⟨g3, h⟩ := h
  refine E_iast2 ((x1 + (2 : Int32)).toNatClampNeg) dX12_addFour_25 (sk_125 hs) (sn hs (by decide)) (Or.inl (by decide)) g3 rfl ?_
  refine E_aload_n 0 dX12_addFour_26 rfl rfl ?_
  refine E_getR 125 dX12_addFour_27 fl_X12_8 rfl (sk_124 hs) (sn hs (by decide)) (sr_124_2 hs) ?_
  refine E_iload_n 1 dX12_addFour_30 rfl rfl ?_
  refine E_iconst (3 : Int32) dX12_addFour_31 (by decide) ?_
  refine E_iadd dX12_addFour_32 ?_
  refine E_iload 5 dX12_addFour_33 rfl ?_
  obtain ⟨g4, h⟩ := h
  refine E_iast2 ((x1 + (3 : Int32)).toNatClampNeg) dX12_addFour_35 (sk_125 hs) (sn hs (by decide)) (Or.inl (by decide)) g4 rfl ?_
  obtain ⟨τ5, e6⟩ : ∃ τ : AH, τ = (sI (sI (sI (sI σ 125 x1.toNatClampNeg x2) 125 ((x1 + (1 : Int32)).toNatClampNeg) x3) 125 ((x1 + (2 : Int32)).toNatClampNeg) x4) 125 ((x1 + (3 : Int32)).toNatClampNeg) x5) := ⟨_, rfl⟩
  replace h := h τ5 e6
  rw [← e6]
  have hs7 : Sh τ5 := by rw [e6]; exact hs
  obtain ⟨rfl, rfl⟩ := h
  exact E_vret dX12_addFour_36 rfl
def W_X12_four_0 (X : Sx) (l : Launch) (D : Nat) (x1 : Int32) (σ : AH) (r : Option Value) (σ' : AH) : Prop := E X l m_X12_four D 3 [(0, .ref 124), (1, .int x1), (2, .int (24 : Int32))] [] σ r σ'
set_option maxRecDepth 100000 in
theorem w_X12_four_0 {X : Sx} {l : Launch} {D : Nat} {x1 : Int32} {σ : AH} {r : Option Value} {σ' : AH} (hs : Sh σ) (h : W_X12_four_0 X l D x1 σ r σ') : E X l m_X12_four D 0 [(0, .ref 124), (1, .int x1)] [] σ r σ' := by
  unfold W_X12_four_0 at h
  refine E_bipush (24 : Int32) dX12_four_0 (by decide) ?_
  refine E_istore_n [(2, .int (24 : Int32)), (0, .ref 124), (1, .int x1)] dX12_four_2 rfl (by decide) rfl ?_
  exact E_lv [1, 2, 0] rfl h
def W_X12_four_3 (X : Sx) (l : Launch) (D : Nat) (x1 : Int32) (x2 : Int32) (σ : AH) (r : Option Value) (σ' : AH) : Prop := (if x2 < 0 then (r = none ∧ σ' = σ) else vp_in (gI σ 124 6) 400 ∧ (∀ τ2 : AH, τ2 = (sI (sI σ 128 ((gI σ 124 6).toNatClampNeg) ((x1 >>> (x2 &&& 31)) &&& (255 : Int32))) 124 6 ((gI (sI σ 128 ((gI σ 124 6).toNatClampNeg) ((x1 >>> (x2 &&& 31)) &&& (255 : Int32))) 124 6) + (1 : Int32))) → E X l m_X12_four D 3 [(0, .ref 124), (1, .int x1), (2, .int (x2 + (-8)))] [] τ2 r σ'))
set_option maxRecDepth 100000 in
theorem w_X12_four_3 {X : Sx} {l : Launch} {D : Nat} {x1 : Int32} {x2 : Int32} {σ : AH} {r : Option Value} {σ' : AH} (hs : Sh σ) (h : W_X12_four_3 X l D x1 x2 σ r σ') : E X l m_X12_four D 3 [(0, .ref 124), (1, .int x1), (2, .int x2)] [] σ r σ' := by
  unfold W_X12_four_3 at h
  refine E_iload_n 2 dX12_four_3 rfl rfl ?_
  refine E_if_lt 39 dX12_four_4 (by decide) (fun c => ?_) (fun c => ?_)
  · rw [if_pos c] at h
    obtain ⟨rfl, rfl⟩ := h
    exact E_vret dX12_four_39 rfl
  · rw [if_neg c] at h
    refine E_aload_n 0 dX12_four_7 rfl rfl ?_
    refine E_getR 128 dX12_four_8 fl_X12_22 rfl (sk_124 hs) (sn hs (by decide)) (sr_124_5 hs) ?_
    refine E_aload_n 0 dX12_four_11 rfl rfl ?_
    refine E_getI dX12_four_12 fl_X12_167 rfl (sk_124 hs) (sn hs (by decide)) ?_
    refine E_iload_n 1 dX12_four_15 rfl rfl ?_
    refine E_iload_n 2 dX12_four_16 rfl rfl ?_
    refine E_ishr dX12_four_17 ?_
    refine E_sipush (255 : Int32) dX12_four_18 (by decide) ?_
    refine E_iand dX12_four_21 ?_
    obtain ⟨g1, h⟩ := h
    refine E_iast2 ((gI σ 124 6).toNatClampNeg) dX12_four_22 (sk_128 hs) (sn hs (by decide)) (Or.inl (by decide)) g1 rfl ?_
    refine E_aload_n 0 dX12_four_23 rfl rfl ?_
    refine E_dup dX12_four_24 rfl ?_
    refine E_getI dX12_four_25 fl_X12_167 rfl (sk_124 hs) (sn hs (by decide)) ?_
    refine E_iconst (1 : Int32) dX12_four_28 (by decide) ?_
    refine E_iadd dX12_four_29 ?_
    refine E_putI dX12_four_30 fl_X12_167 rfl (Or.inl rfl) (sk_124 hs) (sn hs (by decide)) (Or.inl (by decide)) rfl rfl ?_
    obtain ⟨τ2, e3⟩ : ∃ τ : AH, τ = (sI (sI σ 128 ((gI σ 124 6).toNatClampNeg) ((x1 >>> (x2 &&& 31)) &&& (255 : Int32))) 124 6 ((gI (sI σ 128 ((gI σ 124 6).toNatClampNeg) ((x1 >>> (x2 &&& 31)) &&& (255 : Int32))) 124 6) + (1 : Int32))) := ⟨_, rfl⟩
    replace h := h τ2 e3
    rw [← e3]
    have hs4 : Sh τ2 := by rw [e3]; exact hs
    refine E_iinc 2 (x2 + (-8)) [(2, .int (x2 + (-8))), (0, .ref 124), (1, .int x1)] dX12_four_33 rfl (congrArg (x2 + ·) (by decide : Int32.ofInt (-8) = -8)) (by decide) rfl ?_
    refine E_goto 3 dX12_four_36 (by decide) ?_
    exact E_lv [1, 2, 0] rfl h
def W_X12_feed_0 (X : Sx) (l : Launch) (D : Nat) (x1 : Int32) (x2 : Int32) (x3 : Int32) (x4 : Int32) (x5 : Int32) (σ : AH) (r : Option Value) (σ' : AH) : Prop := (if ((gI (sI σ 124 0 (0 : Int32)) 124 6) + (20 : Int32)) ≤ (400 : Int32) then ∃ d1 : Nat, ∃ σ2 : AH, d1 + 1 ≤ D ∧ Call X l m_X12_four d1 [.ref 124, .int x1] (sI σ 124 0 (0 : Int32)) none σ2 ∧ ∃ d6 : Nat, ∃ σ7 : AH, d6 + 1 ≤ D ∧ Call X l m_X12_four d6 [.ref 124, .int x2] σ2 none σ7 ∧ ∃ d11 : Nat, ∃ σ12 : AH, d11 + 1 ≤ D ∧ Call X l m_X12_four d11 [.ref 124, .int x3] σ7 none σ12 ∧ ∃ d16 : Nat, ∃ σ17 : AH, d16 + 1 ≤ D ∧ Call X l m_X12_four d16 [.ref 124, .int x4] σ12 none σ17 ∧ ∃ d21 : Nat, ∃ σ22 : AH, d21 + 1 ≤ D ∧ Call X l m_X12_four d21 [.ref 124, .int x5] σ17 none σ22 ∧ (r = some (.int (gI σ22 124 6)) ∧ σ' = σ22) else (r = some (.int (-1 : Int32)) ∧ σ' = (sI σ 124 0 (0 : Int32))))
set_option maxRecDepth 100000 in
theorem w_X12_feed_0 {X : Sx} {l : Launch} {D : Nat} {x1 : Int32} {x2 : Int32} {x3 : Int32} {x4 : Int32} {x5 : Int32} {σ : AH} {r : Option Value} {σ' : AH} (hs : Sh σ) (h : W_X12_feed_0 X l D x1 x2 x3 x4 x5 σ r σ') : E X l m_X12_feed D 0 [(0, .ref 124), (1, .int x1), (2, .int x2), (3, .int x3), (4, .int x4), (5, .int x5)] [] σ r σ' := by
  unfold W_X12_feed_0 at h
  refine E_aload_n 0 dX12_feed_0 rfl rfl ?_
  refine E_iconst (0 : Int32) dX12_feed_1 (by decide) ?_
  refine E_putI dX12_feed_2 fl_X12_145 rfl (Or.inl rfl) (sk_124 hs) (sn hs (by decide)) (Or.inl (by decide)) rfl rfl ?_
  refine E_aload_n 0 dX12_feed_5 rfl rfl ?_
  refine E_getI dX12_feed_6 fl_X12_167 rfl (sk_124 hs) (sn hs (by decide)) ?_
  refine E_bipush (20 : Int32) dX12_feed_9 (by decide) ?_
  refine E_iadd dX12_feed_11 ?_
  refine E_sipush (400 : Int32) dX12_feed_12 (by decide) ?_
  refine E_icmp_le 20 dX12_feed_15 (by decide) (fun c => ?_) (fun c => ?_)
  · rw [if_pos c] at h
    refine E_aload_n 0 dX12_feed_20 rfl rfl ?_
    refine E_iload_n 1 dX12_feed_21 rfl rfl ?_
    obtain ⟨d1, σ2, hD3, hC4, h⟩ := h
    have hs5 := hC4.1.2.2.2.1 hs
    refine E_callV (As := [.int x1]) (rest := []) (r1 := none) (b := 124) dX12_feed_22 ok_X12_four in_X12_four se_X12_four ml_X12_173 hD3 rfl rfl (Nat.le_of_ble_eq_true rfl) (sk_124 hs) (sn hs (by decide)) (by decide) rfl (by decide +kernel) hC4 ?_
    refine E_aload_n 0 dX12_feed_25 rfl rfl ?_
    refine E_iload_n 2 dX12_feed_26 rfl rfl ?_
    obtain ⟨d6, σ7, hD8, hC9, h⟩ := h
    have hs10 := hC9.1.2.2.2.1 hs5
    refine E_callV (As := [.int x2]) (rest := []) (r1 := none) (b := 124) dX12_feed_27 ok_X12_four in_X12_four se_X12_four ml_X12_173 hD8 rfl rfl (Nat.le_of_ble_eq_true rfl) (sk_124 hs5) (sn hs5 (by decide)) (by decide) rfl (by decide +kernel) hC9 ?_
    refine E_aload_n 0 dX12_feed_30 rfl rfl ?_
    refine E_iload_n 3 dX12_feed_31 rfl rfl ?_
    obtain ⟨d11, σ12, hD13, hC14, h⟩ := h
    have hs15 := hC14.1.2.2.2.1 hs10
    refine E_callV (As := [.int x3]) (rest := []) (r1 := none) (b := 124) dX12_feed_32 ok_X12_four in_X12_four se_X12_four ml_X12_173 hD13 rfl rfl (Nat.le_of_ble_eq_true rfl) (sk_124 hs10) (sn hs10 (by decide)) (by decide) rfl (by decide +kernel) hC14 ?_
    refine E_aload_n 0 dX12_feed_35 rfl rfl ?_
    refine E_iload 4 dX12_feed_36 rfl ?_
    obtain ⟨d16, σ17, hD18, hC19, h⟩ := h
    have hs20 := hC19.1.2.2.2.1 hs15
    refine E_callV (As := [.int x4]) (rest := []) (r1 := none) (b := 124) dX12_feed_38 ok_X12_four in_X12_four se_X12_four ml_X12_173 hD18 rfl rfl (Nat.le_of_ble_eq_true rfl) (sk_124 hs15) (sn hs15 (by decide)) (by decide) rfl (by decide +kernel) hC19 ?_
    refine E_aload_n 0 dX12_feed_41 rfl rfl ?_
    refine E_iload 5 dX12_feed_42 rfl ?_
    obtain ⟨d21, σ22, hD23, hC24, h⟩ := h
    have hs25 := hC24.1.2.2.2.1 hs20
    refine E_callV (As := [.int x5]) (rest := []) (r1 := none) (b := 124) dX12_feed_44 ok_X12_four in_X12_four se_X12_four ml_X12_173 hD23 rfl rfl (Nat.le_of_ble_eq_true rfl) (sk_124 hs20) (sn hs20 (by decide)) (by decide) rfl (by decide +kernel) hC24 ?_
    refine E_aload_n 0 dX12_feed_47 rfl rfl ?_
    refine E_getI dX12_feed_48 fl_X12_167 rfl (sk_124 hs25) (sn hs25 (by decide)) ?_
    obtain ⟨rfl, rfl⟩ := h
    exact E_iret dX12_feed_51 rfl
  · rw [if_neg c] at h
    refine E_iconst (-1 : Int32) dX12_feed_18 (by decide) ?_
    obtain ⟨rfl, rfl⟩ := h
    exact E_iret dX12_feed_19 rfl
def W_X12_end_0 (X : Sx) (l : Launch) (D : Nat) (x1 : Int32) (σ : AH) (r : Option Value) (σ' : AH) : Prop := (if x1 < 0 then (r = some (.int (-1 : Int32)) ∧ σ' = (sI σ 124 0 (0 : Int32))) else (if x1 ≤ (gI (sI σ 124 0 (0 : Int32)) 124 6) then (r = some (.int x1) ∧ σ' = (sI (sI σ 124 0 (0 : Int32)) 124 6 x1)) else (r = some (.int (-1 : Int32)) ∧ σ' = (sI σ 124 0 (0 : Int32)))))
set_option maxRecDepth 100000 in
theorem w_X12_end_0 {X : Sx} {l : Launch} {D : Nat} {x1 : Int32} {σ : AH} {r : Option Value} {σ' : AH} (hs : Sh σ) (h : W_X12_end_0 X l D x1 σ r σ') : E X l m_X12_end D 0 [(0, .ref 124), (1, .int x1)] [] σ r σ' := by
  unfold W_X12_end_0 at h
  refine E_aload_n 0 dX12_end_0 rfl rfl ?_
  refine E_iconst (0 : Int32) dX12_end_1 (by decide) ?_
  refine E_putI dX12_end_2 fl_X12_145 rfl (Or.inl rfl) (sk_124 hs) (sn hs (by decide)) (Or.inl (by decide)) rfl rfl ?_
  refine E_iload_n 1 dX12_end_5 rfl rfl ?_
  refine E_if_lt 17 dX12_end_6 (by decide) (fun c => ?_) (fun c => ?_)
  · rw [if_pos c] at h
    refine E_iconst (-1 : Int32) dX12_end_17 (by decide) ?_
    obtain ⟨rfl, rfl⟩ := h
    exact E_iret dX12_end_18 rfl
  · rw [if_neg c] at h
    refine E_iload_n 1 dX12_end_9 rfl rfl ?_
    refine E_aload_n 0 dX12_end_10 rfl rfl ?_
    refine E_getI dX12_end_11 fl_X12_167 rfl (sk_124 hs) (sn hs (by decide)) ?_
    refine E_icmp_le 19 dX12_end_14 (by decide) (fun c => ?_) (fun c => ?_)
    · rw [if_pos c] at h
      refine E_aload_n 0 dX12_end_19 rfl rfl ?_
      refine E_iload_n 1 dX12_end_20 rfl rfl ?_
      refine E_putI dX12_end_21 fl_X12_167 rfl (Or.inl rfl) (sk_124 hs) (sn hs (by decide)) (Or.inl (by decide)) rfl rfl ?_
      refine E_iload_n 1 dX12_end_24 rfl rfl ?_
      obtain ⟨rfl, rfl⟩ := h
      exact E_iret dX12_end_25 rfl
    · rw [if_neg c] at h
      refine E_iconst (-1 : Int32) dX12_end_17 (by decide) ?_
      obtain ⟨rfl, rfl⟩ := h
      exact E_iret dX12_end_18 rfl
def W_X12_isSmall_0 (X : Sx) (l : Launch) (D : Nat) (x0 : Int32) (σ : AH) (r : Option Value) (σ' : AH) : Prop := (if x0 < (97 : Int32) then (r = some (.int (0 : Int32)) ∧ σ' = σ) else (if (122 : Int32) < x0 then (r = some (.int (0 : Int32)) ∧ σ' = σ) else (r = some (.int (1 : Int32)) ∧ σ' = σ)))
set_option maxRecDepth 100000 in
theorem w_X12_isSmall_0 {X : Sx} {l : Launch} {D : Nat} {x0 : Int32} {σ : AH} {r : Option Value} {σ' : AH} (hs : Sh σ) (h : W_X12_isSmall_0 X l D x0 σ r σ') : E X l m_X12_isSmall D 0 [(0, .int x0)] [] σ r σ' := by
  unfold W_X12_isSmall_0 at h
  refine E_iload_n 0 dX12_isSmall_0 rfl rfl ?_
  refine E_bipush (97 : Int32) dX12_isSmall_1 (by decide) ?_
  refine E_icmp_lt 16 dX12_isSmall_3 (by decide) (fun c => ?_) (fun c => ?_)
  · rw [if_pos c] at h
    refine E_iconst (0 : Int32) dX12_isSmall_16 (by decide) ?_
    obtain ⟨rfl, rfl⟩ := h
    exact E_zret dX12_isSmall_17 rfl (Or.inl rfl)
  · rw [if_neg c] at h
    refine E_iload_n 0 dX12_isSmall_6 rfl rfl ?_
    refine E_bipush (122 : Int32) dX12_isSmall_7 (by decide) ?_
    refine E_icmp_gt 16 dX12_isSmall_9 (by decide) (fun c => ?_) (fun c => ?_)
    · rw [if_pos c] at h
      refine E_iconst (0 : Int32) dX12_isSmall_16 (by decide) ?_
      obtain ⟨rfl, rfl⟩ := h
      exact E_zret dX12_isSmall_17 rfl (Or.inl rfl)
    · rw [if_neg c] at h
      refine E_iconst (1 : Int32) dX12_isSmall_12 (by decide) ?_
      refine E_goto 17 dX12_isSmall_13 (by decide) ?_
      obtain ⟨rfl, rfl⟩ := h
      exact E_zret dX12_isSmall_17 rfl (Or.inr rfl)
def W_X12_isDigit_0 (X : Sx) (l : Launch) (D : Nat) (x0 : Int32) (σ : AH) (r : Option Value) (σ' : AH) : Prop := (if x0 < (48 : Int32) then (r = some (.int (0 : Int32)) ∧ σ' = σ) else (if (57 : Int32) < x0 then (r = some (.int (0 : Int32)) ∧ σ' = σ) else (r = some (.int (1 : Int32)) ∧ σ' = σ)))
set_option maxRecDepth 100000 in
theorem w_X12_isDigit_0 {X : Sx} {l : Launch} {D : Nat} {x0 : Int32} {σ : AH} {r : Option Value} {σ' : AH} (hs : Sh σ) (h : W_X12_isDigit_0 X l D x0 σ r σ') : E X l m_X12_isDigit D 0 [(0, .int x0)] [] σ r σ' := by
  unfold W_X12_isDigit_0 at h
  refine E_iload_n 0 dX12_isDigit_0 rfl rfl ?_
  refine E_bipush (48 : Int32) dX12_isDigit_1 (by decide) ?_
  refine E_icmp_lt 16 dX12_isDigit_3 (by decide) (fun c => ?_) (fun c => ?_)
  · rw [if_pos c] at h
    refine E_iconst (0 : Int32) dX12_isDigit_16 (by decide) ?_
    obtain ⟨rfl, rfl⟩ := h
    exact E_zret dX12_isDigit_17 rfl (Or.inl rfl)
  · rw [if_neg c] at h
    refine E_iload_n 0 dX12_isDigit_6 rfl rfl ?_
    refine E_bipush (57 : Int32) dX12_isDigit_7 (by decide) ?_
    refine E_icmp_gt 16 dX12_isDigit_9 (by decide) (fun c => ?_) (fun c => ?_)
    · rw [if_pos c] at h
      refine E_iconst (0 : Int32) dX12_isDigit_16 (by decide) ?_
      obtain ⟨rfl, rfl⟩ := h
      exact E_zret dX12_isDigit_17 rfl (Or.inl rfl)
    · rw [if_neg c] at h
      refine E_iconst (1 : Int32) dX12_isDigit_12 (by decide) ?_
      refine E_goto 17 dX12_isDigit_13 (by decide) ?_
      obtain ⟨rfl, rfl⟩ := h
      exact E_zret dX12_isDigit_17 rfl (Or.inr rfl)
def W_X12_begin_0 (X : Sx) (l : Launch) (D : Nat) (σ : AH) (r : Option Value) (σ' : AH) : Prop := ∃ d1 : Nat, ∃ σ2 : AH, d1 + 1 ≤ D ∧ Call X l m_X12_next d1 [.ref 124] (sI (sI (sI σ 124 8 (0 : Int32)) 124 12 (0 : Int32)) 124 11 (-1 : Int32)) none σ2 ∧ (r = none ∧ σ' = σ2)
set_option maxRecDepth 100000 in
theorem w_X12_begin_0 {X : Sx} {l : Launch} {D : Nat} {σ : AH} {r : Option Value} {σ' : AH} (hs : Sh σ) (h : W_X12_begin_0 X l D σ r σ') : E X l m_X12_begin D 0 [(0, .ref 124)] [] σ r σ' := by
  unfold W_X12_begin_0 at h
  refine E_aload_n 0 dX12_begin_0 rfl rfl ?_
  refine E_iconst (0 : Int32) dX12_begin_1 (by decide) ?_
  refine E_putI dX12_begin_2 fl_X12_177 rfl (Or.inl rfl) (sk_124 hs) (sn hs (by decide)) (Or.inl (by decide)) rfl rfl ?_
  refine E_aload_n 0 dX12_begin_5 rfl rfl ?_
  refine E_iconst (0 : Int32) dX12_begin_6 (by decide) ?_
  refine E_putI dX12_begin_7 fl_X12_180 rfl (Or.inl rfl) (sk_124 hs) (sn hs (by decide)) (Or.inl (by decide)) (nar_b (by decide)) (fit_b (by decide)) ?_
  refine E_aload_n 0 dX12_begin_10 rfl rfl ?_
  refine E_iconst (-1 : Int32) dX12_begin_11 (by decide) ?_
  refine E_putI dX12_begin_12 fl_X12_25 rfl (Or.inl rfl) (sk_124 hs) (sn hs (by decide)) (Or.inl (by decide)) rfl rfl ?_
  refine E_aload_n 0 dX12_begin_15 rfl rfl ?_
  obtain ⟨d1, σ2, hD3, hC4, h⟩ := h
  have hs5 := hC4.1.2.2.2.1 hs
  refine E_callV (As := []) (rest := []) (r1 := none) (b := 124) dX12_begin_16 ok_X12_next in_X12_next se_X12_next ml_X12_184 hD3 rfl rfl (Nat.le_of_ble_eq_true rfl) (sk_124 hs) (sn hs (by decide)) (by decide) rfl (by decide +kernel) hC4 ?_
  obtain ⟨rfl, rfl⟩ := h
  exact E_vret dX12_begin_19 rfl
def W_X12_next_0 (X : Sx) (l : Launch) (D : Nat) (σ : AH) (r : Option Value) (σ' : AH) : Prop := E X l m_X12_next D 8 [(0, .ref 124)] [] (sI σ 124 7 (gI σ 124 8)) r σ'
set_option maxRecDepth 100000 in
theorem w_X12_next_0 {X : Sx} {l : Launch} {D : Nat} {σ : AH} {r : Option Value} {σ' : AH} (hs : Sh σ) (h : W_X12_next_0 X l D σ r σ') : E X l m_X12_next D 0 [(0, .ref 124)] [] σ r σ' := by
  unfold W_X12_next_0 at h
  refine E_aload_n 0 dX12_next_0 rfl rfl ?_
  refine E_aload_n 0 dX12_next_1 rfl rfl ?_
  refine E_getI dX12_next_2 fl_X12_177 rfl (sk_124 hs) (sn hs (by decide)) ?_
  refine E_putI dX12_next_5 fl_X12_187 rfl (Or.inl rfl) (sk_124 hs) (sn hs (by decide)) (Or.inl (by decide)) rfl rfl ?_
  exact E_lv [0] rfl h
def W_X12_next_114 (X : Sx) (l : Launch) (D : Nat) (y0 : Int32) (σ : AH) (r : Option Value) (σ' : AH) : Prop := (if (gI (sI σ 124 9 y0) 124 9) = (3 : Int32) then vp_in (gI (sI σ 124 9 y0) 124 7) 400 ∧ (∀ τ17 : AH, τ17 = (sI (sL (sI σ 124 9 y0) 124 10 (((gI (sI σ 124 9 y0) 128 (gI (sI σ 124 9 y0) 124 7).toNatClampNeg)).toInt64)) 124 8 ((gI (sL (sI σ 124 9 y0) 124 10 (((gI (sI σ 124 9 y0) 128 (gI (sI σ 124 9 y0) 124 7).toNatClampNeg)).toInt64)) 124 8) + (1 : Int32))) → E X l m_X12_next D 149 [(0, .ref 124)] [] τ17 r σ') else E X l m_X12_next D 149 [(0, .ref 124)] [] (sI σ 124 9 y0) r σ')
set_option maxRecDepth 100000 in
theorem w_X12_next_114 {X : Sx} {l : Launch} {D : Nat} {y0 : Int32} {σ : AH} {r : Option Value} {σ' : AH} (hs : Sh σ) (h : W_X12_next_114 X l D y0 σ r σ') : E X l m_X12_next D 114 [(0, .ref 124)] [.int y0, .ref 124] σ r σ' := by
  unfold W_X12_next_114 at h
  refine E_putI dX12_next_114 fl_X12_201 rfl (Or.inl rfl) (sk_124 hs) (sn hs (by decide)) (Or.inl (by decide)) rfl rfl ?_
  refine E_aload_n 0 dX12_next_117 rfl rfl ?_
  refine E_getI dX12_next_118 fl_X12_201 rfl (sk_124 hs) (sn hs (by decide)) ?_
  refine E_iconst (3 : Int32) dX12_next_121 (by decide) ?_
  refine E_icmp_ne 149 dX12_next_122 (by decide) (fun c => ?_) (fun c => ?_)
  · rw [if_neg c] at h
    exact E_lv [0] rfl h
  · rw [if_pos c] at h
    refine E_aload_n 0 dX12_next_125 rfl rfl ?_
    refine E_aload_n 0 dX12_next_126 rfl rfl ?_
    refine E_getR 128 dX12_next_127 fl_X12_22 rfl (sk_124 hs) (sn hs (by decide)) (sr_124_5 hs) ?_
    refine E_aload_n 0 dX12_next_130 rfl rfl ?_
    refine E_getI dX12_next_131 fl_X12_187 rfl (sk_124 hs) (sn hs (by decide)) ?_
    obtain ⟨g16, h⟩ := h
    refine E_iald2 ((gI (sI σ 124 9 y0) 124 7).toNatClampNeg) dX12_next_134 (sk_128 hs) (sn hs (by decide)) g16 rfl ?_
    refine E_i2l dX12_next_135 ?_
    refine E_putL dX12_next_136 fl_X12_190 rfl (Or.inl rfl) (sk_124 hs) (sn hs (by decide)) (Or.inl (by decide)) rfl rfl ?_
    refine E_aload_n 0 dX12_next_139 rfl rfl ?_
    refine E_dup dX12_next_140 rfl ?_
    refine E_getI dX12_next_141 fl_X12_177 rfl (sk_124 hs) (sn hs (by decide)) ?_
    refine E_iconst (1 : Int32) dX12_next_144 (by decide) ?_
    refine E_iadd dX12_next_145 ?_
    refine E_putI dX12_next_146 fl_X12_177 rfl (Or.inl rfl) (sk_124 hs) (sn hs (by decide)) (Or.inl (by decide)) rfl rfl ?_
    obtain ⟨τ17, e18⟩ : ∃ τ : AH, τ = (sI (sL (sI σ 124 9 y0) 124 10 (((gI (sI σ 124 9 y0) 128 (gI (sI σ 124 9 y0) 124 7).toNatClampNeg)).toInt64)) 124 8 ((gI (sL (sI σ 124 9 y0) 124 10 (((gI (sI σ 124 9 y0) 128 (gI (sI σ 124 9 y0) 124 7).toNatClampNeg)).toInt64)) 124 8) + (1 : Int32))) := ⟨_, rfl⟩
    replace h := h τ17 e18
    rw [← e18]
    have hs19 : Sh τ17 := by rw [e18]; exact hs
    exact E_lv [0] rfl h
def W_X12_next_46 (X : Sx) (l : Launch) (D : Nat) (σ : AH) (r : Option Value) (σ' : AH) : Prop := (if (gI (sL (sI σ 124 8 (gI σ 124 7)) 124 10 (0 : Int64)) 124 7) = (gI (sL (sI σ 124 8 (gI σ 124 7)) 124 10 (0 : Int64)) 124 6) then W_X12_next_114 X l D (0 : Int32) (sL (sI σ 124 8 (gI σ 124 7)) 124 10 (0 : Int64)) r σ' else vp_in (gI (sL (sI σ 124 8 (gI σ 124 7)) 124 10 (0 : Int64)) 124 7) 400 ∧ ∃ d3 : Nat, ∃ v8 : Int32, ∃ σ4 : AH, d3 + 1 ≤ D ∧ Call X l m_X12_isSmall d3 [.int (gI (sL (sI σ 124 8 (gI σ 124 7)) 124 10 (0 : Int64)) 128 (gI (sL (sI σ 124 8 (gI σ 124 7)) 124 10 (0 : Int64)) 124 7).toNatClampNeg)] (sL (sI σ 124 8 (gI σ 124 7)) 124 10 (0 : Int64)) (some (.int v8)) σ4 ∧ (if v8 = 0 then vp_in (gI σ4 124 7) 400 ∧ ∃ d10 : Nat, ∃ v15 : Int32, ∃ σ11 : AH, d10 + 1 ≤ D ∧ Call X l m_X12_isDigit d10 [.int (gI σ4 128 (gI σ4 124 7).toNatClampNeg)] σ4 (some (.int v15)) σ11 ∧ (if v15 = 0 then W_X12_next_114 X l D (3 : Int32) σ11 r σ' else W_X12_next_114 X l D (2 : Int32) σ11 r σ') else W_X12_next_114 X l D (1 : Int32) σ4 r σ'))
set_option maxRecDepth 100000 in
theorem w_X12_next_46 {X : Sx} {l : Launch} {D : Nat} {σ : AH} {r : Option Value} {σ' : AH} (hs : Sh σ) (h : W_X12_next_46 X l D σ r σ') : E X l m_X12_next D 46 [(0, .ref 124)] [] σ r σ' := by
  unfold W_X12_next_46 at h
  refine E_aload_n 0 dX12_next_46 rfl rfl ?_
  refine E_aload_n 0 dX12_next_47 rfl rfl ?_
  refine E_getI dX12_next_48 fl_X12_187 rfl (sk_124 hs) (sn hs (by decide)) ?_
  refine E_putI dX12_next_51 fl_X12_177 rfl (Or.inl rfl) (sk_124 hs) (sn hs (by decide)) (Or.inl (by decide)) rfl rfl ?_
  refine E_aload_n 0 dX12_next_54 rfl rfl ?_
  refine E_lconst (0 : Int64) dX12_next_55 (by decide) ?_
  refine E_putL dX12_next_56 fl_X12_190 rfl (Or.inl rfl) (sk_124 hs) (sn hs (by decide)) (Or.inl (by decide)) rfl rfl ?_
  refine E_aload_n 0 dX12_next_59 rfl rfl ?_
  refine E_aload_n 0 dX12_next_60 rfl rfl ?_
  refine E_getI dX12_next_61 fl_X12_187 rfl (sk_124 hs) (sn hs (by decide)) ?_
  refine E_aload_n 0 dX12_next_64 rfl rfl ?_
  refine E_getI dX12_next_65 fl_X12_167 rfl (sk_124 hs) (sn hs (by decide)) ?_
  refine E_icmp_ne 75 dX12_next_68 (by decide) (fun c => ?_) (fun c => ?_)
  · rw [if_neg c] at h
    refine E_aload_n 0 dX12_next_75 rfl rfl ?_
    refine E_getR 128 dX12_next_76 fl_X12_22 rfl (sk_124 hs) (sn hs (by decide)) (sr_124_5 hs) ?_
    refine E_aload_n 0 dX12_next_79 rfl rfl ?_
    refine E_getI dX12_next_80 fl_X12_187 rfl (sk_124 hs) (sn hs (by decide)) ?_
    obtain ⟨g2, h⟩ := h
    refine E_iald2 ((gI (sL (sI σ 124 8 (gI σ 124 7)) 124 10 (0 : Int64)) 124 7).toNatClampNeg) dX12_next_83 (sk_128 hs) (sn hs (by decide)) g2 rfl ?_
    obtain ⟨d3, v8, σ4, hD5, hC6, h⟩ := h
    have hs7 := hC6.1.2.2.2.1 hs
    refine E_callS (As := [.int (gI (sL (sI σ 124 8 (gI σ 124 7)) 124 10 (0 : Int64)) 128 (gI (sL (sI σ 124 8 (gI σ 124 7)) 124 10 (0 : Int64)) 124 7).toNatClampNeg)]) (rest := [.ref 124]) (r1 := (some (.int v8))) dX12_next_84 ok_X12_isSmall is_X12_isSmall ml_X12_194 hD5 rfl rfl (Nat.le_of_ble_eq_true rfl) (by decide +kernel) hC6 ?_
    refine E_if_eq 94 dX12_next_87 (by decide) (fun c => ?_) (fun c => ?_)
    · rw [if_pos c] at h
      refine E_aload_n 0 dX12_next_94 rfl rfl ?_
      refine E_getR 128 dX12_next_95 fl_X12_22 rfl (sk_124 hs7) (sn hs7 (by decide)) (sr_124_5 hs7) ?_
      refine E_aload_n 0 dX12_next_98 rfl rfl ?_
      refine E_getI dX12_next_99 fl_X12_187 rfl (sk_124 hs7) (sn hs7 (by decide)) ?_
      obtain ⟨g9, h⟩ := h
      refine E_iald2 ((gI σ4 124 7).toNatClampNeg) dX12_next_102 (sk_128 hs7) (sn hs7 (by decide)) g9 rfl ?_
      obtain ⟨d10, v15, σ11, hD12, hC13, h⟩ := h
      have hs14 := hC13.1.2.2.2.1 hs7
      refine E_callS (As := [.int (gI σ4 128 (gI σ4 124 7).toNatClampNeg)]) (rest := [.ref 124]) (r1 := (some (.int v15))) dX12_next_103 ok_X12_isDigit is_X12_isDigit ml_X12_198 hD12 rfl rfl (Nat.le_of_ble_eq_true rfl) (by decide +kernel) hC13 ?_
      refine E_if_eq 113 dX12_next_106 (by decide) (fun c => ?_) (fun c => ?_)
      · rw [if_pos c] at h
        refine E_iconst (3 : Int32) dX12_next_113 (by decide) ?_
        exact E_lv [0] rfl (w_X12_next_114 hs14 h)
      · rw [if_neg c] at h
        refine E_iconst (2 : Int32) dX12_next_109 (by decide) ?_
        refine E_goto 114 dX12_next_110 (by decide) ?_
        exact E_lv [0] rfl (w_X12_next_114 hs14 h)
    · rw [if_neg c] at h
      refine E_iconst (1 : Int32) dX12_next_90 (by decide) ?_
      refine E_goto 114 dX12_next_91 (by decide) ?_
      exact E_lv [0] rfl (w_X12_next_114 hs7 h)
  · rw [if_pos c] at h
    refine E_iconst (0 : Int32) dX12_next_71 (by decide) ?_
    refine E_goto 114 dX12_next_72 (by decide) ?_
    exact E_lv [0] rfl (w_X12_next_114 hs h)
def W_X12_next_8 (X : Sx) (l : Launch) (D : Nat) (σ : AH) (r : Option Value) (σ' : AH) : Prop := (if (gI σ 124 6) ≤ (gI σ 124 7) then W_X12_next_46 X l D σ r σ' else vp_in (gI σ 124 7) 400 ∧ (if (gI σ 128 (gI σ 124 7).toNatClampNeg) = (32 : Int32) then E X l m_X12_next D 8 [(0, .ref 124)] [] (sI σ 124 7 ((gI σ 124 7) + (1 : Int32))) r σ' else W_X12_next_46 X l D σ r σ'))
set_option maxRecDepth 100000 in
theorem w_X12_next_8 {X : Sx} {l : Launch} {D : Nat} {σ : AH} {r : Option Value} {σ' : AH} (hs : Sh σ) (h : W_X12_next_8 X l D σ r σ') : E X l m_X12_next D 8 [(0, .ref 124)] [] σ r σ' := by
  unfold W_X12_next_8 at h
  refine E_aload_n 0 dX12_next_8 rfl rfl ?_
  refine E_getI dX12_next_9 fl_X12_187 rfl (sk_124 hs) (sn hs (by decide)) ?_
  refine E_aload_n 0 dX12_next_12 rfl rfl ?_
  refine E_getI dX12_next_13 fl_X12_167 rfl (sk_124 hs) (sn hs (by decide)) ?_
  refine E_icmp_ge 46 dX12_next_16 (by decide) (fun c => ?_) (fun c => ?_)
  · rw [if_pos c] at h
    exact E_lv [0] rfl (w_X12_next_46 hs h)
  · rw [if_neg c] at h
    refine E_aload_n 0 dX12_next_19 rfl rfl ?_
    refine E_getR 128 dX12_next_20 fl_X12_22 rfl (sk_124 hs) (sn hs (by decide)) (sr_124_5 hs) ?_
    refine E_aload_n 0 dX12_next_23 rfl rfl ?_
    refine E_getI dX12_next_24 fl_X12_187 rfl (sk_124 hs) (sn hs (by decide)) ?_
    obtain ⟨g1, h⟩ := h
    refine E_iald2 ((gI σ 124 7).toNatClampNeg) dX12_next_27 (sk_128 hs) (sn hs (by decide)) g1 rfl ?_
    refine E_bipush (32 : Int32) dX12_next_28 (by decide) ?_
    refine E_icmp_ne 46 dX12_next_30 (by decide) (fun c => ?_) (fun c => ?_)
    · rw [if_neg c] at h
      exact E_lv [0] rfl (w_X12_next_46 hs h)
    · rw [if_pos c] at h
      refine E_aload_n 0 dX12_next_33 rfl rfl ?_
      refine E_dup dX12_next_34 rfl ?_
      refine E_getI dX12_next_35 fl_X12_187 rfl (sk_124 hs) (sn hs (by decide)) ?_
      refine E_iconst (1 : Int32) dX12_next_38 (by decide) ?_
      refine E_iadd dX12_next_39 ?_
      refine E_putI dX12_next_40 fl_X12_187 rfl (Or.inl rfl) (sk_124 hs) (sn hs (by decide)) (Or.inl (by decide)) rfl rfl ?_
      refine E_goto 8 dX12_next_43 (by decide) ?_
      exact E_lv [0] rfl h
def W_X12_next_227 (X : Sx) (l : Launch) (D : Nat) (y0 : Int64) (σ : AH) (r : Option Value) (σ' : AH) : Prop := E X l m_X12_next D 149 [(0, .ref 124)] [] (sI (sL σ 124 10 y0) 124 8 ((gI (sL σ 124 10 y0) 124 8) + (1 : Int32))) r σ'
set_option maxRecDepth 100000 in
theorem w_X12_next_227 {X : Sx} {l : Launch} {D : Nat} {y0 : Int64} {σ : AH} {r : Option Value} {σ' : AH} (hs : Sh σ) (h : W_X12_next_227 X l D y0 σ r σ') : E X l m_X12_next D 227 [(0, .ref 124)] [.long y0, .ref 124] σ r σ' := by
  unfold W_X12_next_227 at h
  refine E_putL dX12_next_227 fl_X12_190 rfl (Or.inl rfl) (sk_124 hs) (sn hs (by decide)) (Or.inl (by decide)) rfl rfl ?_
  refine E_aload_n 0 dX12_next_230 rfl rfl ?_
  refine E_dup dX12_next_231 rfl ?_
  refine E_getI dX12_next_232 fl_X12_177 rfl (sk_124 hs) (sn hs (by decide)) ?_
  refine E_iconst (1 : Int32) dX12_next_235 (by decide) ?_
  refine E_iadd dX12_next_236 ?_
  refine E_putI dX12_next_237 fl_X12_177 rfl (Or.inl rfl) (sk_124 hs) (sn hs (by decide)) (Or.inl (by decide)) rfl rfl ?_
  refine E_goto 149 dX12_next_240 (by decide) ?_
  exact E_lv [0] rfl h
def W_X12_next_149 (X : Sx) (l : Launch) (D : Nat) (σ : AH) (r : Option Value) (σ' : AH) : Prop := (if (gI σ 124 9) = (1 : Int32) then (if (gI σ 124 6) ≤ (gI σ 124 8) then E X l m_X12_next D 243 [(0, .ref 124)] [] σ r σ' else vp_in (gI σ 124 8) 400 ∧ ∃ d21 : Nat, ∃ v26 : Int32, ∃ σ22 : AH, d21 + 1 ≤ D ∧ Call X l m_X12_isSmall d21 [.int (gI σ 128 (gI σ 124 8).toNatClampNeg)] σ (some (.int v26)) σ22 ∧ (if v26 = 0 then E X l m_X12_next D 243 [(0, .ref 124)] [] σ22 r σ' else (if (10 : Int32) ≤ ((gI σ22 124 8) - (gI σ22 124 7)) then W_X12_next_227 X l D (-1 : Int64) σ22 r σ' else vp_in (gI σ22 124 8) 400 ∧ W_X12_next_227 X l D ((((gL σ22 124 10) * (32 : Int64)) + ((gI σ22 128 (gI σ22 124 8).toNatClampNeg)).toInt64) - (96 : Int64)) σ22 r σ'))) else E X l m_X12_next D 243 [(0, .ref 124)] [] σ r σ')
set_option maxRecDepth 100000 in
theorem w_X12_next_149 {X : Sx} {l : Launch} {D : Nat} {σ : AH} {r : Option Value} {σ' : AH} (hs : Sh σ) (h : W_X12_next_149 X l D σ r σ') : E X l m_X12_next D 149 [(0, .ref 124)] [] σ r σ' := by
  unfold W_X12_next_149 at h
  refine E_aload_n 0 dX12_next_149 rfl rfl ?_
  refine E_getI dX12_next_150 fl_X12_201 rfl (sk_124 hs) (sn hs (by decide)) ?_
  refine E_iconst (1 : Int32) dX12_next_153 (by decide) ?_
  refine E_icmp_ne 243 dX12_next_154 (by decide) (fun c => ?_) (fun c => ?_)
  · rw [if_neg c] at h
    exact E_lv [0] rfl h
  · rw [if_pos c] at h
    refine E_aload_n 0 dX12_next_157 rfl rfl ?_
    refine E_getI dX12_next_158 fl_X12_177 rfl (sk_124 hs) (sn hs (by decide)) ?_
    refine E_aload_n 0 dX12_next_161 rfl rfl ?_
    refine E_getI dX12_next_162 fl_X12_167 rfl (sk_124 hs) (sn hs (by decide)) ?_
    refine E_icmp_ge 243 dX12_next_165 (by decide) (fun c => ?_) (fun c => ?_)
    · rw [if_pos c] at h
      exact E_lv [0] rfl h
    · rw [if_neg c] at h
      refine E_aload_n 0 dX12_next_168 rfl rfl ?_
      refine E_getR 128 dX12_next_169 fl_X12_22 rfl (sk_124 hs) (sn hs (by decide)) (sr_124_5 hs) ?_
      refine E_aload_n 0 dX12_next_172 rfl rfl ?_
      refine E_getI dX12_next_173 fl_X12_177 rfl (sk_124 hs) (sn hs (by decide)) ?_
      obtain ⟨g20, h⟩ := h
      refine E_iald2 ((gI σ 124 8).toNatClampNeg) dX12_next_176 (sk_128 hs) (sn hs (by decide)) g20 rfl ?_
      obtain ⟨d21, v26, σ22, hD23, hC24, h⟩ := h
      have hs25 := hC24.1.2.2.2.1 hs
      refine E_callS (As := [.int (gI σ 128 (gI σ 124 8).toNatClampNeg)]) (rest := []) (r1 := (some (.int v26))) dX12_next_177 ok_X12_isSmall is_X12_isSmall ml_X12_194 hD23 rfl rfl (Nat.le_of_ble_eq_true rfl) (by decide +kernel) hC24 ?_
      refine E_if_eq 243 dX12_next_180 (by decide) (fun c => ?_) (fun c => ?_)
      · rw [if_pos c] at h
        exact E_lv [0] rfl h
      · rw [if_neg c] at h
        refine E_aload_n 0 dX12_next_183 rfl rfl ?_
        refine E_aload_n 0 dX12_next_184 rfl rfl ?_
        refine E_getI dX12_next_185 fl_X12_177 rfl (sk_124 hs25) (sn hs25 (by decide)) ?_
        refine E_aload_n 0 dX12_next_188 rfl rfl ?_
        refine E_getI dX12_next_189 fl_X12_187 rfl (sk_124 hs25) (sn hs25 (by decide)) ?_
        refine E_isub dX12_next_192 ?_
        refine E_bipush (10 : Int32) dX12_next_193 (by decide) ?_
        refine E_icmp_ge 224 dX12_next_195 (by decide) (fun c => ?_) (fun c => ?_)
        · rw [if_pos c] at h
          refine E_ldc2 (-1 : Int64) dX12_next_224 cl_X12_208 ?_
          exact E_lv [0] rfl (w_X12_next_227 hs25 h)
        · rw [if_neg c] at h
          refine E_aload_n 0 dX12_next_198 rfl rfl ?_
          refine E_getL dX12_next_199 fl_X12_190 rfl (sk_124 hs25) (sn hs25 (by decide)) ?_
          refine E_ldc2 (32 : Int64) dX12_next_202 cl_X12_204 ?_
          refine E_lmul dX12_next_205 ?_
          refine E_aload_n 0 dX12_next_206 rfl rfl ?_
          refine E_getR 128 dX12_next_207 fl_X12_22 rfl (sk_124 hs25) (sn hs25 (by decide)) (sr_124_5 hs25) ?_
          refine E_aload_n 0 dX12_next_210 rfl rfl ?_
          refine E_getI dX12_next_211 fl_X12_177 rfl (sk_124 hs25) (sn hs25 (by decide)) ?_
          obtain ⟨g27, h⟩ := h
          refine E_iald2 ((gI σ22 124 8).toNatClampNeg) dX12_next_214 (sk_128 hs25) (sn hs25 (by decide)) g27 rfl ?_
          refine E_i2l dX12_next_215 ?_
          refine E_ladd dX12_next_216 ?_
          refine E_ldc2 (96 : Int64) dX12_next_217 cl_X12_206 ?_
          refine E_lsub dX12_next_220 ?_
          refine E_goto 227 dX12_next_221 (by decide) ?_
          exact E_lv [0] rfl (w_X12_next_227 hs25 h)
def W_X12_next_319 (X : Sx) (l : Launch) (D : Nat) (y0 : Int64) (σ : AH) (r : Option Value) (σ' : AH) : Prop := E X l m_X12_next D 243 [(0, .ref 124)] [] (sI (sL σ 124 10 y0) 124 8 ((gI (sL σ 124 10 y0) 124 8) + (1 : Int32))) r σ'
set_option maxRecDepth 100000 in
theorem w_X12_next_319 {X : Sx} {l : Launch} {D : Nat} {y0 : Int64} {σ : AH} {r : Option Value} {σ' : AH} (hs : Sh σ) (h : W_X12_next_319 X l D y0 σ r σ') : E X l m_X12_next D 319 [(0, .ref 124)] [.long y0, .ref 124] σ r σ' := by
  unfold W_X12_next_319 at h
  refine E_putL dX12_next_319 fl_X12_190 rfl (Or.inl rfl) (sk_124 hs) (sn hs (by decide)) (Or.inl (by decide)) rfl rfl ?_
  refine E_aload_n 0 dX12_next_322 rfl rfl ?_
  refine E_dup dX12_next_323 rfl ?_
  refine E_getI dX12_next_324 fl_X12_177 rfl (sk_124 hs) (sn hs (by decide)) ?_
  refine E_iconst (1 : Int32) dX12_next_327 (by decide) ?_
  refine E_iadd dX12_next_328 ?_
  refine E_putI dX12_next_329 fl_X12_177 rfl (Or.inl rfl) (sk_124 hs) (sn hs (by decide)) (Or.inl (by decide)) rfl rfl ?_
  refine E_goto 243 dX12_next_332 (by decide) ?_
  exact E_lv [0] rfl h
def W_X12_next_243 (X : Sx) (l : Launch) (D : Nat) (σ : AH) (r : Option Value) (σ' : AH) : Prop := (if (gI σ 124 9) = (2 : Int32) then (if (gI σ 124 6) ≤ (gI σ 124 8) then (r = none ∧ σ' = σ) else vp_in (gI σ 124 8) 400 ∧ ∃ d29 : Nat, ∃ v34 : Int32, ∃ σ30 : AH, d29 + 1 ≤ D ∧ Call X l m_X12_isDigit d29 [.int (gI σ 128 (gI σ 124 8).toNatClampNeg)] σ (some (.int v34)) σ30 ∧ (if v34 = 0 then (r = none ∧ σ' = σ30) else (if (gL σ30 124 10) ≤ (100000 : Int64) then vp_in (gI σ30 124 8) 400 ∧ W_X12_next_319 X l D ((((gL σ30 124 10) * (10 : Int64)) + ((gI σ30 128 (gI σ30 124 8).toNatClampNeg)).toInt64) - (48 : Int64)) σ30 r σ' else W_X12_next_319 X l D (gL σ30 124 10) σ30 r σ'))) else (r = none ∧ σ' = σ))
set_option maxRecDepth 100000 in
theorem w_X12_next_243 {X : Sx} {l : Launch} {D : Nat} {σ : AH} {r : Option Value} {σ' : AH} (hs : Sh σ) (h : W_X12_next_243 X l D σ r σ') : E X l m_X12_next D 243 [(0, .ref 124)] [] σ r σ' := by
  unfold W_X12_next_243 at h
  refine E_aload_n 0 dX12_next_243 rfl rfl ?_
  refine E_getI dX12_next_244 fl_X12_201 rfl (sk_124 hs) (sn hs (by decide)) ?_
  refine E_iconst (2 : Int32) dX12_next_247 (by decide) ?_
  refine E_icmp_ne 335 dX12_next_248 (by decide) (fun c => ?_) (fun c => ?_)
  · rw [if_neg c] at h
    obtain ⟨rfl, rfl⟩ := h
    exact E_vret dX12_next_335 rfl
  · rw [if_pos c] at h
    refine E_aload_n 0 dX12_next_251 rfl rfl ?_
    refine E_getI dX12_next_252 fl_X12_177 rfl (sk_124 hs) (sn hs (by decide)) ?_
    refine E_aload_n 0 dX12_next_255 rfl rfl ?_
    refine E_getI dX12_next_256 fl_X12_167 rfl (sk_124 hs) (sn hs (by decide)) ?_
    refine E_icmp_ge 335 dX12_next_259 (by decide) (fun c => ?_) (fun c => ?_)
    · rw [if_pos c] at h
      obtain ⟨rfl, rfl⟩ := h
      exact E_vret dX12_next_335 rfl
    · rw [if_neg c] at h
      refine E_aload_n 0 dX12_next_262 rfl rfl ?_
      refine E_getR 128 dX12_next_263 fl_X12_22 rfl (sk_124 hs) (sn hs (by decide)) (sr_124_5 hs) ?_
      refine E_aload_n 0 dX12_next_266 rfl rfl ?_
      refine E_getI dX12_next_267 fl_X12_177 rfl (sk_124 hs) (sn hs (by decide)) ?_
      obtain ⟨g28, h⟩ := h
      refine E_iald2 ((gI σ 124 8).toNatClampNeg) dX12_next_270 (sk_128 hs) (sn hs (by decide)) g28 rfl ?_
      obtain ⟨d29, v34, σ30, hD31, hC32, h⟩ := h
      have hs33 := hC32.1.2.2.2.1 hs
      refine E_callS (As := [.int (gI σ 128 (gI σ 124 8).toNatClampNeg)]) (rest := []) (r1 := (some (.int v34))) dX12_next_271 ok_X12_isDigit is_X12_isDigit ml_X12_198 hD31 rfl rfl (Nat.le_of_ble_eq_true rfl) (by decide +kernel) hC32 ?_
      refine E_if_eq 335 dX12_next_274 (by decide) (fun c => ?_) (fun c => ?_)
      · rw [if_pos c] at h
        obtain ⟨rfl, rfl⟩ := h
        exact E_vret dX12_next_335 rfl
      · rw [if_neg c] at h
        refine E_aload_n 0 dX12_next_277 rfl rfl ?_
        refine E_aload_n 0 dX12_next_278 rfl rfl ?_
        refine E_getL dX12_next_279 fl_X12_190 rfl (sk_124 hs33) (sn hs33 (by decide)) ?_
        refine E_ldc2 (100000 : Int64) dX12_next_282 cl_X12_210 ?_
        refine E_lcmp dX12_next_285 ?_
        refine E_if_le 296 dX12_next_286 (by decide) (fun c => ?_) (fun c => ?_)
        · rw [if_pos ((lc_le _ _).mp c)] at h
          refine E_aload_n 0 dX12_next_296 rfl rfl ?_
          refine E_getL dX12_next_297 fl_X12_190 rfl (sk_124 hs33) (sn hs33 (by decide)) ?_
          refine E_ldc2 (10 : Int64) dX12_next_300 cl_X12_212 ?_
          refine E_lmul dX12_next_303 ?_
          refine E_aload_n 0 dX12_next_304 rfl rfl ?_
          refine E_getR 128 dX12_next_305 fl_X12_22 rfl (sk_124 hs33) (sn hs33 (by decide)) (sr_124_5 hs33) ?_
          refine E_aload_n 0 dX12_next_308 rfl rfl ?_
          refine E_getI dX12_next_309 fl_X12_177 rfl (sk_124 hs33) (sn hs33 (by decide)) ?_
          obtain ⟨g35, h⟩ := h
          refine E_iald2 ((gI σ30 124 8).toNatClampNeg) dX12_next_312 (sk_128 hs33) (sn hs33 (by decide)) g35 rfl ?_
          refine E_i2l dX12_next_313 ?_
          refine E_ladd dX12_next_314 ?_
          refine E_ldc2 (48 : Int64) dX12_next_315 cl_X12_214 ?_
          refine E_lsub dX12_next_318 ?_
          exact E_lv [0] rfl (w_X12_next_319 hs33 h)
        · rw [if_neg (fun q => c ((lc_le _ _).mpr q))] at h
          refine E_aload_n 0 dX12_next_289 rfl rfl ?_
          refine E_getL dX12_next_290 fl_X12_190 rfl (sk_124 hs33) (sn hs33 (by decide)) ?_
          refine E_goto 319 dX12_next_293 (by decide) ?_
          exact E_lv [0] rfl (w_X12_next_319 hs33 h)
def W_X12_isWord_0 (X : Sx) (l : Launch) (D : Nat) (x1 : Int64) (σ : AH) (r : Option Value) (σ' : AH) : Prop := (if (gI σ 124 9) = (1 : Int32) then (if (gL σ 124 10) = x1 then (r = some (.int (1 : Int32)) ∧ σ' = σ) else (r = some (.int (0 : Int32)) ∧ σ' = σ)) else (r = some (.int (0 : Int32)) ∧ σ' = σ))
set_option maxRecDepth 100000 in
theorem w_X12_isWord_0 {X : Sx} {l : Launch} {D : Nat} {x1 : Int64} {σ : AH} {r : Option Value} {σ' : AH} (hs : Sh σ) (h : W_X12_isWord_0 X l D x1 σ r σ') : E X l m_X12_isWord D 0 [(0, .ref 124), (1, .long x1)] [] σ r σ' := by
  unfold W_X12_isWord_0 at h
  refine E_aload_n 0 dX12_isWord_0 rfl rfl ?_
  refine E_getI dX12_isWord_1 fl_X12_201 rfl (sk_124 hs) (sn hs (by decide)) ?_
  refine E_iconst (1 : Int32) dX12_isWord_4 (by decide) ?_
  refine E_icmp_ne 21 dX12_isWord_5 (by decide) (fun c => ?_) (fun c => ?_)
  · rw [if_neg c] at h
    refine E_iconst (0 : Int32) dX12_isWord_21 (by decide) ?_
    obtain ⟨rfl, rfl⟩ := h
    exact E_zret dX12_isWord_22 rfl (Or.inl rfl)
  · rw [if_pos c] at h
    refine E_aload_n 0 dX12_isWord_8 rfl rfl ?_
    refine E_getL dX12_isWord_9 fl_X12_190 rfl (sk_124 hs) (sn hs (by decide)) ?_
    refine E_lload_n 1 dX12_isWord_12 rfl rfl ?_
    refine E_lcmp dX12_isWord_13 ?_
    refine E_if_ne 21 dX12_isWord_14 (by decide) (fun c => ?_) (fun c => ?_)
    · rw [if_neg (fun q => c ((lc_eq _ _).mpr q))] at h
      refine E_iconst (0 : Int32) dX12_isWord_21 (by decide) ?_
      obtain ⟨rfl, rfl⟩ := h
      exact E_zret dX12_isWord_22 rfl (Or.inl rfl)
    · rw [if_pos ((lc_eq _ _).mp c)] at h
      refine E_iconst (1 : Int32) dX12_isWord_17 (by decide) ?_
      refine E_goto 22 dX12_isWord_18 (by decide) ?_
      obtain ⟨rfl, rfl⟩ := h
      exact E_zret dX12_isWord_22 rfl (Or.inr rfl)
def W_X12_isSign_0 (X : Sx) (l : Launch) (D : Nat) (x1 : Int32) (σ : AH) (r : Option Value) (σ' : AH) : Prop := (if (gI σ 124 9) = (3 : Int32) then (if (gL σ 124 10) = (x1).toInt64 then (r = some (.int (1 : Int32)) ∧ σ' = σ) else (r = some (.int (0 : Int32)) ∧ σ' = σ)) else (r = some (.int (0 : Int32)) ∧ σ' = σ))
set_option maxRecDepth 100000 in
theorem w_X12_isSign_0 {X : Sx} {l : Launch} {D : Nat} {x1 : Int32} {σ : AH} {r : Option Value} {σ' : AH} (hs : Sh σ) (h : W_X12_isSign_0 X l D x1 σ r σ') : E X l m_X12_isSign D 0 [(0, .ref 124), (1, .int x1)] [] σ r σ' := by
  unfold W_X12_isSign_0 at h
  refine E_aload_n 0 dX12_isSign_0 rfl rfl ?_
  refine E_getI dX12_isSign_1 fl_X12_201 rfl (sk_124 hs) (sn hs (by decide)) ?_
  refine E_iconst (3 : Int32) dX12_isSign_4 (by decide) ?_
  refine E_icmp_ne 22 dX12_isSign_5 (by decide) (fun c => ?_) (fun c => ?_)
  · rw [if_neg c] at h
    refine E_iconst (0 : Int32) dX12_isSign_22 (by decide) ?_
    obtain ⟨rfl, rfl⟩ := h
    exact E_zret dX12_isSign_23 rfl (Or.inl rfl)
  · rw [if_pos c] at h
    refine E_aload_n 0 dX12_isSign_8 rfl rfl ?_
    refine E_getL dX12_isSign_9 fl_X12_190 rfl (sk_124 hs) (sn hs (by decide)) ?_
    refine E_iload_n 1 dX12_isSign_12 rfl rfl ?_
    refine E_i2l dX12_isSign_13 ?_
    refine E_lcmp dX12_isSign_14 ?_
    refine E_if_ne 22 dX12_isSign_15 (by decide) (fun c => ?_) (fun c => ?_)
    · rw [if_neg (fun q => c ((lc_eq _ _).mpr q))] at h
      refine E_iconst (0 : Int32) dX12_isSign_22 (by decide) ?_
      obtain ⟨rfl, rfl⟩ := h
      exact E_zret dX12_isSign_23 rfl (Or.inl rfl)
    · rw [if_pos ((lc_eq _ _).mp c)] at h
      refine E_iconst (1 : Int32) dX12_isSign_18 (by decide) ?_
      refine E_goto 23 dX12_isSign_19 (by decide) ?_
      obtain ⟨rfl, rfl⟩ := h
      exact E_zret dX12_isSign_23 rfl (Or.inr rfl)
def W_X12_must_24 (X : Sx) (l : Launch) (D : Nat) (σ : AH) (r : Option Value) (σ' : AH) : Prop := (if (gI σ 124 12) = 0 then ∃ d1 : Nat, ∃ σ2 : AH, d1 + 1 ≤ D ∧ Call X l m_X12_next d1 [.ref 124] σ none σ2 ∧ (r = none ∧ σ' = σ2) else (r = none ∧ σ' = σ))
set_option maxRecDepth 100000 in
theorem w_X12_must_24 {X : Sx} {l : Launch} {D : Nat} {σ : AH} {r : Option Value} {σ' : AH} (hs : Sh σ) (h : W_X12_must_24 X l D σ r σ') : E X l m_X12_must D 24 [(0, .ref 124)] [] σ r σ' := by
  unfold W_X12_must_24 at h
  refine E_aload_n 0 dX12_must_24 rfl rfl ?_
  refine E_getI dX12_must_25 fl_X12_180 rfl (sk_124 hs) (sn hs (by decide)) ?_
  refine E_if_ne 35 dX12_must_28 (by decide) (fun c => ?_) (fun c => ?_)
  · rw [if_neg c] at h
    obtain ⟨rfl, rfl⟩ := h
    exact E_vret dX12_must_35 rfl
  · rw [if_pos c] at h
    refine E_aload_n 0 dX12_must_31 rfl rfl ?_
    obtain ⟨d1, σ2, hD3, hC4, h⟩ := h
    have hs5 := hC4.1.2.2.2.1 hs
    refine E_callV (As := []) (rest := []) (r1 := none) (b := 124) dX12_must_32 ok_X12_next in_X12_next se_X12_next ml_X12_184 hD3 rfl rfl (Nat.le_of_ble_eq_true rfl) (sk_124 hs) (sn hs (by decide)) (by decide) rfl (by decide +kernel) hC4 ?_
    obtain ⟨rfl, rfl⟩ := h
    exact E_vret dX12_must_35 rfl
def W_X12_must_0 (X : Sx) (l : Launch) (D : Nat) (x1 : Int32) (σ : AH) (r : Option Value) (σ' : AH) : Prop := (if (gI σ 124 12) = 0 then (if x1 = 0 then W_X12_must_24 X l D (sI (sI σ 124 12 (1 : Int32)) 124 11 (gI (sI σ 124 12 (1 : Int32)) 124 7)) r σ' else W_X12_must_24 X l D σ r σ') else W_X12_must_24 X l D σ r σ')
set_option maxRecDepth 100000 in
theorem w_X12_must_0 {X : Sx} {l : Launch} {D : Nat} {x1 : Int32} {σ : AH} {r : Option Value} {σ' : AH} (hs : Sh σ) (h : W_X12_must_0 X l D x1 σ r σ') : E X l m_X12_must D 0 [(0, .ref 124), (1, .int x1)] [] σ r σ' := by
  unfold W_X12_must_0 at h
  refine E_aload_n 0 dX12_must_0 rfl rfl ?_
  refine E_getI dX12_must_1 fl_X12_180 rfl (sk_124 hs) (sn hs (by decide)) ?_
  refine E_if_ne 24 dX12_must_4 (by decide) (fun c => ?_) (fun c => ?_)
  · rw [if_neg c] at h
    exact E_lv [0] rfl (w_X12_must_24 hs h)
  · rw [if_pos c] at h
    refine E_iload_n 1 dX12_must_7 rfl rfl ?_
    refine E_if_ne 24 dX12_must_8 (by decide) (fun c => ?_) (fun c => ?_)
    · rw [if_neg c] at h
      exact E_lv [0] rfl (w_X12_must_24 hs h)
    · rw [if_pos c] at h
      refine E_aload_n 0 dX12_must_11 rfl rfl ?_
      refine E_iconst (1 : Int32) dX12_must_12 (by decide) ?_
      refine E_putI dX12_must_13 fl_X12_180 rfl (Or.inl rfl) (sk_124 hs) (sn hs (by decide)) (Or.inl (by decide)) (nar_b (by decide)) (fit_b (by decide)) ?_
      refine E_aload_n 0 dX12_must_16 rfl rfl ?_
      refine E_aload_n 0 dX12_must_17 rfl rfl ?_
      refine E_getI dX12_must_18 fl_X12_187 rfl (sk_124 hs) (sn hs (by decide)) ?_
      refine E_putI dX12_must_21 fl_X12_25 rfl (Or.inl rfl) (sk_124 hs) (sn hs (by decide)) (Or.inl (by decide)) rfl rfl ?_
      exact E_lv [0] rfl (w_X12_must_24 hs h)
def W_X12_number_29 (X : Sx) (l : Launch) (D : Nat) (x3 : Int32) (y0 : Int32) (σ : AH) (r : Option Value) (σ' : AH) : Prop := ∃ d1 : Nat, ∃ σ2 : AH, d1 + 1 ≤ D ∧ Call X l m_X12_must d1 [.ref 124, .int y0] σ none σ2 ∧ (r = some (.int x3) ∧ σ' = σ2)
set_option maxRecDepth 100000 in
theorem w_X12_number_29 {X : Sx} {l : Launch} {D : Nat} {x3 : Int32} {y0 : Int32} {σ : AH} {r : Option Value} {σ' : AH} (hs : Sh σ) (h : W_X12_number_29 X l D x3 y0 σ r σ') : E X l m_X12_number D 29 [(3, .int x3)] [.int y0, .ref 124] σ r σ' := by
  unfold W_X12_number_29 at h
  obtain ⟨d1, σ2, hD3, hC4, h⟩ := h
  have hs5 := hC4.1.2.2.2.1 hs
  refine E_callV (As := [.int y0]) (rest := []) (r1 := none) (b := 124) dX12_number_29 ok_X12_must in_X12_must se_X12_must ml_X12_216 hD3 rfl rfl (Nat.le_of_ble_eq_true rfl) (sk_124 hs) (sn hs (by decide)) (by decide) rfl (by decide +kernel) hC4 ?_
  refine E_iload_n 0 dX12_number_32 rfl rfl ?_
  obtain ⟨rfl, rfl⟩ := h
  exact E_iret dX12_number_33 rfl
def W_X12_number_28 (X : Sx) (l : Launch) (D : Nat) (x3 : Int32) (σ : AH) (r : Option Value) (σ' : AH) : Prop := W_X12_number_29 X l D x3 (0 : Int32) σ r σ'
set_option maxRecDepth 100000 in
theorem w_X12_number_28 {X : Sx} {l : Launch} {D : Nat} {x3 : Int32} {σ : AH} {r : Option Value} {σ' : AH} (hs : Sh σ) (h : W_X12_number_28 X l D x3 σ r σ') : E X l m_X12_number D 28 [(3, .int x3)] [.ref 124] σ r σ' := by
  unfold W_X12_number_28 at h
  refine E_iconst (0 : Int32) dX12_number_28 (by decide) ?_
  exact E_lv [0] rfl (w_X12_number_29 hs h)
def W_X12_number_0 (X : Sx) (l : Launch) (D : Nat) (x1 : Int64) (σ : AH) (r : Option Value) (σ' : AH) : Prop := (if (gI σ 124 9) = (2 : Int32) then (if x1 < (gL σ 124 10) then W_X12_number_28 X l D (((gL σ 124 10)).toInt32) σ r σ' else W_X12_number_29 X l D (((gL σ 124 10)).toInt32) (1 : Int32) σ r σ') else W_X12_number_28 X l D (((gL σ 124 10)).toInt32) σ r σ')
set_option maxRecDepth 100000 in
theorem w_X12_number_0 {X : Sx} {l : Launch} {D : Nat} {x1 : Int64} {σ : AH} {r : Option Value} {σ' : AH} (hs : Sh σ) (h : W_X12_number_0 X l D x1 σ r σ') : E X l m_X12_number D 0 [(0, .ref 124), (1, .long x1)] [] σ r σ' := by
  unfold W_X12_number_0 at h
  refine E_aload_n 0 dX12_number_0 rfl rfl ?_
  refine E_getL dX12_number_1 fl_X12_190 rfl (sk_124 hs) (sn hs (by decide)) ?_
  refine E_l2i dX12_number_4 ?_
  refine E_istore_n [(3, .int ((gL σ 124 10)).toInt32), (0, .ref 124), (1, .long x1)] dX12_number_5 rfl (by decide) rfl ?_
  refine E_aload_n 1 dX12_number_6 rfl rfl ?_
  refine E_aload_n 1 dX12_number_7 rfl rfl ?_
  refine E_getI dX12_number_8 fl_X12_201 rfl (sk_124 hs) (sn hs (by decide)) ?_
  refine E_iconst (2 : Int32) dX12_number_11 (by decide) ?_
  refine E_icmp_ne 28 dX12_number_12 (by decide) (fun c => ?_) (fun c => ?_)
  · rw [if_neg c] at h
    exact E_lv [0] rfl (w_X12_number_28 hs h)
  · rw [if_pos c] at h
    refine E_aload_n 1 dX12_number_15 rfl rfl ?_
    refine E_getL dX12_number_16 fl_X12_190 rfl (sk_124 hs) (sn hs (by decide)) ?_
    refine E_lload_n 2 dX12_number_19 rfl rfl ?_
    refine E_lcmp dX12_number_20 ?_
    refine E_if_gt 28 dX12_number_21 (by decide) (fun c => ?_) (fun c => ?_)
    · rw [if_pos ((lc_gt _ _).mp c)] at h
      exact E_lv [0] rfl (w_X12_number_28 hs h)
    · rw [if_neg (fun q => c ((lc_gt _ _).mpr q))] at h
      refine E_iconst (1 : Int32) dX12_number_24 (by decide) ?_
      refine E_goto 29 dX12_number_25 (by decide) ?_
      exact E_lv [0] rfl (w_X12_number_29 hs h)
def W_X12_fault_0 (X : Sx) (l : Launch) (D : Nat) (σ : AH) (r : Option Value) (σ' : AH) : Prop := (r = some (.int (gI (sI σ 124 0 (0 : Int32)) 124 11)) ∧ σ' = (sI σ 124 0 (0 : Int32)))
set_option maxRecDepth 100000 in
theorem w_X12_fault_0 {X : Sx} {l : Launch} {D : Nat} {σ : AH} {r : Option Value} {σ' : AH} (hs : Sh σ) (h : W_X12_fault_0 X l D σ r σ') : E X l m_X12_fault D 0 [(0, .ref 124)] [] σ r σ' := by
  unfold W_X12_fault_0 at h
  refine E_aload_n 0 dX12_fault_0 rfl rfl ?_
  refine E_iconst (0 : Int32) dX12_fault_1 (by decide) ?_
  refine E_putI dX12_fault_2 fl_X12_145 rfl (Or.inl rfl) (sk_124 hs) (sn hs (by decide)) (Or.inl (by decide)) rfl rfl ?_
  refine E_aload_n 0 dX12_fault_5 rfl rfl ?_
  refine E_getI dX12_fault_6 fl_X12_25 rfl (sk_124 hs) (sn hs (by decide)) ?_
  obtain ⟨rfl, rfl⟩ := h
  exact E_iret dX12_fault_9 rfl
def W_X12_emit_0 (X : Sx) (l : Launch) (D : Nat) (x1 : Int32) (x2 : Int32) (σ : AH) (r : Option Value) (σ' : AH) : Prop := vp_in (gI σ 124 15) 400 ∧ vp_in (gI (sI σ 130 ((gI σ 124 15).toNatClampNeg) x1) 124 15) 400 ∧ (∀ τ3 : AH, τ3 = (sI (sI (sI σ 130 ((gI σ 124 15).toNatClampNeg) x1) 131 ((gI (sI σ 130 ((gI σ 124 15).toNatClampNeg) x1) 124 15).toNatClampNeg) x2) 124 15 ((gI (sI (sI σ 130 ((gI σ 124 15).toNatClampNeg) x1) 131 ((gI (sI σ 130 ((gI σ 124 15).toNatClampNeg) x1) 124 15).toNatClampNeg) x2) 124 15) + (1 : Int32))) → (r = none ∧ σ' = τ3))
set_option maxRecDepth 100000 in
theorem w_X12_emit_0 {X : Sx} {l : Launch} {D : Nat} {x1 : Int32} {x2 : Int32} {σ : AH} {r : Option Value} {σ' : AH} (hs : Sh σ) (h : W_X12_emit_0 X l D x1 x2 σ r σ') : E X l m_X12_emit D 0 [(0, .ref 124), (1, .int x1), (2, .int x2)] [] σ r σ' := by
  unfold W_X12_emit_0 at h
  refine E_aload_n 0 dX12_emit_0 rfl rfl ?_
  refine E_getR 130 dX12_emit_1 fl_X12_32 rfl (sk_124 hs) (sn hs (by decide)) (sr_124_16 hs) ?_
  refine E_aload_n 0 dX12_emit_4 rfl rfl ?_
  refine E_getI dX12_emit_5 fl_X12_220 rfl (sk_124 hs) (sn hs (by decide)) ?_
  refine E_iload_n 1 dX12_emit_8 rfl rfl ?_
  obtain ⟨g1, h⟩ := h
  refine E_iast2 ((gI σ 124 15).toNatClampNeg) dX12_emit_9 (sk_130 hs) (sn hs (by decide)) (Or.inl (by decide)) g1 rfl ?_
  refine E_aload_n 0 dX12_emit_10 rfl rfl ?_
  refine E_getR 131 dX12_emit_11 fl_X12_35 rfl (sk_124 hs) (sn hs (by decide)) (sr_124_17 hs) ?_
  refine E_aload_n 0 dX12_emit_14 rfl rfl ?_
  refine E_getI dX12_emit_15 fl_X12_220 rfl (sk_124 hs) (sn hs (by decide)) ?_
  refine E_iload_n 2 dX12_emit_18 rfl rfl ?_
  obtain ⟨g2, h⟩ := h
  refine E_iast2 ((gI (sI σ 130 ((gI σ 124 15).toNatClampNeg) x1) 124 15).toNatClampNeg) dX12_emit_19 (sk_131 hs) (sn hs (by decide)) (Or.inl (by decide)) g2 rfl ?_
  refine E_aload_n 0 dX12_emit_20 rfl rfl ?_
  refine E_dup dX12_emit_21 rfl ?_
  refine E_getI dX12_emit_22 fl_X12_220 rfl (sk_124 hs) (sn hs (by decide)) ?_
  refine E_iconst (1 : Int32) dX12_emit_25 (by decide) ?_
  refine E_iadd dX12_emit_26 ?_
  refine E_putI dX12_emit_27 fl_X12_220 rfl (Or.inl rfl) (sk_124 hs) (sn hs (by decide)) (Or.inl (by decide)) rfl rfl ?_
  obtain ⟨τ3, e4⟩ : ∃ τ : AH, τ = (sI (sI (sI σ 130 ((gI σ 124 15).toNatClampNeg) x1) 131 ((gI (sI σ 130 ((gI σ 124 15).toNatClampNeg) x1) 124 15).toNatClampNeg) x2) 124 15 ((gI (sI (sI σ 130 ((gI σ 124 15).toNatClampNeg) x1) 131 ((gI (sI σ 130 ((gI σ 124 15).toNatClampNeg) x1) 124 15).toNatClampNeg) x2) 124 15) + (1 : Int32))) := ⟨_, rfl⟩
  replace h := h τ3 e4
  rw [← e4]
  have hs5 : Sh τ3 := by rw [e4]; exact hs
  obtain ⟨rfl, rfl⟩ := h
  exact E_vret dX12_emit_30 rfl
def W_X12_push_0 (X : Sx) (l : Launch) (D : Nat) (x1 : Int32) (x2 : Int32) (σ : AH) (r : Option Value) (σ' : AH) : Prop := vp_in (gI σ 124 21) 400 ∧ vp_in (gI (sI σ 132 ((gI σ 124 21).toNatClampNeg) x1) 124 21) 400 ∧ (∀ τ3 : AH, τ3 = (sI (sI (sI σ 132 ((gI σ 124 21).toNatClampNeg) x1) 133 ((gI (sI σ 132 ((gI σ 124 21).toNatClampNeg) x1) 124 21).toNatClampNeg) x2) 124 21 ((gI (sI (sI σ 132 ((gI σ 124 21).toNatClampNeg) x1) 133 ((gI (sI σ 132 ((gI σ 124 21).toNatClampNeg) x1) 124 21).toNatClampNeg) x2) 124 21) + (1 : Int32))) → (r = none ∧ σ' = τ3))
set_option maxRecDepth 100000 in
theorem w_X12_push_0 {X : Sx} {l : Launch} {D : Nat} {x1 : Int32} {x2 : Int32} {σ : AH} {r : Option Value} {σ' : AH} (hs : Sh σ) (h : W_X12_push_0 X l D x1 x2 σ r σ') : E X l m_X12_push D 0 [(0, .ref 124), (1, .int x1), (2, .int x2)] [] σ r σ' := by
  unfold W_X12_push_0 at h
  refine E_aload_n 0 dX12_push_0 rfl rfl ?_
  refine E_getR 132 dX12_push_1 fl_X12_38 rfl (sk_124 hs) (sn hs (by decide)) (sr_124_19 hs) ?_
  refine E_aload_n 0 dX12_push_4 rfl rfl ?_
  refine E_getI dX12_push_5 fl_X12_223 rfl (sk_124 hs) (sn hs (by decide)) ?_
  refine E_iload_n 1 dX12_push_8 rfl rfl ?_
  obtain ⟨g1, h⟩ := h
  refine E_iast2 ((gI σ 124 21).toNatClampNeg) dX12_push_9 (sk_132 hs) (sn hs (by decide)) (Or.inl (by decide)) g1 rfl ?_
  refine E_aload_n 0 dX12_push_10 rfl rfl ?_
  refine E_getR 133 dX12_push_11 fl_X12_41 rfl (sk_124 hs) (sn hs (by decide)) (sr_124_20 hs) ?_
  refine E_aload_n 0 dX12_push_14 rfl rfl ?_
  refine E_getI dX12_push_15 fl_X12_223 rfl (sk_124 hs) (sn hs (by decide)) ?_
  refine E_iload_n 2 dX12_push_18 rfl rfl ?_
  obtain ⟨g2, h⟩ := h
  refine E_iast2 ((gI (sI σ 132 ((gI σ 124 21).toNatClampNeg) x1) 124 21).toNatClampNeg) dX12_push_19 (sk_133 hs) (sn hs (by decide)) (Or.inl (by decide)) g2 rfl ?_
  refine E_aload_n 0 dX12_push_20 rfl rfl ?_
  refine E_dup dX12_push_21 rfl ?_
  refine E_getI dX12_push_22 fl_X12_223 rfl (sk_124 hs) (sn hs (by decide)) ?_
  refine E_iconst (1 : Int32) dX12_push_25 (by decide) ?_
  refine E_iadd dX12_push_26 ?_
  refine E_putI dX12_push_27 fl_X12_223 rfl (Or.inl rfl) (sk_124 hs) (sn hs (by decide)) (Or.inl (by decide)) rfl rfl ?_
  obtain ⟨τ3, e4⟩ : ∃ τ : AH, τ = (sI (sI (sI σ 132 ((gI σ 124 21).toNatClampNeg) x1) 133 ((gI (sI σ 132 ((gI σ 124 21).toNatClampNeg) x1) 124 21).toNatClampNeg) x2) 124 21 ((gI (sI (sI σ 132 ((gI σ 124 21).toNatClampNeg) x1) 133 ((gI (sI σ 132 ((gI σ 124 21).toNatClampNeg) x1) 124 21).toNatClampNeg) x2) 124 21) + (1 : Int32))) := ⟨_, rfl⟩
  replace h := h τ3 e4
  rw [← e4]
  have hs5 : Sh τ3 := by rw [e4]; exact hs
  obtain ⟨rfl, rfl⟩ := h
  exact E_vret dX12_push_30 rfl
def W_X12_binds_0 (X : Sx) (l : Launch) (D : Nat) (x0 : Int32) (σ : AH) (r : Option Value) (σ' : AH) : Prop := (if x0 < (30 : Int32) then (if x0 = (19 : Int32) then (r = some (.int (1 : Int32)) ∧ σ' = σ) else (if x0 = (18 : Int32) then (r = some (.int (2 : Int32)) ∧ σ' = σ) else (if x0 = (17 : Int32) then (r = some (.int (3 : Int32)) ∧ σ' = σ) else (if x0 < (12 : Int32) then (if x0 < (10 : Int32) then (r = some (.int (5 : Int32)) ∧ σ' = σ) else (r = some (.int (6 : Int32)) ∧ σ' = σ)) else (r = some (.int (4 : Int32)) ∧ σ' = σ))))) else (r = some (.int (0 : Int32)) ∧ σ' = σ))
set_option maxRecDepth 100000 in
theorem w_X12_binds_0 {X : Sx} {l : Launch} {D : Nat} {x0 : Int32} {σ : AH} {r : Option Value} {σ' : AH} (hs : Sh σ) (h : W_X12_binds_0 X l D x0 σ r σ') : E X l m_X12_binds D 0 [(0, .int x0)] [] σ r σ' := by
  unfold W_X12_binds_0 at h
  refine E_iload_n 0 dX12_binds_0 rfl rfl ?_
  refine E_bipush (30 : Int32) dX12_binds_1 (by decide) ?_
  refine E_icmp_lt 10 dX12_binds_3 (by decide) (fun c => ?_) (fun c => ?_)
  · rw [if_pos c] at h
    refine E_iload_n 0 dX12_binds_10 rfl rfl ?_
    refine E_bipush (19 : Int32) dX12_binds_11 (by decide) ?_
    refine E_icmp_ne 20 dX12_binds_13 (by decide) (fun c => ?_) (fun c => ?_)
    · rw [if_neg c] at h
      refine E_iload_n 0 dX12_binds_20 rfl rfl ?_
      refine E_bipush (18 : Int32) dX12_binds_21 (by decide) ?_
      refine E_icmp_ne 30 dX12_binds_23 (by decide) (fun c => ?_) (fun c => ?_)
      · rw [if_neg c] at h
        refine E_iload_n 0 dX12_binds_30 rfl rfl ?_
        refine E_bipush (17 : Int32) dX12_binds_31 (by decide) ?_
        refine E_icmp_ne 40 dX12_binds_33 (by decide) (fun c => ?_) (fun c => ?_)
        · rw [if_neg c] at h
          refine E_iload_n 0 dX12_binds_40 rfl rfl ?_
          refine E_bipush (12 : Int32) dX12_binds_41 (by decide) ?_
          refine E_icmp_lt 50 dX12_binds_43 (by decide) (fun c => ?_) (fun c => ?_)
          · rw [if_pos c] at h
            refine E_iload_n 0 dX12_binds_50 rfl rfl ?_
            refine E_bipush (10 : Int32) dX12_binds_51 (by decide) ?_
            refine E_icmp_lt 61 dX12_binds_53 (by decide) (fun c => ?_) (fun c => ?_)
            · rw [if_pos c] at h
              refine E_iconst (5 : Int32) dX12_binds_61 (by decide) ?_
              obtain ⟨rfl, rfl⟩ := h
              exact E_iret dX12_binds_62 rfl
            · rw [if_neg c] at h
              refine E_bipush (6 : Int32) dX12_binds_56 (by decide) ?_
              refine E_goto 62 dX12_binds_58 (by decide) ?_
              obtain ⟨rfl, rfl⟩ := h
              exact E_iret dX12_binds_62 rfl
          · rw [if_neg c] at h
            refine E_iconst (4 : Int32) dX12_binds_46 (by decide) ?_
            refine E_goto 62 dX12_binds_47 (by decide) ?_
            obtain ⟨rfl, rfl⟩ := h
            exact E_iret dX12_binds_62 rfl
        · rw [if_pos c] at h
          refine E_iconst (3 : Int32) dX12_binds_36 (by decide) ?_
          refine E_goto 62 dX12_binds_37 (by decide) ?_
          obtain ⟨rfl, rfl⟩ := h
          exact E_iret dX12_binds_62 rfl
      · rw [if_pos c] at h
        refine E_iconst (2 : Int32) dX12_binds_26 (by decide) ?_
        refine E_goto 62 dX12_binds_27 (by decide) ?_
        obtain ⟨rfl, rfl⟩ := h
        exact E_iret dX12_binds_62 rfl
    · rw [if_pos c] at h
      refine E_iconst (1 : Int32) dX12_binds_16 (by decide) ?_
      refine E_goto 62 dX12_binds_17 (by decide) ?_
      obtain ⟨rfl, rfl⟩ := h
      exact E_iret dX12_binds_62 rfl
  · rw [if_neg c] at h
    refine E_iconst (0 : Int32) dX12_binds_6 (by decide) ?_
    refine E_goto 62 dX12_binds_7 (by decide) ?_
    obtain ⟨rfl, rfl⟩ := h
    exact E_iret dX12_binds_62 rfl
def W_X12_settle_63 (X : Sx) (l : Launch) (D : Nat) (x1 : Int32) (σ : AH) (r : Option Value) (σ' : AH) : Prop := vp_in (gI σ 124 21) 400 ∧ vp_in (gI σ 133 (gI σ 124 21).toNatClampNeg) 400 ∧ E X l m_X12_settle D 0 [(0, .ref 124), (1, .int x1)] [] (sI σ 131 ((gI σ 133 (gI σ 124 21).toNatClampNeg).toNatClampNeg) (gI σ 124 15)) r σ'
set_option maxRecDepth 100000 in
theorem w_X12_settle_63 {X : Sx} {l : Launch} {D : Nat} {x1 : Int32} {σ : AH} {r : Option Value} {σ' : AH} (hs : Sh σ) (h : W_X12_settle_63 X l D x1 σ r σ') : E X l m_X12_settle D 63 [(0, .ref 124), (1, .int x1)] [] σ r σ' := by
  unfold W_X12_settle_63 at h
  refine E_aload_n 0 dX12_settle_63 rfl rfl ?_
  refine E_getR 131 dX12_settle_64 fl_X12_35 rfl (sk_124 hs) (sn hs (by decide)) (sr_124_17 hs) ?_
  refine E_aload_n 0 dX12_settle_67 rfl rfl ?_
  refine E_getR 133 dX12_settle_68 fl_X12_41 rfl (sk_124 hs) (sn hs (by decide)) (sr_124_20 hs) ?_
  refine E_aload_n 0 dX12_settle_71 rfl rfl ?_
  refine E_getI dX12_settle_72 fl_X12_223 rfl (sk_124 hs) (sn hs (by decide)) ?_
  obtain ⟨g16, h⟩ := h
  refine E_iald2 ((gI σ 124 21).toNatClampNeg) dX12_settle_75 (sk_133 hs) (sn hs (by decide)) g16 rfl ?_
  refine E_aload_n 0 dX12_settle_76 rfl rfl ?_
  refine E_getI dX12_settle_77 fl_X12_220 rfl (sk_124 hs) (sn hs (by decide)) ?_
  obtain ⟨g17, h⟩ := h
  refine E_iast2 ((gI σ 133 (gI σ 124 21).toNatClampNeg).toNatClampNeg) dX12_settle_80 (sk_131 hs) (sn hs (by decide)) (Or.inl (by decide)) g17 rfl ?_
  refine E_goto 0 dX12_settle_81 (by decide) ?_
  exact E_lv [0, 1] rfl h
def W_X12_settle_0 (X : Sx) (l : Launch) (D : Nat) (x1 : Int32) (σ : AH) (r : Option Value) (σ' : AH) : Prop := (if (gI σ 124 21) ≤ 0 then (r = none ∧ σ' = σ) else vp_in ((gI σ 124 21) - (1 : Int32)) 400 ∧ ∃ d2 : Nat, ∃ v7 : Int32, ∃ σ3 : AH, d2 + 1 ≤ D ∧ Call X l m_X12_binds d2 [.int (gI σ 132 ((gI σ 124 21) - (1 : Int32)).toNatClampNeg)] σ (some (.int v7)) σ3 ∧ (if v7 < x1 then (r = none ∧ σ' = σ3) else vp_in (gI (sI σ3 124 21 ((gI σ3 124 21) - (1 : Int32))) 124 21) 400 ∧ (if (gI (sI σ3 124 21 ((gI σ3 124 21) - (1 : Int32))) 132 (gI (sI σ3 124 21 ((gI σ3 124 21) - (1 : Int32))) 124 21).toNatClampNeg) = (18 : Int32) then W_X12_settle_63 X l D x1 (sI σ3 124 21 ((gI σ3 124 21) - (1 : Int32))) r σ' else vp_in (gI (sI σ3 124 21 ((gI σ3 124 21) - (1 : Int32))) 124 21) 400 ∧ (if (gI (sI σ3 124 21 ((gI σ3 124 21) - (1 : Int32))) 132 (gI (sI σ3 124 21 ((gI σ3 124 21) - (1 : Int32))) 124 21).toNatClampNeg) = (19 : Int32) then W_X12_settle_63 X l D x1 (sI σ3 124 21 ((gI σ3 124 21) - (1 : Int32))) r σ' else vp_in (gI (sI σ3 124 21 ((gI σ3 124 21) - (1 : Int32))) 124 21) 400 ∧ ∃ d11 : Nat, ∃ σ12 : AH, d11 + 1 ≤ D ∧ Call X l m_X12_emit d11 [.ref 124, .int (gI (sI σ3 124 21 ((gI σ3 124 21) - (1 : Int32))) 132 (gI (sI σ3 124 21 ((gI σ3 124 21) - (1 : Int32))) 124 21).toNatClampNeg), .int (0 : Int32)] (sI σ3 124 21 ((gI σ3 124 21) - (1 : Int32))) none σ12 ∧ E X l m_X12_settle D 0 [(0, .ref 124), (1, .int x1)] [] σ12 r σ'))))
set_option maxRecDepth 100000 in
theorem w_X12_settle_0 {X : Sx} {l : Launch} {D : Nat} {x1 : Int32} {σ : AH} {r : Option Value} {σ' : AH} (hs : Sh σ) (h : W_X12_settle_0 X l D x1 σ r σ') : E X l m_X12_settle D 0 [(0, .ref 124), (1, .int x1)] [] σ r σ' := by
  unfold W_X12_settle_0 at h
  refine E_aload_n 0 dX12_settle_0 rfl rfl ?_
  refine E_getI dX12_settle_1 fl_X12_223 rfl (sk_124 hs) (sn hs (by decide)) ?_
  refine E_if_le 101 dX12_settle_4 (by decide) (fun c => ?_) (fun c => ?_)
  · rw [if_pos c] at h
    obtain ⟨rfl, rfl⟩ := h
    exact E_vret dX12_settle_101 rfl
  · rw [if_neg c] at h
    refine E_aload_n 0 dX12_settle_7 rfl rfl ?_
    refine E_getR 132 dX12_settle_8 fl_X12_38 rfl (sk_124 hs) (sn hs (by decide)) (sr_124_19 hs) ?_
    refine E_aload_n 0 dX12_settle_11 rfl rfl ?_
    refine E_getI dX12_settle_12 fl_X12_223 rfl (sk_124 hs) (sn hs (by decide)) ?_
    refine E_iconst (1 : Int32) dX12_settle_15 (by decide) ?_
    refine E_isub dX12_settle_16 ?_
    obtain ⟨g1, h⟩ := h
    refine E_iald2 (((gI σ 124 21) - (1 : Int32)).toNatClampNeg) dX12_settle_17 (sk_132 hs) (sn hs (by decide)) g1 rfl ?_
    obtain ⟨d2, v7, σ3, hD4, hC5, h⟩ := h
    have hs6 := hC5.1.2.2.2.1 hs
    refine E_callS (As := [.int (gI σ 132 ((gI σ 124 21) - (1 : Int32)).toNatClampNeg)]) (rest := []) (r1 := (some (.int v7))) dX12_settle_18 ok_X12_binds is_X12_binds ml_X12_226 hD4 rfl rfl (Nat.le_of_ble_eq_true rfl) (by decide +kernel) hC5 ?_
    refine E_iload_n 1 dX12_settle_21 rfl rfl ?_
    refine E_icmp_lt 101 dX12_settle_22 (by decide) (fun c => ?_) (fun c => ?_)
    · rw [if_pos c] at h
      obtain ⟨rfl, rfl⟩ := h
      exact E_vret dX12_settle_101 rfl
    · rw [if_neg c] at h
      refine E_aload_n 0 dX12_settle_25 rfl rfl ?_
      refine E_dup dX12_settle_26 rfl ?_
      refine E_getI dX12_settle_27 fl_X12_223 rfl (sk_124 hs6) (sn hs6 (by decide)) ?_
      refine E_iconst (1 : Int32) dX12_settle_30 (by decide) ?_
      refine E_isub dX12_settle_31 ?_
      refine E_putI dX12_settle_32 fl_X12_223 rfl (Or.inl rfl) (sk_124 hs6) (sn hs6 (by decide)) (Or.inl (by decide)) rfl rfl ?_
      refine E_aload_n 0 dX12_settle_35 rfl rfl ?_
      refine E_getR 132 dX12_settle_36 fl_X12_38 rfl (sk_124 hs6) (sn hs6 (by decide)) (sr_124_19 hs6) ?_
      refine E_aload_n 0 dX12_settle_39 rfl rfl ?_
      refine E_getI dX12_settle_40 fl_X12_223 rfl (sk_124 hs6) (sn hs6 (by decide)) ?_
      obtain ⟨g8, h⟩ := h
      refine E_iald2 ((gI (sI σ3 124 21 ((gI σ3 124 21) - (1 : Int32))) 124 21).toNatClampNeg) dX12_settle_43 (sk_132 hs6) (sn hs6 (by decide)) g8 rfl ?_
      refine E_bipush (18 : Int32) dX12_settle_44 (by decide) ?_
      refine E_icmp_eq 63 dX12_settle_46 (by decide) (fun c => ?_) (fun c => ?_)
      · rw [if_pos c] at h
        exact E_lv [0, 1] rfl (w_X12_settle_63 hs6 h)
      · rw [if_neg c] at h
        refine E_aload_n 0 dX12_settle_49 rfl rfl ?_
        refine E_getR 132 dX12_settle_50 fl_X12_38 rfl (sk_124 hs6) (sn hs6 (by decide)) (sr_124_19 hs6) ?_
        refine E_aload_n 0 dX12_settle_53 rfl rfl ?_
        refine E_getI dX12_settle_54 fl_X12_223 rfl (sk_124 hs6) (sn hs6 (by decide)) ?_
        obtain ⟨g9, h⟩ := h
        refine E_iald2 ((gI (sI σ3 124 21 ((gI σ3 124 21) - (1 : Int32))) 124 21).toNatClampNeg) dX12_settle_57 (sk_132 hs6) (sn hs6 (by decide)) g9 rfl ?_
        refine E_bipush (19 : Int32) dX12_settle_58 (by decide) ?_
        refine E_icmp_ne 84 dX12_settle_60 (by decide) (fun c => ?_) (fun c => ?_)
        · rw [if_neg c] at h
          refine E_aload_n 0 dX12_settle_84 rfl rfl ?_
          refine E_aload_n 0 dX12_settle_85 rfl rfl ?_
          refine E_getR 132 dX12_settle_86 fl_X12_38 rfl (sk_124 hs6) (sn hs6 (by decide)) (sr_124_19 hs6) ?_
          refine E_aload_n 0 dX12_settle_89 rfl rfl ?_
          refine E_getI dX12_settle_90 fl_X12_223 rfl (sk_124 hs6) (sn hs6 (by decide)) ?_
          obtain ⟨g10, h⟩ := h
          refine E_iald2 ((gI (sI σ3 124 21 ((gI σ3 124 21) - (1 : Int32))) 124 21).toNatClampNeg) dX12_settle_93 (sk_132 hs6) (sn hs6 (by decide)) g10 rfl ?_
          refine E_iconst (0 : Int32) dX12_settle_94 (by decide) ?_
          obtain ⟨d11, σ12, hD13, hC14, h⟩ := h
          have hs15 := hC14.1.2.2.2.1 hs6
          refine E_callV (As := [.int (gI (sI σ3 124 21 ((gI σ3 124 21) - (1 : Int32))) 132 (gI (sI σ3 124 21 ((gI σ3 124 21) - (1 : Int32))) 124 21).toNatClampNeg), .int (0 : Int32)]) (rest := []) (r1 := none) (b := 124) dX12_settle_95 ok_X12_emit in_X12_emit se_X12_emit ml_X12_229 hD13 rfl rfl (Nat.le_of_ble_eq_true rfl) (sk_124 hs6) (sn hs6 (by decide)) (by decide) rfl (by decide +kernel) hC14 ?_
          refine E_goto 0 dX12_settle_98 (by decide) ?_
          exact E_lv [0, 1] rfl h
        · rw [if_pos c] at h
          exact E_lv [0, 1] rfl (w_X12_settle_63 hs6 h)
def W_X12_inner_0 (X : Sx) (l : Launch) (D : Nat) (σ : AH) (r : Option Value) (σ' : AH) : Prop := E X l m_X12_inner D 4 [(0, .ref 124), (1, .int (-1 : Int32)), (2, .int (0 : Int32))] [] σ r σ'
set_option maxRecDepth 100000 in
theorem w_X12_inner_0 {X : Sx} {l : Launch} {D : Nat} {σ : AH} {r : Option Value} {σ' : AH} (hs : Sh σ) (h : W_X12_inner_0 X l D σ r σ') : E X l m_X12_inner D 0 [(0, .ref 124)] [] σ r σ' := by
  unfold W_X12_inner_0 at h
  refine E_iconst (-1 : Int32) dX12_inner_0 (by decide) ?_
  refine E_istore_n [(1, .int (-1 : Int32)), (0, .ref 124)] dX12_inner_1 rfl (by decide) rfl ?_
  refine E_iconst (0 : Int32) dX12_inner_2 (by decide) ?_
  refine E_istore_n [(2, .int (0 : Int32)), (1, .int (-1 : Int32)), (0, .ref 124)] dX12_inner_3 rfl (by decide) rfl ?_
  exact E_lv [2, 1, 0] rfl h
def W_X12_inner_33 (X : Sx) (l : Launch) (D : Nat) (x2 : Int32) (y0 : Int32) (σ : AH) (r : Option Value) (σ' : AH) : Prop := E X l m_X12_inner D 4 [(0, .ref 124), (1, .int y0), (2, .int (x2 + 1))] [] σ r σ'
set_option maxRecDepth 100000 in
theorem w_X12_inner_33 {X : Sx} {l : Launch} {D : Nat} {x2 : Int32} {y0 : Int32} {σ : AH} {r : Option Value} {σ' : AH} (hs : Sh σ) (h : W_X12_inner_33 X l D x2 y0 σ r σ') : E X l m_X12_inner D 33 [(0, .ref 124), (2, .int x2)] [.int y0] σ r σ' := by
  unfold W_X12_inner_33 at h
  refine E_istore_n [(1, .int y0), (0, .ref 124), (2, .int x2)] dX12_inner_33 rfl (by decide) rfl ?_
  refine E_iinc 2 (x2 + 1) [(2, .int (x2 + 1)), (1, .int y0), (0, .ref 124)] dX12_inner_34 rfl (congrArg (x2 + ·) (by decide : Int32.ofInt 1 = 1)) (by decide) rfl ?_
  refine E_goto 4 dX12_inner_37 (by decide) ?_
  exact E_lv [2, 1, 0] rfl h
def W_X12_inner_4 (X : Sx) (l : Launch) (D : Nat) (x1 : Int32) (x2 : Int32) (σ : AH) (r : Option Value) (σ' : AH) : Prop := (if (gI σ 124 21) ≤ x2 then (r = some (.int x1) ∧ σ' = σ) else vp_in x2 400 ∧ (if (gI σ 132 x2.toNatClampNeg) < (30 : Int32) then W_X12_inner_33 X l D x2 x1 σ r σ' else vp_in x2 400 ∧ W_X12_inner_33 X l D x2 (gI σ 132 x2.toNatClampNeg) σ r σ'))
set_option maxRecDepth 100000 in
theorem w_X12_inner_4 {X : Sx} {l : Launch} {D : Nat} {x1 : Int32} {x2 : Int32} {σ : AH} {r : Option Value} {σ' : AH} (hs : Sh σ) (h : W_X12_inner_4 X l D x1 x2 σ r σ') : E X l m_X12_inner D 4 [(0, .ref 124), (1, .int x1), (2, .int x2)] [] σ r σ' := by
  unfold W_X12_inner_4 at h
  refine E_iload_n 2 dX12_inner_4 rfl rfl ?_
  refine E_aload_n 0 dX12_inner_5 rfl rfl ?_
  refine E_getI dX12_inner_6 fl_X12_223 rfl (sk_124 hs) (sn hs (by decide)) ?_
  refine E_icmp_ge 40 dX12_inner_9 (by decide) (fun c => ?_) (fun c => ?_)
  · rw [if_pos c] at h
    refine E_iload_n 1 dX12_inner_40 rfl rfl ?_
    obtain ⟨rfl, rfl⟩ := h
    exact E_iret dX12_inner_41 rfl
  · rw [if_neg c] at h
    refine E_aload_n 0 dX12_inner_12 rfl rfl ?_
    refine E_getR 132 dX12_inner_13 fl_X12_38 rfl (sk_124 hs) (sn hs (by decide)) (sr_124_19 hs) ?_
    refine E_iload_n 2 dX12_inner_16 rfl rfl ?_
    obtain ⟨g1, h⟩ := h
    refine E_iald2 (x2.toNatClampNeg) dX12_inner_17 (sk_132 hs) (sn hs (by decide)) g1 rfl ?_
    refine E_bipush (30 : Int32) dX12_inner_18 (by decide) ?_
    refine E_icmp_lt 32 dX12_inner_20 (by decide) (fun c => ?_) (fun c => ?_)
    · rw [if_pos c] at h
      refine E_iload_n 1 dX12_inner_32 rfl rfl ?_
      exact E_lv [0, 2] rfl (w_X12_inner_33 hs h)
    · rw [if_neg c] at h
      refine E_aload_n 0 dX12_inner_23 rfl rfl ?_
      refine E_getR 132 dX12_inner_24 fl_X12_38 rfl (sk_124 hs) (sn hs (by decide)) (sr_124_19 hs) ?_
      refine E_iload_n 2 dX12_inner_27 rfl rfl ?_
      obtain ⟨g2, h⟩ := h
      refine E_iald2 (x2.toNatClampNeg) dX12_inner_28 (sk_132 hs) (sn hs (by decide)) g2 rfl ?_
      refine E_goto 33 dX12_inner_29 (by decide) ?_
      exact E_lv [0, 2] rfl (w_X12_inner_33 hs h)
def W_X12_isCompared_0 (X : Sx) (l : Launch) (D : Nat) (σ : AH) (r : Option Value) (σ' : AH) : Prop := E X l m_X12_isCompared D 7 [(0, .ref 124), (1, .int ((gI σ 124 21) - (1 : Int32)))] [] σ r σ'
set_option maxRecDepth 100000 in
theorem w_X12_isCompared_0 {X : Sx} {l : Launch} {D : Nat} {σ : AH} {r : Option Value} {σ' : AH} (hs : Sh σ) (h : W_X12_isCompared_0 X l D σ r σ') : E X l m_X12_isCompared D 0 [(0, .ref 124)] [] σ r σ' := by
  unfold W_X12_isCompared_0 at h
  refine E_aload_n 0 dX12_isCompared_0 rfl rfl ?_
  refine E_getI dX12_isCompared_1 fl_X12_223 rfl (sk_124 hs) (sn hs (by decide)) ?_
  refine E_iconst (1 : Int32) dX12_isCompared_4 (by decide) ?_
  refine E_isub dX12_isCompared_5 ?_
  refine E_istore_n [(1, .int ((gI σ 124 21) - (1 : Int32))), (0, .ref 124)] dX12_isCompared_6 rfl (by decide) rfl ?_
  exact E_lv [1, 0] rfl h
def W_X12_isCompared_36 (X : Sx) (l : Launch) (D : Nat) (x1 : Int32) (σ : AH) (r : Option Value) (σ' : AH) : Prop := (if x1 < 0 then (r = some (.int (0 : Int32)) ∧ σ' = σ) else vp_in x1 400 ∧ ∃ d9 : Nat, ∃ v14 : Int32, ∃ σ10 : AH, d9 + 1 ≤ D ∧ Call X l m_X12_in d9 [.long ((gI σ 132 x1.toNatClampNeg)).toInt64, .long (12 : Int64), .long (14 : Int64)] σ (some (.int v14)) σ10 ∧ (if v14 = 0 then (r = some (.int (0 : Int32)) ∧ σ' = σ10) else (r = some (.int (1 : Int32)) ∧ σ' = σ10)))
set_option maxRecDepth 100000 in
theorem w_X12_isCompared_36 {X : Sx} {l : Launch} {D : Nat} {x1 : Int32} {σ : AH} {r : Option Value} {σ' : AH} (hs : Sh σ) (h : W_X12_isCompared_36 X l D x1 σ r σ') : E X l m_X12_isCompared D 36 [(0, .ref 124), (1, .int x1)] [] σ r σ' := by
  unfold W_X12_isCompared_36 at h
  refine E_iload_n 1 dX12_isCompared_36 rfl rfl ?_
  refine E_if_lt 63 dX12_isCompared_37 (by decide) (fun c => ?_) (fun c => ?_)
  · rw [if_pos c] at h
    refine E_iconst (0 : Int32) dX12_isCompared_63 (by decide) ?_
    obtain ⟨rfl, rfl⟩ := h
    exact E_zret dX12_isCompared_64 rfl (Or.inl rfl)
  · rw [if_neg c] at h
    refine E_aload_n 0 dX12_isCompared_40 rfl rfl ?_
    refine E_getR 132 dX12_isCompared_41 fl_X12_38 rfl (sk_124 hs) (sn hs (by decide)) (sr_124_19 hs) ?_
    refine E_iload_n 1 dX12_isCompared_44 rfl rfl ?_
    obtain ⟨g8, h⟩ := h
    refine E_iald2 (x1.toNatClampNeg) dX12_isCompared_45 (sk_132 hs) (sn hs (by decide)) g8 rfl ?_
    refine E_i2l dX12_isCompared_46 ?_
    refine E_ldc2 (12 : Int64) dX12_isCompared_47 cl_X12_237 ?_
    refine E_ldc2 (14 : Int64) dX12_isCompared_50 cl_X12_239 ?_
    obtain ⟨d9, v14, σ10, hD11, hC12, h⟩ := h
    have hs13 := hC12.1.2.2.2.1 hs
    refine E_callS (As := [.long ((gI σ 132 x1.toNatClampNeg)).toInt64, .long (12 : Int64), .long (14 : Int64)]) (rest := []) (r1 := (some (.int v14))) dX12_isCompared_53 ok_X12_in is_X12_in ml_X12_153 hD11 rfl rfl (Nat.le_of_ble_eq_true rfl) (by decide +kernel) hC12 ?_
    refine E_if_eq 63 dX12_isCompared_56 (by decide) (fun c => ?_) (fun c => ?_)
    · rw [if_pos c] at h
      refine E_iconst (0 : Int32) dX12_isCompared_63 (by decide) ?_
      obtain ⟨rfl, rfl⟩ := h
      exact E_zret dX12_isCompared_64 rfl (Or.inl rfl)
    · rw [if_neg c] at h
      refine E_iconst (1 : Int32) dX12_isCompared_59 (by decide) ?_
      refine E_goto 64 dX12_isCompared_60 (by decide) ?_
      obtain ⟨rfl, rfl⟩ := h
      exact E_zret dX12_isCompared_64 rfl (Or.inr rfl)
def W_X12_isCompared_7 (X : Sx) (l : Launch) (D : Nat) (x1 : Int32) (σ : AH) (r : Option Value) (σ' : AH) : Prop := (if x1 < 0 then W_X12_isCompared_36 X l D x1 σ r σ' else vp_in x1 400 ∧ ∃ d2 : Nat, ∃ v7 : Int32, ∃ σ3 : AH, d2 + 1 ≤ D ∧ Call X l m_X12_in d2 [.long ((gI σ 132 x1.toNatClampNeg)).toInt64, .long (8 : Int64), .long (11 : Int64)] σ (some (.int v7)) σ3 ∧ (if v7 = 0 then W_X12_isCompared_36 X l D x1 σ3 r σ' else E X l m_X12_isCompared D 7 [(0, .ref 124), (1, .int (x1 + (-1)))] [] σ3 r σ'))
set_option maxRecDepth 100000 in
theorem w_X12_isCompared_7 {X : Sx} {l : Launch} {D : Nat} {x1 : Int32} {σ : AH} {r : Option Value} {σ' : AH} (hs : Sh σ) (h : W_X12_isCompared_7 X l D x1 σ r σ') : E X l m_X12_isCompared D 7 [(0, .ref 124), (1, .int x1)] [] σ r σ' := by
  unfold W_X12_isCompared_7 at h
  refine E_iload_n 1 dX12_isCompared_7 rfl rfl ?_
  refine E_if_lt 36 dX12_isCompared_8 (by decide) (fun c => ?_) (fun c => ?_)
  · rw [if_pos c] at h
    exact E_lv [0, 1] rfl (w_X12_isCompared_36 hs h)
  · rw [if_neg c] at h
    refine E_aload_n 0 dX12_isCompared_11 rfl rfl ?_
    refine E_getR 132 dX12_isCompared_12 fl_X12_38 rfl (sk_124 hs) (sn hs (by decide)) (sr_124_19 hs) ?_
    refine E_iload_n 1 dX12_isCompared_15 rfl rfl ?_
    obtain ⟨g1, h⟩ := h
    refine E_iald2 (x1.toNatClampNeg) dX12_isCompared_16 (sk_132 hs) (sn hs (by decide)) g1 rfl ?_
    refine E_i2l dX12_isCompared_17 ?_
    refine E_ldc2 (8 : Int64) dX12_isCompared_18 cl_X12_233 ?_
    refine E_ldc2 (11 : Int64) dX12_isCompared_21 cl_X12_235 ?_
    obtain ⟨d2, v7, σ3, hD4, hC5, h⟩ := h
    have hs6 := hC5.1.2.2.2.1 hs
    refine E_callS (As := [.long ((gI σ 132 x1.toNatClampNeg)).toInt64, .long (8 : Int64), .long (11 : Int64)]) (rest := []) (r1 := (some (.int v7))) dX12_isCompared_24 ok_X12_in is_X12_in ml_X12_153 hD4 rfl rfl (Nat.le_of_ble_eq_true rfl) (by decide +kernel) hC5 ?_
    refine E_if_eq 36 dX12_isCompared_27 (by decide) (fun c => ?_) (fun c => ?_)
    · rw [if_pos c] at h
      exact E_lv [0, 1] rfl (w_X12_isCompared_36 hs6 h)
    · rw [if_neg c] at h
      refine E_iinc 1 (x1 + (-1)) [(1, .int (x1 + (-1))), (0, .ref 124)] dX12_isCompared_30 rfl (congrArg (x1 + ·) (by decide : Int32.ofInt (-1) = -1)) (by decide) rfl ?_
      refine E_goto 7 dX12_isCompared_33 (by decide) ?_
      exact E_lv [1, 0] rfl h
def W_X12_partAt_30 (X : Sx) (l : Launch) (D : Nat) (σ : AH) (r : Option Value) (σ' : AH) : Prop := ∃ d43 : Nat, ∃ v48 : Int32, ∃ σ44 : AH, d43 + 1 ≤ D ∧ Call X l m_X12_isWord d43 [.ref 124, .long (19381683 : Int64)] σ (some (.int v48)) σ44 ∧ (if v48 = 0 then ∃ d49 : Nat, ∃ v54 : Int32, ∃ σ50 : AH, d49 + 1 ≤ D ∧ Call X l m_X12_isWord d49 [.ref 124, .long (17367154131 : Int64)] σ44 (some (.int v54)) σ50 ∧ (if v54 = 0 then (r = some (.int (3 : Int32)) ∧ σ' = σ50) else (r = some (.int (2 : Int32)) ∧ σ' = σ50)) else (r = some (.int (1 : Int32)) ∧ σ' = σ44))
set_option maxRecDepth 100000 in
theorem w_X12_partAt_30 {X : Sx} {l : Launch} {D : Nat} {σ : AH} {r : Option Value} {σ' : AH} (hs : Sh σ) (h : W_X12_partAt_30 X l D σ r σ') : E X l m_X12_partAt D 30 [(0, .ref 124)] [] σ r σ' := by
  unfold W_X12_partAt_30 at h
  refine E_aload_n 0 dX12_partAt_30 rfl rfl ?_
  refine E_ldc2 (19381683 : Int64) dX12_partAt_31 cl_X12_241 ?_
  obtain ⟨d43, v48, σ44, hD45, hC46, h⟩ := h
  have hs47 := hC46.1.2.2.2.1 hs
  refine E_callV (As := [.long (19381683 : Int64)]) (rest := []) (r1 := (some (.int v48))) (b := 124) dX12_partAt_34 ok_X12_isWord in_X12_isWord se_X12_isWord ml_X12_243 hD45 rfl rfl (Nat.le_of_ble_eq_true rfl) (sk_124 hs) (sn hs (by decide)) (by decide) rfl (by decide +kernel) hC46 ?_
  refine E_if_eq 44 dX12_partAt_37 (by decide) (fun c => ?_) (fun c => ?_)
  · rw [if_pos c] at h
    refine E_aload_n 0 dX12_partAt_44 rfl rfl ?_
    refine E_ldc2 (17367154131 : Int64) dX12_partAt_45 cl_X12_247 ?_
    obtain ⟨d49, v54, σ50, hD51, hC52, h⟩ := h
    have hs53 := hC52.1.2.2.2.1 hs47
    refine E_callV (As := [.long (17367154131 : Int64)]) (rest := []) (r1 := (some (.int v54))) (b := 124) dX12_partAt_48 ok_X12_isWord in_X12_isWord se_X12_isWord ml_X12_243 hD51 rfl rfl (Nat.le_of_ble_eq_true rfl) (sk_124 hs47) (sn hs47 (by decide)) (by decide) rfl (by decide +kernel) hC52 ?_
    refine E_if_eq 58 dX12_partAt_51 (by decide) (fun c => ?_) (fun c => ?_)
    · rw [if_pos c] at h
      refine E_iconst (3 : Int32) dX12_partAt_58 (by decide) ?_
      obtain ⟨rfl, rfl⟩ := h
      exact E_iret dX12_partAt_59 rfl
    · rw [if_neg c] at h
      refine E_iconst (2 : Int32) dX12_partAt_54 (by decide) ?_
      refine E_goto 59 dX12_partAt_55 (by decide) ?_
      obtain ⟨rfl, rfl⟩ := h
      exact E_iret dX12_partAt_59 rfl
  · rw [if_neg c] at h
    refine E_iconst (1 : Int32) dX12_partAt_40 (by decide) ?_
    refine E_goto 59 dX12_partAt_41 (by decide) ?_
    obtain ⟨rfl, rfl⟩ := h
    exact E_iret dX12_partAt_59 rfl
def W_X12_partAt_0 (X : Sx) (l : Launch) (D : Nat) (σ : AH) (r : Option Value) (σ' : AH) : Prop := ∃ d1 : Nat, ∃ v6 : Int32, ∃ σ2 : AH, d1 + 1 ≤ D ∧ Call X l m_X12_isWord d1 [.ref 124, .long (19381683 : Int64)] σ (some (.int v6)) σ2 ∧ (if v6 = 0 then ∃ d7 : Nat, ∃ v12 : Int32, ∃ σ8 : AH, d7 + 1 ≤ D ∧ Call X l m_X12_isWord d7 [.ref 124, .long (17367154131 : Int64)] σ2 (some (.int v12)) σ8 ∧ (if v12 = 0 then ∃ d13 : Nat, ∃ v18 : Int32, ∃ σ14 : AH, d13 + 1 ≤ D ∧ Call X l m_X12_isWord d13 [.ref 124, .long (111983872174 : Int64)] σ8 (some (.int v18)) σ14 ∧ (if v18 = 0 then ∃ d19 : Nat, ∃ v24 : Int32, ∃ σ20 : AH, d19 + 1 ≤ D ∧ Call X l m_X12_isWord d19 [.ref 124, .long (9612 : Int64)] σ14 (some (.int v24)) σ20 ∧ (if v24 = 0 then ∃ d25 : Nat, ∃ v30 : Int32, ∃ σ26 : AH, d25 + 1 ≤ D ∧ Call X l m_X12_isWord d25 [.ref 124, .long (773116068 : Int64)] σ20 (some (.int v30)) σ26 ∧ (if v30 = 0 then ∃ d31 : Nat, ∃ v36 : Int32, ∃ σ32 : AH, d31 + 1 ≤ D ∧ Call X l m_X12_isWord d31 [.ref 124, .long (263877 : Int64)] σ26 (some (.int v36)) σ32 ∧ (if v36 = 0 then ∃ d37 : Nat, ∃ v42 : Int32, ∃ σ38 : AH, d37 + 1 ≤ D ∧ Call X l m_X12_isWord d37 [.ref 124, .long (758955 : Int64)] σ32 (some (.int v42)) σ38 ∧ (if v42 = 0 then (r = some (.int (-1 : Int32)) ∧ σ' = σ38) else (r = some (.int (7 : Int32)) ∧ σ' = σ38)) else (r = some (.int (6 : Int32)) ∧ σ' = σ32)) else (r = some (.int (5 : Int32)) ∧ σ' = σ26)) else (r = some (.int (4 : Int32)) ∧ σ' = σ20)) else W_X12_partAt_30 X l D σ14 r σ') else W_X12_partAt_30 X l D σ8 r σ') else W_X12_partAt_30 X l D σ2 r σ')
set_option maxRecDepth 100000 in
theorem w_X12_partAt_0 {X : Sx} {l : Launch} {D : Nat} {σ : AH} {r : Option Value} {σ' : AH} (hs : Sh σ) (h : W_X12_partAt_0 X l D σ r σ') : E X l m_X12_partAt D 0 [(0, .ref 124)] [] σ r σ' := by
  unfold W_X12_partAt_0 at h
  refine E_aload_n 0 dX12_partAt_0 rfl rfl ?_
  refine E_ldc2 (19381683 : Int64) dX12_partAt_1 cl_X12_241 ?_
  obtain ⟨d1, v6, σ2, hD3, hC4, h⟩ := h
  have hs5 := hC4.1.2.2.2.1 hs
  refine E_callV (As := [.long (19381683 : Int64)]) (rest := []) (r1 := (some (.int v6))) (b := 124) dX12_partAt_4 ok_X12_isWord in_X12_isWord se_X12_isWord ml_X12_243 hD3 rfl rfl (Nat.le_of_ble_eq_true rfl) (sk_124 hs) (sn hs (by decide)) (by decide) rfl (by decide +kernel) hC4 ?_
  refine E_if_ne 30 dX12_partAt_7 (by decide) (fun c => ?_) (fun c => ?_)
  · rw [if_neg c] at h
    exact E_lv [0] rfl (w_X12_partAt_30 hs5 h)
  · rw [if_pos c] at h
    refine E_aload_n 0 dX12_partAt_10 rfl rfl ?_
    refine E_ldc2 (17367154131 : Int64) dX12_partAt_11 cl_X12_247 ?_
    obtain ⟨d7, v12, σ8, hD9, hC10, h⟩ := h
    have hs11 := hC10.1.2.2.2.1 hs5
    refine E_callV (As := [.long (17367154131 : Int64)]) (rest := []) (r1 := (some (.int v12))) (b := 124) dX12_partAt_14 ok_X12_isWord in_X12_isWord se_X12_isWord ml_X12_243 hD9 rfl rfl (Nat.le_of_ble_eq_true rfl) (sk_124 hs5) (sn hs5 (by decide)) (by decide) rfl (by decide +kernel) hC10 ?_
    refine E_if_ne 30 dX12_partAt_17 (by decide) (fun c => ?_) (fun c => ?_)
    · rw [if_neg c] at h
      exact E_lv [0] rfl (w_X12_partAt_30 hs11 h)
    · rw [if_pos c] at h
      refine E_aload_n 0 dX12_partAt_20 rfl rfl ?_
      refine E_ldc2 (111983872174 : Int64) dX12_partAt_21 cl_X12_249 ?_
      obtain ⟨d13, v18, σ14, hD15, hC16, h⟩ := h
      have hs17 := hC16.1.2.2.2.1 hs11
      refine E_callV (As := [.long (111983872174 : Int64)]) (rest := []) (r1 := (some (.int v18))) (b := 124) dX12_partAt_24 ok_X12_isWord in_X12_isWord se_X12_isWord ml_X12_243 hD15 rfl rfl (Nat.le_of_ble_eq_true rfl) (sk_124 hs11) (sn hs11 (by decide)) (by decide) rfl (by decide +kernel) hC16 ?_
      refine E_if_eq 60 dX12_partAt_27 (by decide) (fun c => ?_) (fun c => ?_)
      · rw [if_pos c] at h
        refine E_aload_n 0 dX12_partAt_60 rfl rfl ?_
        refine E_ldc2 (9612 : Int64) dX12_partAt_61 cl_X12_251 ?_
        obtain ⟨d19, v24, σ20, hD21, hC22, h⟩ := h
        have hs23 := hC22.1.2.2.2.1 hs17
        refine E_callV (As := [.long (9612 : Int64)]) (rest := []) (r1 := (some (.int v24))) (b := 124) dX12_partAt_64 ok_X12_isWord in_X12_isWord se_X12_isWord ml_X12_243 hD21 rfl rfl (Nat.le_of_ble_eq_true rfl) (sk_124 hs17) (sn hs17 (by decide)) (by decide) rfl (by decide +kernel) hC22 ?_
        refine E_if_eq 74 dX12_partAt_67 (by decide) (fun c => ?_) (fun c => ?_)
        · rw [if_pos c] at h
          refine E_aload_n 0 dX12_partAt_74 rfl rfl ?_
          refine E_ldc2 (773116068 : Int64) dX12_partAt_75 cl_X12_253 ?_
          obtain ⟨d25, v30, σ26, hD27, hC28, h⟩ := h
          have hs29 := hC28.1.2.2.2.1 hs23
          refine E_callV (As := [.long (773116068 : Int64)]) (rest := []) (r1 := (some (.int v30))) (b := 124) dX12_partAt_78 ok_X12_isWord in_X12_isWord se_X12_isWord ml_X12_243 hD27 rfl rfl (Nat.le_of_ble_eq_true rfl) (sk_124 hs23) (sn hs23 (by decide)) (by decide) rfl (by decide +kernel) hC28 ?_
          refine E_if_eq 88 dX12_partAt_81 (by decide) (fun c => ?_) (fun c => ?_)
          · rw [if_pos c] at h
            refine E_aload_n 0 dX12_partAt_88 rfl rfl ?_
            refine E_ldc2 (263877 : Int64) dX12_partAt_89 cl_X12_255 ?_
            obtain ⟨d31, v36, σ32, hD33, hC34, h⟩ := h
            have hs35 := hC34.1.2.2.2.1 hs29
            refine E_callV (As := [.long (263877 : Int64)]) (rest := []) (r1 := (some (.int v36))) (b := 124) dX12_partAt_92 ok_X12_isWord in_X12_isWord se_X12_isWord ml_X12_243 hD33 rfl rfl (Nat.le_of_ble_eq_true rfl) (sk_124 hs29) (sn hs29 (by decide)) (by decide) rfl (by decide +kernel) hC34 ?_
            refine E_if_eq 103 dX12_partAt_95 (by decide) (fun c => ?_) (fun c => ?_)
            · rw [if_pos c] at h
              refine E_aload_n 0 dX12_partAt_103 rfl rfl ?_
              refine E_ldc2 (758955 : Int64) dX12_partAt_104 cl_X12_257 ?_
              obtain ⟨d37, v42, σ38, hD39, hC40, h⟩ := h
              have hs41 := hC40.1.2.2.2.1 hs35
              refine E_callV (As := [.long (758955 : Int64)]) (rest := []) (r1 := (some (.int v42))) (b := 124) dX12_partAt_107 ok_X12_isWord in_X12_isWord se_X12_isWord ml_X12_243 hD39 rfl rfl (Nat.le_of_ble_eq_true rfl) (sk_124 hs35) (sn hs35 (by decide)) (by decide) rfl (by decide +kernel) hC40 ?_
              refine E_if_eq 118 dX12_partAt_110 (by decide) (fun c => ?_) (fun c => ?_)
              · rw [if_pos c] at h
                refine E_iconst (-1 : Int32) dX12_partAt_118 (by decide) ?_
                obtain ⟨rfl, rfl⟩ := h
                exact E_iret dX12_partAt_119 rfl
              · rw [if_neg c] at h
                refine E_bipush (7 : Int32) dX12_partAt_113 (by decide) ?_
                refine E_goto 119 dX12_partAt_115 (by decide) ?_
                obtain ⟨rfl, rfl⟩ := h
                exact E_iret dX12_partAt_119 rfl
            · rw [if_neg c] at h
              refine E_bipush (6 : Int32) dX12_partAt_98 (by decide) ?_
              refine E_goto 119 dX12_partAt_100 (by decide) ?_
              obtain ⟨rfl, rfl⟩ := h
              exact E_iret dX12_partAt_119 rfl
          · rw [if_neg c] at h
            refine E_iconst (5 : Int32) dX12_partAt_84 (by decide) ?_
            refine E_goto 119 dX12_partAt_85 (by decide) ?_
            obtain ⟨rfl, rfl⟩ := h
            exact E_iret dX12_partAt_119 rfl
        · rw [if_neg c] at h
          refine E_iconst (4 : Int32) dX12_partAt_70 (by decide) ?_
          refine E_goto 119 dX12_partAt_71 (by decide) ?_
          obtain ⟨rfl, rfl⟩ := h
          exact E_iret dX12_partAt_119 rfl
      · rw [if_neg c] at h
        exact E_lv [0] rfl (w_X12_partAt_30 hs17 h)
def W_X12_open_15 (X : Sx) (l : Launch) (D : Nat) (x1 : Int32) (y0 : Int32) (σ : AH) (r : Option Value) (σ' : AH) : Prop := ∃ d1 : Nat, ∃ σ2 : AH, d1 + 1 ≤ D ∧ Call X l m_X12_must d1 [.ref 124, .int y0] σ none σ2 ∧ (if (gI σ2 124 12) = 0 then ∃ d6 : Nat, ∃ σ7 : AH, d6 + 1 ≤ D ∧ Call X l m_X12_push d6 [.ref 124, .int x1, .int (0 : Int32)] (sI σ2 124 22 ((gI σ2 124 22) + (1 : Int32))) none σ7 ∧ (r = none ∧ σ' = σ7) else (r = none ∧ σ' = σ2))
set_option maxRecDepth 100000 in
theorem w_X12_open_15 {X : Sx} {l : Launch} {D : Nat} {x1 : Int32} {y0 : Int32} {σ : AH} {r : Option Value} {σ' : AH} (hs : Sh σ) (h : W_X12_open_15 X l D x1 y0 σ r σ') : E X l m_X12_open D 15 [(0, .ref 124), (1, .int x1)] [.int y0, .ref 124] σ r σ' := by
  unfold W_X12_open_15 at h
  obtain ⟨d1, σ2, hD3, hC4, h⟩ := h
  have hs5 := hC4.1.2.2.2.1 hs
  refine E_callV (As := [.int y0]) (rest := []) (r1 := none) (b := 124) dX12_open_15 ok_X12_must in_X12_must se_X12_must ml_X12_216 hD3 rfl rfl (Nat.le_of_ble_eq_true rfl) (sk_124 hs) (sn hs (by decide)) (by decide) rfl (by decide +kernel) hC4 ?_
  refine E_aload_n 0 dX12_open_18 rfl rfl ?_
  refine E_getI dX12_open_19 fl_X12_180 rfl (sk_124 hs5) (sn hs5 (by decide)) ?_
  refine E_if_ne 41 dX12_open_22 (by decide) (fun c => ?_) (fun c => ?_)
  · rw [if_neg c] at h
    obtain ⟨rfl, rfl⟩ := h
    exact E_vret dX12_open_41 rfl
  · rw [if_pos c] at h
    refine E_aload_n 0 dX12_open_25 rfl rfl ?_
    refine E_dup dX12_open_26 rfl ?_
    refine E_getI dX12_open_27 fl_X12_259 rfl (sk_124 hs5) (sn hs5 (by decide)) ?_
    refine E_iconst (1 : Int32) dX12_open_30 (by decide) ?_
    refine E_iadd dX12_open_31 ?_
    refine E_putI dX12_open_32 fl_X12_259 rfl (Or.inl rfl) (sk_124 hs5) (sn hs5 (by decide)) (Or.inl (by decide)) rfl rfl ?_
    refine E_aload_n 0 dX12_open_35 rfl rfl ?_
    refine E_iload_n 1 dX12_open_36 rfl rfl ?_
    refine E_iconst (0 : Int32) dX12_open_37 (by decide) ?_
    obtain ⟨d6, σ7, hD8, hC9, h⟩ := h
    have hs10 := hC9.1.2.2.2.1 hs5
    refine E_callV (As := [.int x1, .int (0 : Int32)]) (rest := []) (r1 := none) (b := 124) dX12_open_38 ok_X12_push in_X12_push se_X12_push ml_X12_262 hD8 rfl rfl (Nat.le_of_ble_eq_true rfl) (sk_124 hs5) (sn hs5 (by decide)) (by decide) rfl (by decide +kernel) hC9 ?_
    obtain ⟨rfl, rfl⟩ := h
    exact E_vret dX12_open_41 rfl
def W_X12_open_0 (X : Sx) (l : Launch) (D : Nat) (x1 : Int32) (σ : AH) (r : Option Value) (σ' : AH) : Prop := (if (8 : Int32) ≤ (gI σ 124 22) then W_X12_open_15 X l D x1 (0 : Int32) σ r σ' else W_X12_open_15 X l D x1 (1 : Int32) σ r σ')
set_option maxRecDepth 100000 in
theorem w_X12_open_0 {X : Sx} {l : Launch} {D : Nat} {x1 : Int32} {σ : AH} {r : Option Value} {σ' : AH} (hs : Sh σ) (h : W_X12_open_0 X l D x1 σ r σ') : E X l m_X12_open D 0 [(0, .ref 124), (1, .int x1)] [] σ r σ' := by
  unfold W_X12_open_0 at h
  refine E_aload_n 0 dX12_open_0 rfl rfl ?_
  refine E_aload_n 0 dX12_open_1 rfl rfl ?_
  refine E_getI dX12_open_2 fl_X12_259 rfl (sk_124 hs) (sn hs (by decide)) ?_
  refine E_bipush (8 : Int32) dX12_open_5 (by decide) ?_
  refine E_icmp_ge 14 dX12_open_7 (by decide) (fun c => ?_) (fun c => ?_)
  · rw [if_pos c] at h
    refine E_iconst (0 : Int32) dX12_open_14 (by decide) ?_
    exact E_lv [0, 1] rfl (w_X12_open_15 hs h)
  · rw [if_neg c] at h
    refine E_iconst (1 : Int32) dX12_open_10 (by decide) ?_
    refine E_goto 15 dX12_open_11 (by decide) ?_
    exact E_lv [0, 1] rfl (w_X12_open_15 hs h)
