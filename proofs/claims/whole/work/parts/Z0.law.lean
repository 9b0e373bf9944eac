/-- the law, with the cells that the constructors may write -/
def m_LW : MI := (yL_law, cL_law, 4, (some .boolean), [0, 1, 2, 3, 4, 5, 6, 7, 8, 9, 10, 11, 12, 13, 14, 15, 16, 17, 18, 19, 20, 21, 22, 23, 24, 25, 26, 27, 28, 29, 30, 31, 32, 33, 34, 35, 36, 37, 38, 39, 40, 41, 42, 43, 44, 45, 46, 47, 48, 49, 50, 51, 52, 53, 54, 55, 56, 57, 58, 59, 60, 61, 62, 63, 64, 65, 66, 67, 68, 69, 70, 71, 72, 73, 74, 75, 76, 77, 78, 79, 80, 81, 82, 83, 84, 85, 86, 87, 88, 89, 90, 91, 92, 93, 94, 95, 96, 97, 98, 99, 100, 101, 102, 103, 104, 105, 106, 107, 108, 109, 110, 111, 112, 113, 114, 115, 116, 117, 118, 119, 120, 121, 122, 123, 124, 125, 126, 127, 128, 129, 130, 131, 132, 133, 134, 135, 136, 137, 138, 139, 140, 141, 142, 143, 144, 145, 146, 147, 148, 149, 150, 151, 152, 153, 154, 155, 156, 157, 158, 159, 160, 161, 162, 163, 164, 165], true)
section
theorem dL_law_0 : decode cL_law 0 = .ok (.new 7, 3) := by decide +kernel
theorem dL_law_3 : decode cL_law 3 = .ok (.dup, 1) := by decide +kernel
theorem dL_law_4 : decode cL_law 4 = .ok (.invokespecial 9, 3) := by decide +kernel
theorem dL_law_7 : decode cL_law 7 = .ok (.astore_n 1, 1) := by decide +kernel
theorem dL_law_8 : decode cL_law 8 = .ok (.new 10, 3) := by decide +kernel
theorem dL_law_11 : decode cL_law 11 = .ok (.dup, 1) := by decide +kernel
theorem dL_law_12 : decode cL_law 12 = .ok (.invokespecial 12, 3) := by decide +kernel
theorem dL_law_15 : decode cL_law 15 = .ok (.astore_n 2, 1) := by decide +kernel
theorem dL_law_16 : decode cL_law 16 = .ok (.iconst 0, 1) := by decide +kernel
theorem dL_law_17 : decode cL_law 17 = .ok (.istore_n 3, 1) := by decide +kernel
theorem dL_law_18 : decode cL_law 18 = .ok (.iload_n 3, 1) := by decide +kernel
theorem dL_law_19 : decode cL_law 19 = .ok (.aload_n 0, 1) := by decide +kernel
theorem dL_law_20 : decode cL_law 20 = .ok (.arraylength, 1) := by decide +kernel
theorem dL_law_21 : decode cL_law 21 = .ok (.bipush 9, 2) := by decide +kernel
theorem dL_law_23 : decode cL_law 23 = .ok (.isub, 1) := by decide +kernel
theorem dL_law_24 : decode cL_law 24 = .ok (.if_icmp .gt 2020, 3) := by decide +kernel
theorem dL_law_27 : decode cL_law 27 = .ok (.aload_n 0, 1) := by decide +kernel
theorem dL_law_28 : decode cL_law 28 = .ok (.iload_n 3, 1) := by decide +kernel
theorem dL_law_29 : decode cL_law 29 = .ok (.iaload, 1) := by decide +kernel
theorem dL_law_30 : decode cL_law 30 = .ok (.bipush 63, 2) := by decide +kernel
theorem dL_law_32 : decode cL_law 32 = .ok (.iand, 1) := by decide +kernel
theorem dL_law_33 : decode cL_law 33 = .ok (.tableswitch 2005 0 43 #[191, 254, 277, 310, 323, 376, 419, 494, 547, 646, 699, 752, 795, 848, 901, 944, 977, 1000, 1013, 1036, 1059, 1082, 1115, 1202, 1245, 1278, 1321, 1374, 1427, 1450, 1493, 1526, 1569, 1602, 1645, 1698, 1731, 1774, 1827, 1880, 1923, 1946, 1969, 1992], 191) := by decide +kernel
theorem dL_law_224 : decode cL_law 224 = .ok (.aload_n 1, 1) := by decide +kernel
theorem dL_law_225 : decode cL_law 225 = .ok (.aload_n 0, 1) := by decide +kernel
theorem dL_law_226 : decode cL_law 226 = .ok (.iload_n 3, 1) := by decide +kernel
theorem dL_law_227 : decode cL_law 227 = .ok (.iconst 1, 1) := by decide +kernel
theorem dL_law_228 : decode cL_law 228 = .ok (.iadd, 1) := by decide +kernel
theorem dL_law_229 : decode cL_law 229 = .ok (.iaload, 1) := by decide +kernel
theorem dL_law_230 : decode cL_law 230 = .ok (.aload_n 0, 1) := by decide +kernel
theorem dL_law_231 : decode cL_law 231 = .ok (.iload_n 3, 1) := by decide +kernel
theorem dL_law_232 : decode cL_law 232 = .ok (.iconst 2, 1) := by decide +kernel
theorem dL_law_233 : decode cL_law 233 = .ok (.iadd, 1) := by decide +kernel
theorem dL_law_234 : decode cL_law 234 = .ok (.iaload, 1) := by decide +kernel
theorem dL_law_235 : decode cL_law 235 = .ok (.aload_n 0, 1) := by decide +kernel
theorem dL_law_236 : decode cL_law 236 = .ok (.iload_n 3, 1) := by decide +kernel
theorem dL_law_237 : decode cL_law 237 = .ok (.iconst 3, 1) := by decide +kernel
theorem dL_law_238 : decode cL_law 238 = .ok (.iadd, 1) := by decide +kernel
theorem dL_law_239 : decode cL_law 239 = .ok (.iaload, 1) := by decide +kernel
theorem dL_law_240 : decode cL_law 240 = .ok (.aload_n 0, 1) := by decide +kernel
theorem dL_law_241 : decode cL_law 241 = .ok (.iload_n 3, 1) := by decide +kernel
theorem dL_law_242 : decode cL_law 242 = .ok (.iconst 4, 1) := by decide +kernel
theorem dL_law_243 : decode cL_law 243 = .ok (.iadd, 1) := by decide +kernel
theorem dL_law_244 : decode cL_law 244 = .ok (.iaload, 1) := by decide +kernel
theorem dL_law_245 : decode cL_law 245 = .ok (.aload_n 0, 1) := by decide +kernel
theorem dL_law_246 : decode cL_law 246 = .ok (.iload_n 3, 1) := by decide +kernel
theorem dL_law_247 : decode cL_law 247 = .ok (.iconst 5, 1) := by decide +kernel
theorem dL_law_248 : decode cL_law 248 = .ok (.iadd, 1) := by decide +kernel
theorem dL_law_249 : decode cL_law 249 = .ok (.iaload, 1) := by decide +kernel
theorem dL_law_250 : decode cL_law 250 = .ok (.invokevirtual 13, 3) := by decide +kernel
theorem dL_law_253 : decode cL_law 253 = .ok (.aload_n 2, 1) := by decide +kernel
theorem dL_law_254 : decode cL_law 254 = .ok (.aload_n 0, 1) := by decide +kernel
theorem dL_law_255 : decode cL_law 255 = .ok (.iload_n 3, 1) := by decide +kernel
theorem dL_law_256 : decode cL_law 256 = .ok (.iconst 1, 1) := by decide +kernel
theorem dL_law_257 : decode cL_law 257 = .ok (.iadd, 1) := by decide +kernel
theorem dL_law_258 : decode cL_law 258 = .ok (.iaload, 1) := by decide +kernel
theorem dL_law_259 : decode cL_law 259 = .ok (.aload_n 0, 1) := by decide +kernel
theorem dL_law_260 : decode cL_law 260 = .ok (.iload_n 3, 1) := by decide +kernel
theorem dL_law_261 : decode cL_law 261 = .ok (.iconst 2, 1) := by decide +kernel
theorem dL_law_262 : decode cL_law 262 = .ok (.iadd, 1) := by decide +kernel
theorem dL_law_263 : decode cL_law 263 = .ok (.iaload, 1) := by decide +kernel
theorem dL_law_264 : decode cL_law 264 = .ok (.aload_n 0, 1) := by decide +kernel
theorem dL_law_265 : decode cL_law 265 = .ok (.iload_n 3, 1) := by decide +kernel
theorem dL_law_266 : decode cL_law 266 = .ok (.iconst 3, 1) := by decide +kernel
theorem dL_law_267 : decode cL_law 267 = .ok (.iadd, 1) := by decide +kernel
theorem dL_law_268 : decode cL_law 268 = .ok (.iaload, 1) := by decide +kernel
theorem dL_law_269 : decode cL_law 269 = .ok (.aload_n 0, 1) := by decide +kernel
theorem dL_law_270 : decode cL_law 270 = .ok (.iload_n 3, 1) := by decide +kernel
theorem dL_law_271 : decode cL_law 271 = .ok (.iconst 4, 1) := by decide +kernel
theorem dL_law_272 : decode cL_law 272 = .ok (.iadd, 1) := by decide +kernel
theorem dL_law_273 : decode cL_law 273 = .ok (.iaload, 1) := by decide +kernel
theorem dL_law_274 : decode cL_law 274 = .ok (.aload_n 0, 1) := by decide +kernel
theorem dL_law_275 : decode cL_law 275 = .ok (.iload_n 3, 1) := by decide +kernel
theorem dL_law_276 : decode cL_law 276 = .ok (.iconst 5, 1) := by decide +kernel
theorem dL_law_277 : decode cL_law 277 = .ok (.iadd, 1) := by decide +kernel
theorem dL_law_278 : decode cL_law 278 = .ok (.iaload, 1) := by decide +kernel
theorem dL_law_279 : decode cL_law 279 = .ok (.invokevirtual 17, 3) := by decide +kernel
theorem dL_law_282 : decode cL_law 282 = .ok (.if_icmp .eq 1756, 3) := by decide +kernel
theorem dL_law_285 : decode cL_law 285 = .ok (.iconst 0, 1) := by decide +kernel
theorem dL_law_286 : decode cL_law 286 = .ok (.ireturn, 1) := by decide +kernel
theorem dL_law_287 : decode cL_law 287 = .ok (.aload_n 1, 1) := by decide +kernel
theorem dL_law_288 : decode cL_law 288 = .ok (.aload_n 0, 1) := by decide +kernel
theorem dL_law_289 : decode cL_law 289 = .ok (.iload_n 3, 1) := by decide +kernel
theorem dL_law_290 : decode cL_law 290 = .ok (.iconst 1, 1) := by decide +kernel
theorem dL_law_291 : decode cL_law 291 = .ok (.iadd, 1) := by decide +kernel
theorem dL_law_292 : decode cL_law 292 = .ok (.iaload, 1) := by decide +kernel
theorem dL_law_293 : decode cL_law 293 = .ok (.invokevirtual 18, 3) := by decide +kernel
theorem dL_law_296 : decode cL_law 296 = .ok (.aload_n 2, 1) := by decide +kernel
theorem dL_law_297 : decode cL_law 297 = .ok (.aload_n 0, 1) := by decide +kernel
theorem dL_law_298 : decode cL_law 298 = .ok (.iload_n 3, 1) := by decide +kernel
theorem dL_law_299 : decode cL_law 299 = .ok (.iconst 1, 1) := by decide +kernel
theorem dL_law_300 : decode cL_law 300 = .ok (.iadd, 1) := by decide +kernel
theorem dL_law_301 : decode cL_law 301 = .ok (.iaload, 1) := by decide +kernel
theorem dL_law_302 : decode cL_law 302 = .ok (.invokevirtual 22, 3) := by decide +kernel
theorem dL_law_305 : decode cL_law 305 = .ok (.if_icmp .eq 1733, 3) := by decide +kernel
theorem dL_law_308 : decode cL_law 308 = .ok (.iconst 0, 1) := by decide +kernel
theorem dL_law_309 : decode cL_law 309 = .ok (.ireturn, 1) := by decide +kernel
theorem dL_law_310 : decode cL_law 310 = .ok (.aload_n 1, 1) := by decide +kernel
theorem dL_law_311 : decode cL_law 311 = .ok (.aload_n 0, 1) := by decide +kernel
theorem dL_law_312 : decode cL_law 312 = .ok (.iload_n 3, 1) := by decide +kernel
theorem dL_law_313 : decode cL_law 313 = .ok (.iconst 1, 1) := by decide +kernel
theorem dL_law_314 : decode cL_law 314 = .ok (.iadd, 1) := by decide +kernel
theorem dL_law_315 : decode cL_law 315 = .ok (.iaload, 1) := by decide +kernel
theorem dL_law_316 : decode cL_law 316 = .ok (.aload_n 0, 1) := by decide +kernel
theorem dL_law_317 : decode cL_law 317 = .ok (.iload_n 3, 1) := by decide +kernel
theorem dL_law_318 : decode cL_law 318 = .ok (.iconst 2, 1) := by decide +kernel
theorem dL_law_319 : decode cL_law 319 = .ok (.iadd, 1) := by decide +kernel
theorem dL_law_320 : decode cL_law 320 = .ok (.iaload, 1) := by decide +kernel
theorem dL_law_321 : decode cL_law 321 = .ok (.invokevirtual 23, 3) := by decide +kernel
theorem dL_law_324 : decode cL_law 324 = .ok (.aload_n 2, 1) := by decide +kernel
theorem dL_law_325 : decode cL_law 325 = .ok (.aload_n 0, 1) := by decide +kernel
theorem dL_law_326 : decode cL_law 326 = .ok (.iload_n 3, 1) := by decide +kernel
theorem dL_law_327 : decode cL_law 327 = .ok (.iconst 1, 1) := by decide +kernel
theorem dL_law_328 : decode cL_law 328 = .ok (.iadd, 1) := by decide +kernel
theorem dL_law_329 : decode cL_law 329 = .ok (.iaload, 1) := by decide +kernel
theorem dL_law_330 : decode cL_law 330 = .ok (.aload_n 0, 1) := by decide +kernel
theorem dL_law_331 : decode cL_law 331 = .ok (.iload_n 3, 1) := by decide +kernel
theorem dL_law_332 : decode cL_law 332 = .ok (.iconst 2, 1) := by decide +kernel
theorem dL_law_333 : decode cL_law 333 = .ok (.iadd, 1) := by decide +kernel
theorem dL_law_334 : decode cL_law 334 = .ok (.iaload, 1) := by decide +kernel
theorem dL_law_335 : decode cL_law 335 = .ok (.invokevirtual 27, 3) := by decide +kernel
theorem dL_law_338 : decode cL_law 338 = .ok (.if_icmp .eq 1700, 3) := by decide +kernel
theorem dL_law_341 : decode cL_law 341 = .ok (.iconst 0, 1) := by decide +kernel
theorem dL_law_342 : decode cL_law 342 = .ok (.ireturn, 1) := by decide +kernel
theorem dL_law_343 : decode cL_law 343 = .ok (.aload_n 1, 1) := by decide +kernel
theorem dL_law_344 : decode cL_law 344 = .ok (.invokevirtual 28, 3) := by decide +kernel
theorem dL_law_347 : decode cL_law 347 = .ok (.aload_n 2, 1) := by decide +kernel
theorem dL_law_348 : decode cL_law 348 = .ok (.invokevirtual 32, 3) := by decide +kernel
theorem dL_law_351 : decode cL_law 351 = .ok (.if_icmp .eq 1687, 3) := by decide +kernel
theorem dL_law_354 : decode cL_law 354 = .ok (.iconst 0, 1) := by decide +kernel
theorem dL_law_355 : decode cL_law 355 = .ok (.ireturn, 1) := by decide +kernel
theorem dL_law_356 : decode cL_law 356 = .ok (.aload_n 1, 1) := by decide +kernel
theorem dL_law_357 : decode cL_law 357 = .ok (.aload_n 0, 1) := by decide +kernel
theorem dL_law_358 : decode cL_law 358 = .ok (.iload_n 3, 1) := by decide +kernel
theorem dL_law_359 : decode cL_law 359 = .ok (.iconst 1, 1) := by decide +kernel
theorem dL_law_360 : decode cL_law 360 = .ok (.iadd, 1) := by decide +kernel
theorem dL_law_361 : decode cL_law 361 = .ok (.iaload, 1) := by decide +kernel
theorem dL_law_362 : decode cL_law 362 = .ok (.aload_n 0, 1) := by decide +kernel
theorem dL_law_363 : decode cL_law 363 = .ok (.iload_n 3, 1) := by decide +kernel
theorem dL_law_364 : decode cL_law 364 = .ok (.iconst 2, 1) := by decide +kernel
theorem dL_law_365 : decode cL_law 365 = .ok (.iadd, 1) := by decide +kernel
theorem dL_law_366 : decode cL_law 366 = .ok (.iaload, 1) := by decide +kernel
theorem dL_law_367 : decode cL_law 367 = .ok (.aload_n 0, 1) := by decide +kernel
theorem dL_law_368 : decode cL_law 368 = .ok (.iload_n 3, 1) := by decide +kernel
theorem dL_law_369 : decode cL_law 369 = .ok (.iconst 3, 1) := by decide +kernel
theorem dL_law_370 : decode cL_law 370 = .ok (.iadd, 1) := by decide +kernel
theorem dL_law_371 : decode cL_law 371 = .ok (.iaload, 1) := by decide +kernel
theorem dL_law_372 : decode cL_law 372 = .ok (.aload_n 0, 1) := by decide +kernel
theorem dL_law_373 : decode cL_law 373 = .ok (.iload_n 3, 1) := by decide +kernel
theorem dL_law_374 : decode cL_law 374 = .ok (.iconst 4, 1) := by decide +kernel
theorem dL_law_375 : decode cL_law 375 = .ok (.iadd, 1) := by decide +kernel
theorem dL_law_376 : decode cL_law 376 = .ok (.iaload, 1) := by decide +kernel
theorem dL_law_377 : decode cL_law 377 = .ok (.invokevirtual 33, 3) := by decide +kernel
theorem dL_law_380 : decode cL_law 380 = .ok (.aload_n 2, 1) := by decide +kernel
theorem dL_law_381 : decode cL_law 381 = .ok (.aload_n 0, 1) := by decide +kernel
theorem dL_law_382 : decode cL_law 382 = .ok (.iload_n 3, 1) := by decide +kernel
theorem dL_law_383 : decode cL_law 383 = .ok (.iconst 1, 1) := by decide +kernel
theorem dL_law_384 : decode cL_law 384 = .ok (.iadd, 1) := by decide +kernel
theorem dL_law_385 : decode cL_law 385 = .ok (.iaload, 1) := by decide +kernel
theorem dL_law_386 : decode cL_law 386 = .ok (.aload_n 0, 1) := by decide +kernel
theorem dL_law_387 : decode cL_law 387 = .ok (.iload_n 3, 1) := by decide +kernel
theorem dL_law_388 : decode cL_law 388 = .ok (.iconst 2, 1) := by decide +kernel
theorem dL_law_389 : decode cL_law 389 = .ok (.iadd, 1) := by decide +kernel
theorem dL_law_390 : decode cL_law 390 = .ok (.iaload, 1) := by decide +kernel
theorem dL_law_391 : decode cL_law 391 = .ok (.aload_n 0, 1) := by decide +kernel
theorem dL_law_392 : decode cL_law 392 = .ok (.iload_n 3, 1) := by decide +kernel
theorem dL_law_393 : decode cL_law 393 = .ok (.iconst 3, 1) := by decide +kernel
theorem dL_law_394 : decode cL_law 394 = .ok (.iadd, 1) := by decide +kernel
theorem dL_law_395 : decode cL_law 395 = .ok (.iaload, 1) := by decide +kernel
theorem dL_law_396 : decode cL_law 396 = .ok (.aload_n 0, 1) := by decide +kernel
theorem dL_law_397 : decode cL_law 397 = .ok (.iload_n 3, 1) := by decide +kernel
theorem dL_law_398 : decode cL_law 398 = .ok (.iconst 4, 1) := by decide +kernel
theorem dL_law_399 : decode cL_law 399 = .ok (.iadd, 1) := by decide +kernel
theorem dL_law_400 : decode cL_law 400 = .ok (.iaload, 1) := by decide +kernel
theorem dL_law_401 : decode cL_law 401 = .ok (.invokevirtual 37, 3) := by decide +kernel
theorem dL_law_404 : decode cL_law 404 = .ok (.if_icmp .eq 1634, 3) := by decide +kernel
theorem dL_law_407 : decode cL_law 407 = .ok (.iconst 0, 1) := by decide +kernel
theorem dL_law_408 : decode cL_law 408 = .ok (.ireturn, 1) := by decide +kernel
theorem dL_law_409 : decode cL_law 409 = .ok (.aload_n 1, 1) := by decide +kernel
theorem dL_law_410 : decode cL_law 410 = .ok (.aload_n 0, 1) := by decide +kernel
theorem dL_law_411 : decode cL_law 411 = .ok (.iload_n 3, 1) := by decide +kernel
theorem dL_law_412 : decode cL_law 412 = .ok (.iconst 1, 1) := by decide +kernel
theorem dL_law_413 : decode cL_law 413 = .ok (.iadd, 1) := by decide +kernel
theorem dL_law_414 : decode cL_law 414 = .ok (.iaload, 1) := by decide +kernel
theorem dL_law_415 : decode cL_law 415 = .ok (.aload_n 0, 1) := by decide +kernel
theorem dL_law_416 : decode cL_law 416 = .ok (.iload_n 3, 1) := by decide +kernel
theorem dL_law_417 : decode cL_law 417 = .ok (.iconst 2, 1) := by decide +kernel
theorem dL_law_418 : decode cL_law 418 = .ok (.iadd, 1) := by decide +kernel
theorem dL_law_419 : decode cL_law 419 = .ok (.iaload, 1) := by decide +kernel
theorem dL_law_420 : decode cL_law 420 = .ok (.aload_n 0, 1) := by decide +kernel
theorem dL_law_421 : decode cL_law 421 = .ok (.iload_n 3, 1) := by decide +kernel
theorem dL_law_422 : decode cL_law 422 = .ok (.iconst 3, 1) := by decide +kernel
theorem dL_law_423 : decode cL_law 423 = .ok (.iadd, 1) := by decide +kernel
theorem dL_law_424 : decode cL_law 424 = .ok (.iaload, 1) := by decide +kernel
theorem dL_law_425 : decode cL_law 425 = .ok (.invokevirtual 38, 3) := by decide +kernel
theorem dL_law_428 : decode cL_law 428 = .ok (.aload_n 2, 1) := by decide +kernel
theorem dL_law_429 : decode cL_law 429 = .ok (.aload_n 0, 1) := by decide +kernel
theorem dL_law_430 : decode cL_law 430 = .ok (.iload_n 3, 1) := by decide +kernel
theorem dL_law_431 : decode cL_law 431 = .ok (.iconst 1, 1) := by decide +kernel
theorem dL_law_432 : decode cL_law 432 = .ok (.iadd, 1) := by decide +kernel
theorem dL_law_433 : decode cL_law 433 = .ok (.iaload, 1) := by decide +kernel
theorem dL_law_434 : decode cL_law 434 = .ok (.aload_n 0, 1) := by decide +kernel
theorem dL_law_435 : decode cL_law 435 = .ok (.iload_n 3, 1) := by decide +kernel
theorem dL_law_436 : decode cL_law 436 = .ok (.iconst 2, 1) := by decide +kernel
theorem dL_law_437 : decode cL_law 437 = .ok (.iadd, 1) := by decide +kernel
theorem dL_law_438 : decode cL_law 438 = .ok (.iaload, 1) := by decide +kernel
theorem dL_law_439 : decode cL_law 439 = .ok (.aload_n 0, 1) := by decide +kernel
theorem dL_law_440 : decode cL_law 440 = .ok (.iload_n 3, 1) := by decide +kernel
theorem dL_law_441 : decode cL_law 441 = .ok (.iconst 3, 1) := by decide +kernel
theorem dL_law_442 : decode cL_law 442 = .ok (.iadd, 1) := by decide +kernel
theorem dL_law_443 : decode cL_law 443 = .ok (.iaload, 1) := by decide +kernel
theorem dL_law_444 : decode cL_law 444 = .ok (.invokevirtual 42, 3) := by decide +kernel
theorem dL_law_447 : decode cL_law 447 = .ok (.if_icmp .eq 1591, 3) := by decide +kernel
theorem dL_law_450 : decode cL_law 450 = .ok (.iconst 0, 1) := by decide +kernel
theorem dL_law_451 : decode cL_law 451 = .ok (.ireturn, 1) := by decide +kernel
theorem dL_law_452 : decode cL_law 452 = .ok (.aload_n 1, 1) := by decide +kernel
theorem dL_law_453 : decode cL_law 453 = .ok (.aload_n 0, 1) := by decide +kernel
theorem dL_law_454 : decode cL_law 454 = .ok (.iload_n 3, 1) := by decide +kernel
theorem dL_law_455 : decode cL_law 455 = .ok (.iconst 1, 1) := by decide +kernel
theorem dL_law_456 : decode cL_law 456 = .ok (.iadd, 1) := by decide +kernel
theorem dL_law_457 : decode cL_law 457 = .ok (.iaload, 1) := by decide +kernel
theorem dL_law_458 : decode cL_law 458 = .ok (.aload_n 0, 1) := by decide +kernel
theorem dL_law_459 : decode cL_law 459 = .ok (.iload_n 3, 1) := by decide +kernel
theorem dL_law_460 : decode cL_law 460 = .ok (.iconst 2, 1) := by decide +kernel
theorem dL_law_461 : decode cL_law 461 = .ok (.iadd, 1) := by decide +kernel
theorem dL_law_462 : decode cL_law 462 = .ok (.iaload, 1) := by decide +kernel
theorem dL_law_463 : decode cL_law 463 = .ok (.aload_n 0, 1) := by decide +kernel
theorem dL_law_464 : decode cL_law 464 = .ok (.iload_n 3, 1) := by decide +kernel
theorem dL_law_465 : decode cL_law 465 = .ok (.iconst 3, 1) := by decide +kernel
theorem dL_law_466 : decode cL_law 466 = .ok (.iadd, 1) := by decide +kernel
theorem dL_law_467 : decode cL_law 467 = .ok (.iaload, 1) := by decide +kernel
theorem dL_law_468 : decode cL_law 468 = .ok (.aload_n 0, 1) := by decide +kernel
theorem dL_law_469 : decode cL_law 469 = .ok (.iload_n 3, 1) := by decide +kernel
theorem dL_law_470 : decode cL_law 470 = .ok (.iconst 4, 1) := by decide +kernel
theorem dL_law_471 : decode cL_law 471 = .ok (.iadd, 1) := by decide +kernel
theorem dL_law_472 : decode cL_law 472 = .ok (.iaload, 1) := by decide +kernel
theorem dL_law_473 : decode cL_law 473 = .ok (.aload_n 0, 1) := by decide +kernel
theorem dL_law_474 : decode cL_law 474 = .ok (.iload_n 3, 1) := by decide +kernel
theorem dL_law_475 : decode cL_law 475 = .ok (.iconst 5, 1) := by decide +kernel
theorem dL_law_476 : decode cL_law 476 = .ok (.iadd, 1) := by decide +kernel
theorem dL_law_477 : decode cL_law 477 = .ok (.iaload, 1) := by decide +kernel
theorem dL_law_478 : decode cL_law 478 = .ok (.aload_n 0, 1) := by decide +kernel
theorem dL_law_479 : decode cL_law 479 = .ok (.iload_n 3, 1) := by decide +kernel
theorem dL_law_480 : decode cL_law 480 = .ok (.bipush 6, 2) := by decide +kernel
theorem dL_law_482 : decode cL_law 482 = .ok (.iadd, 1) := by decide +kernel
theorem dL_law_483 : decode cL_law 483 = .ok (.iaload, 1) := by decide +kernel
theorem dL_law_484 : decode cL_law 484 = .ok (.invokevirtual 43, 3) := by decide +kernel
theorem dL_law_487 : decode cL_law 487 = .ok (.aload_n 2, 1) := by decide +kernel
theorem dL_law_488 : decode cL_law 488 = .ok (.aload_n 0, 1) := by decide +kernel
theorem dL_law_489 : decode cL_law 489 = .ok (.iload_n 3, 1) := by decide +kernel
theorem dL_law_490 : decode cL_law 490 = .ok (.iconst 1, 1) := by decide +kernel
theorem dL_law_491 : decode cL_law 491 = .ok (.iadd, 1) := by decide +kernel
theorem dL_law_492 : decode cL_law 492 = .ok (.iaload, 1) := by decide +kernel
theorem dL_law_493 : decode cL_law 493 = .ok (.aload_n 0, 1) := by decide +kernel
theorem dL_law_494 : decode cL_law 494 = .ok (.iload_n 3, 1) := by decide +kernel
theorem dL_law_495 : decode cL_law 495 = .ok (.iconst 2, 1) := by decide +kernel
theorem dL_law_496 : decode cL_law 496 = .ok (.iadd, 1) := by decide +kernel
theorem dL_law_497 : decode cL_law 497 = .ok (.iaload, 1) := by decide +kernel
theorem dL_law_498 : decode cL_law 498 = .ok (.aload_n 0, 1) := by decide +kernel
theorem dL_law_499 : decode cL_law 499 = .ok (.iload_n 3, 1) := by decide +kernel
theorem dL_law_500 : decode cL_law 500 = .ok (.iconst 3, 1) := by decide +kernel
theorem dL_law_501 : decode cL_law 501 = .ok (.iadd, 1) := by decide +kernel
theorem dL_law_502 : decode cL_law 502 = .ok (.iaload, 1) := by decide +kernel
theorem dL_law_503 : decode cL_law 503 = .ok (.aload_n 0, 1) := by decide +kernel
theorem dL_law_504 : decode cL_law 504 = .ok (.iload_n 3, 1) := by decide +kernel
theorem dL_law_505 : decode cL_law 505 = .ok (.iconst 4, 1) := by decide +kernel
theorem dL_law_506 : decode cL_law 506 = .ok (.iadd, 1) := by decide +kernel
theorem dL_law_507 : decode cL_law 507 = .ok (.iaload, 1) := by decide +kernel
theorem dL_law_508 : decode cL_law 508 = .ok (.aload_n 0, 1) := by decide +kernel
theorem dL_law_509 : decode cL_law 509 = .ok (.iload_n 3, 1) := by decide +kernel
theorem dL_law_510 : decode cL_law 510 = .ok (.iconst 5, 1) := by decide +kernel
theorem dL_law_511 : decode cL_law 511 = .ok (.iadd, 1) := by decide +kernel
theorem dL_law_512 : decode cL_law 512 = .ok (.iaload, 1) := by decide +kernel
theorem dL_law_513 : decode cL_law 513 = .ok (.aload_n 0, 1) := by decide +kernel
theorem dL_law_514 : decode cL_law 514 = .ok (.iload_n 3, 1) := by decide +kernel
theorem dL_law_515 : decode cL_law 515 = .ok (.bipush 6, 2) := by decide +kernel
theorem dL_law_517 : decode cL_law 517 = .ok (.iadd, 1) := by decide +kernel
theorem dL_law_518 : decode cL_law 518 = .ok (.iaload, 1) := by decide +kernel
theorem dL_law_519 : decode cL_law 519 = .ok (.invokevirtual 47, 3) := by decide +kernel
theorem dL_law_522 : decode cL_law 522 = .ok (.if_icmp .eq 1516, 3) := by decide +kernel
theorem dL_law_525 : decode cL_law 525 = .ok (.iconst 0, 1) := by decide +kernel
theorem dL_law_526 : decode cL_law 526 = .ok (.ireturn, 1) := by decide +kernel
theorem dL_law_527 : decode cL_law 527 = .ok (.aload_n 1, 1) := by decide +kernel
theorem dL_law_528 : decode cL_law 528 = .ok (.aload_n 0, 1) := by decide +kernel
theorem dL_law_529 : decode cL_law 529 = .ok (.iload_n 3, 1) := by decide +kernel
theorem dL_law_530 : decode cL_law 530 = .ok (.iconst 1, 1) := by decide +kernel
theorem dL_law_531 : decode cL_law 531 = .ok (.iadd, 1) := by decide +kernel
theorem dL_law_532 : decode cL_law 532 = .ok (.iaload, 1) := by decide +kernel
theorem dL_law_533 : decode cL_law 533 = .ok (.aload_n 0, 1) := by decide +kernel
theorem dL_law_534 : decode cL_law 534 = .ok (.iload_n 3, 1) := by decide +kernel
theorem dL_law_535 : decode cL_law 535 = .ok (.iconst 2, 1) := by decide +kernel
theorem dL_law_536 : decode cL_law 536 = .ok (.iadd, 1) := by decide +kernel
theorem dL_law_537 : decode cL_law 537 = .ok (.iaload, 1) := by decide +kernel
theorem dL_law_538 : decode cL_law 538 = .ok (.aload_n 0, 1) := by decide +kernel
theorem dL_law_539 : decode cL_law 539 = .ok (.iload_n 3, 1) := by decide +kernel
theorem dL_law_540 : decode cL_law 540 = .ok (.iconst 3, 1) := by decide +kernel
theorem dL_law_541 : decode cL_law 541 = .ok (.iadd, 1) := by decide +kernel
theorem dL_law_542 : decode cL_law 542 = .ok (.iaload, 1) := by decide +kernel
theorem dL_law_543 : decode cL_law 543 = .ok (.aload_n 0, 1) := by decide +kernel
theorem dL_law_544 : decode cL_law 544 = .ok (.iload_n 3, 1) := by decide +kernel
theorem dL_law_545 : decode cL_law 545 = .ok (.iconst 4, 1) := by decide +kernel
theorem dL_law_546 : decode cL_law 546 = .ok (.iadd, 1) := by decide +kernel
theorem dL_law_547 : decode cL_law 547 = .ok (.iaload, 1) := by decide +kernel
theorem dL_law_548 : decode cL_law 548 = .ok (.invokevirtual 48, 3) := by decide +kernel
theorem dL_law_551 : decode cL_law 551 = .ok (.aload_n 2, 1) := by decide +kernel
theorem dL_law_552 : decode cL_law 552 = .ok (.aload_n 0, 1) := by decide +kernel
theorem dL_law_553 : decode cL_law 553 = .ok (.iload_n 3, 1) := by decide +kernel
theorem dL_law_554 : decode cL_law 554 = .ok (.iconst 1, 1) := by decide +kernel
theorem dL_law_555 : decode cL_law 555 = .ok (.iadd, 1) := by decide +kernel
theorem dL_law_556 : decode cL_law 556 = .ok (.iaload, 1) := by decide +kernel
theorem dL_law_557 : decode cL_law 557 = .ok (.aload_n 0, 1) := by decide +kernel
theorem dL_law_558 : decode cL_law 558 = .ok (.iload_n 3, 1) := by decide +kernel
theorem dL_law_559 : decode cL_law 559 = .ok (.iconst 2, 1) := by decide +kernel
theorem dL_law_560 : decode cL_law 560 = .ok (.iadd, 1) := by decide +kernel
theorem dL_law_561 : decode cL_law 561 = .ok (.iaload, 1) := by decide +kernel
theorem dL_law_562 : decode cL_law 562 = .ok (.aload_n 0, 1) := by decide +kernel
theorem dL_law_563 : decode cL_law 563 = .ok (.iload_n 3, 1) := by decide +kernel
theorem dL_law_564 : decode cL_law 564 = .ok (.iconst 3, 1) := by decide +kernel
theorem dL_law_565 : decode cL_law 565 = .ok (.iadd, 1) := by decide +kernel
theorem dL_law_566 : decode cL_law 566 = .ok (.iaload, 1) := by decide +kernel
theorem dL_law_567 : decode cL_law 567 = .ok (.aload_n 0, 1) := by decide +kernel
theorem dL_law_568 : decode cL_law 568 = .ok (.iload_n 3, 1) := by decide +kernel
theorem dL_law_569 : decode cL_law 569 = .ok (.iconst 4, 1) := by decide +kernel
theorem dL_law_570 : decode cL_law 570 = .ok (.iadd, 1) := by decide +kernel
theorem dL_law_571 : decode cL_law 571 = .ok (.iaload, 1) := by decide +kernel
theorem dL_law_572 : decode cL_law 572 = .ok (.invokevirtual 51, 3) := by decide +kernel
theorem dL_law_575 : decode cL_law 575 = .ok (.if_icmp .eq 1463, 3) := by decide +kernel
theorem dL_law_578 : decode cL_law 578 = .ok (.iconst 0, 1) := by decide +kernel
theorem dL_law_579 : decode cL_law 579 = .ok (.ireturn, 1) := by decide +kernel
theorem dL_law_580 : decode cL_law 580 = .ok (.aload_n 1, 1) := by decide +kernel
theorem dL_law_581 : decode cL_law 581 = .ok (.aload_n 0, 1) := by decide +kernel
theorem dL_law_582 : decode cL_law 582 = .ok (.iload_n 3, 1) := by decide +kernel
theorem dL_law_583 : decode cL_law 583 = .ok (.iconst 1, 1) := by decide +kernel
theorem dL_law_584 : decode cL_law 584 = .ok (.iadd, 1) := by decide +kernel
theorem dL_law_585 : decode cL_law 585 = .ok (.iaload, 1) := by decide +kernel
theorem dL_law_586 : decode cL_law 586 = .ok (.aload_n 0, 1) := by decide +kernel
theorem dL_law_587 : decode cL_law 587 = .ok (.iload_n 3, 1) := by decide +kernel
theorem dL_law_588 : decode cL_law 588 = .ok (.iconst 2, 1) := by decide +kernel
theorem dL_law_589 : decode cL_law 589 = .ok (.iadd, 1) := by decide +kernel
theorem dL_law_590 : decode cL_law 590 = .ok (.iaload, 1) := by decide +kernel
theorem dL_law_591 : decode cL_law 591 = .ok (.aload_n 0, 1) := by decide +kernel
theorem dL_law_592 : decode cL_law 592 = .ok (.iload_n 3, 1) := by decide +kernel
theorem dL_law_593 : decode cL_law 593 = .ok (.iconst 3, 1) := by decide +kernel
theorem dL_law_594 : decode cL_law 594 = .ok (.iadd, 1) := by decide +kernel
theorem dL_law_595 : decode cL_law 595 = .ok (.iaload, 1) := by decide +kernel
theorem dL_law_596 : decode cL_law 596 = .ok (.aload_n 0, 1) := by decide +kernel
theorem dL_law_597 : decode cL_law 597 = .ok (.iload_n 3, 1) := by decide +kernel
theorem dL_law_598 : decode cL_law 598 = .ok (.iconst 4, 1) := by decide +kernel
theorem dL_law_599 : decode cL_law 599 = .ok (.iadd, 1) := by decide +kernel
theorem dL_law_600 : decode cL_law 600 = .ok (.iaload, 1) := by decide +kernel
theorem dL_law_601 : decode cL_law 601 = .ok (.aload_n 0, 1) := by decide +kernel
theorem dL_law_602 : decode cL_law 602 = .ok (.iload_n 3, 1) := by decide +kernel
theorem dL_law_603 : decode cL_law 603 = .ok (.iconst 5, 1) := by decide +kernel
theorem dL_law_604 : decode cL_law 604 = .ok (.iadd, 1) := by decide +kernel
theorem dL_law_605 : decode cL_law 605 = .ok (.iaload, 1) := by decide +kernel
theorem dL_law_606 : decode cL_law 606 = .ok (.aload_n 0, 1) := by decide +kernel
theorem dL_law_607 : decode cL_law 607 = .ok (.iload_n 3, 1) := by decide +kernel
theorem dL_law_608 : decode cL_law 608 = .ok (.bipush 6, 2) := by decide +kernel
theorem dL_law_610 : decode cL_law 610 = .ok (.iadd, 1) := by decide +kernel
theorem dL_law_611 : decode cL_law 611 = .ok (.iaload, 1) := by decide +kernel
theorem dL_law_612 : decode cL_law 612 = .ok (.aload_n 0, 1) := by decide +kernel
theorem dL_law_613 : decode cL_law 613 = .ok (.iload_n 3, 1) := by decide +kernel
theorem dL_law_614 : decode cL_law 614 = .ok (.bipush 7, 2) := by decide +kernel
theorem dL_law_616 : decode cL_law 616 = .ok (.iadd, 1) := by decide +kernel
theorem dL_law_617 : decode cL_law 617 = .ok (.iaload, 1) := by decide +kernel
theorem dL_law_618 : decode cL_law 618 = .ok (.aload_n 0, 1) := by decide +kernel
theorem dL_law_619 : decode cL_law 619 = .ok (.iload_n 3, 1) := by decide +kernel
theorem dL_law_620 : decode cL_law 620 = .ok (.bipush 8, 2) := by decide +kernel
theorem dL_law_622 : decode cL_law 622 = .ok (.iadd, 1) := by decide +kernel
theorem dL_law_623 : decode cL_law 623 = .ok (.iaload, 1) := by decide +kernel
theorem dL_law_624 : decode cL_law 624 = .ok (.invokevirtual 52, 3) := by decide +kernel
theorem dL_law_627 : decode cL_law 627 = .ok (.aload_n 2, 1) := by decide +kernel
theorem dL_law_628 : decode cL_law 628 = .ok (.aload_n 0, 1) := by decide +kernel
theorem dL_law_629 : decode cL_law 629 = .ok (.iload_n 3, 1) := by decide +kernel
theorem dL_law_630 : decode cL_law 630 = .ok (.iconst 1, 1) := by decide +kernel
theorem dL_law_631 : decode cL_law 631 = .ok (.iadd, 1) := by decide +kernel
theorem dL_law_632 : decode cL_law 632 = .ok (.iaload, 1) := by decide +kernel
theorem dL_law_633 : decode cL_law 633 = .ok (.aload_n 0, 1) := by decide +kernel
theorem dL_law_634 : decode cL_law 634 = .ok (.iload_n 3, 1) := by decide +kernel
theorem dL_law_635 : decode cL_law 635 = .ok (.iconst 2, 1) := by decide +kernel
theorem dL_law_636 : decode cL_law 636 = .ok (.iadd, 1) := by decide +kernel
theorem dL_law_637 : decode cL_law 637 = .ok (.iaload, 1) := by decide +kernel
theorem dL_law_638 : decode cL_law 638 = .ok (.aload_n 0, 1) := by decide +kernel
theorem dL_law_639 : decode cL_law 639 = .ok (.iload_n 3, 1) := by decide +kernel
theorem dL_law_640 : decode cL_law 640 = .ok (.iconst 3, 1) := by decide +kernel
theorem dL_law_641 : decode cL_law 641 = .ok (.iadd, 1) := by decide +kernel
theorem dL_law_642 : decode cL_law 642 = .ok (.iaload, 1) := by decide +kernel
theorem dL_law_643 : decode cL_law 643 = .ok (.aload_n 0, 1) := by decide +kernel
theorem dL_law_644 : decode cL_law 644 = .ok (.iload_n 3, 1) := by decide +kernel
theorem dL_law_645 : decode cL_law 645 = .ok (.iconst 4, 1) := by decide +kernel
theorem dL_law_646 : decode cL_law 646 = .ok (.iadd, 1) := by decide +kernel
theorem dL_law_647 : decode cL_law 647 = .ok (.iaload, 1) := by decide +kernel
theorem dL_law_648 : decode cL_law 648 = .ok (.aload_n 0, 1) := by decide +kernel
theorem dL_law_649 : decode cL_law 649 = .ok (.iload_n 3, 1) := by decide +kernel
theorem dL_law_650 : decode cL_law 650 = .ok (.iconst 5, 1) := by decide +kernel
theorem dL_law_651 : decode cL_law 651 = .ok (.iadd, 1) := by decide +kernel
theorem dL_law_652 : decode cL_law 652 = .ok (.iaload, 1) := by decide +kernel
theorem dL_law_653 : decode cL_law 653 = .ok (.aload_n 0, 1) := by decide +kernel
theorem dL_law_654 : decode cL_law 654 = .ok (.iload_n 3, 1) := by decide +kernel
theorem dL_law_655 : decode cL_law 655 = .ok (.bipush 6, 2) := by decide +kernel
theorem dL_law_657 : decode cL_law 657 = .ok (.iadd, 1) := by decide +kernel
theorem dL_law_658 : decode cL_law 658 = .ok (.iaload, 1) := by decide +kernel
theorem dL_law_659 : decode cL_law 659 = .ok (.aload_n 0, 1) := by decide +kernel
theorem dL_law_660 : decode cL_law 660 = .ok (.iload_n 3, 1) := by decide +kernel
theorem dL_law_661 : decode cL_law 661 = .ok (.bipush 7, 2) := by decide +kernel
theorem dL_law_663 : decode cL_law 663 = .ok (.iadd, 1) := by decide +kernel
theorem dL_law_664 : decode cL_law 664 = .ok (.iaload, 1) := by decide +kernel
theorem dL_law_665 : decode cL_law 665 = .ok (.aload_n 0, 1) := by decide +kernel
theorem dL_law_666 : decode cL_law 666 = .ok (.iload_n 3, 1) := by decide +kernel
theorem dL_law_667 : decode cL_law 667 = .ok (.bipush 8, 2) := by decide +kernel
theorem dL_law_669 : decode cL_law 669 = .ok (.iadd, 1) := by decide +kernel
theorem dL_law_670 : decode cL_law 670 = .ok (.iaload, 1) := by decide +kernel
theorem dL_law_671 : decode cL_law 671 = .ok (.invokevirtual 56, 3) := by decide +kernel
theorem dL_law_674 : decode cL_law 674 = .ok (.if_icmp .eq 1364, 3) := by decide +kernel
theorem dL_law_677 : decode cL_law 677 = .ok (.iconst 0, 1) := by decide +kernel
theorem dL_law_678 : decode cL_law 678 = .ok (.ireturn, 1) := by decide +kernel
theorem dL_law_679 : decode cL_law 679 = .ok (.aload_n 1, 1) := by decide +kernel
theorem dL_law_680 : decode cL_law 680 = .ok (.aload_n 0, 1) := by decide +kernel
theorem dL_law_681 : decode cL_law 681 = .ok (.iload_n 3, 1) := by decide +kernel
theorem dL_law_682 : decode cL_law 682 = .ok (.iconst 1, 1) := by decide +kernel
theorem dL_law_683 : decode cL_law 683 = .ok (.iadd, 1) := by decide +kernel
theorem dL_law_684 : decode cL_law 684 = .ok (.iaload, 1) := by decide +kernel
theorem dL_law_685 : decode cL_law 685 = .ok (.aload_n 0, 1) := by decide +kernel
theorem dL_law_686 : decode cL_law 686 = .ok (.iload_n 3, 1) := by decide +kernel
theorem dL_law_687 : decode cL_law 687 = .ok (.iconst 2, 1) := by decide +kernel
theorem dL_law_688 : decode cL_law 688 = .ok (.iadd, 1) := by decide +kernel
theorem dL_law_689 : decode cL_law 689 = .ok (.iaload, 1) := by decide +kernel
theorem dL_law_690 : decode cL_law 690 = .ok (.aload_n 0, 1) := by decide +kernel
theorem dL_law_691 : decode cL_law 691 = .ok (.iload_n 3, 1) := by decide +kernel
theorem dL_law_692 : decode cL_law 692 = .ok (.iconst 3, 1) := by decide +kernel
theorem dL_law_693 : decode cL_law 693 = .ok (.iadd, 1) := by decide +kernel
theorem dL_law_694 : decode cL_law 694 = .ok (.iaload, 1) := by decide +kernel
theorem dL_law_695 : decode cL_law 695 = .ok (.aload_n 0, 1) := by decide +kernel
theorem dL_law_696 : decode cL_law 696 = .ok (.iload_n 3, 1) := by decide +kernel
theorem dL_law_697 : decode cL_law 697 = .ok (.iconst 4, 1) := by decide +kernel
theorem dL_law_698 : decode cL_law 698 = .ok (.iadd, 1) := by decide +kernel
theorem dL_law_699 : decode cL_law 699 = .ok (.iaload, 1) := by decide +kernel
theorem dL_law_700 : decode cL_law 700 = .ok (.invokevirtual 57, 3) := by decide +kernel
theorem dL_law_703 : decode cL_law 703 = .ok (.aload_n 2, 1) := by decide +kernel
theorem dL_law_704 : decode cL_law 704 = .ok (.aload_n 0, 1) := by decide +kernel
theorem dL_law_705 : decode cL_law 705 = .ok (.iload_n 3, 1) := by decide +kernel
theorem dL_law_706 : decode cL_law 706 = .ok (.iconst 1, 1) := by decide +kernel
theorem dL_law_707 : decode cL_law 707 = .ok (.iadd, 1) := by decide +kernel
theorem dL_law_708 : decode cL_law 708 = .ok (.iaload, 1) := by decide +kernel
theorem dL_law_709 : decode cL_law 709 = .ok (.aload_n 0, 1) := by decide +kernel
theorem dL_law_710 : decode cL_law 710 = .ok (.iload_n 3, 1) := by decide +kernel
theorem dL_law_711 : decode cL_law 711 = .ok (.iconst 2, 1) := by decide +kernel
theorem dL_law_712 : decode cL_law 712 = .ok (.iadd, 1) := by decide +kernel
theorem dL_law_713 : decode cL_law 713 = .ok (.iaload, 1) := by decide +kernel
theorem dL_law_714 : decode cL_law 714 = .ok (.aload_n 0, 1) := by decide +kernel
theorem dL_law_715 : decode cL_law 715 = .ok (.iload_n 3, 1) := by decide +kernel
theorem dL_law_716 : decode cL_law 716 = .ok (.iconst 3, 1) := by decide +kernel
theorem dL_law_717 : decode cL_law 717 = .ok (.iadd, 1) := by decide +kernel
theorem dL_law_718 : decode cL_law 718 = .ok (.iaload, 1) := by decide +kernel
theorem dL_law_719 : decode cL_law 719 = .ok (.aload_n 0, 1) := by decide +kernel
theorem dL_law_720 : decode cL_law 720 = .ok (.iload_n 3, 1) := by decide +kernel
theorem dL_law_721 : decode cL_law 721 = .ok (.iconst 4, 1) := by decide +kernel
theorem dL_law_722 : decode cL_law 722 = .ok (.iadd, 1) := by decide +kernel
theorem dL_law_723 : decode cL_law 723 = .ok (.iaload, 1) := by decide +kernel
theorem dL_law_724 : decode cL_law 724 = .ok (.invokevirtual 60, 3) := by decide +kernel
theorem dL_law_727 : decode cL_law 727 = .ok (.if_icmp .eq 1311, 3) := by decide +kernel
theorem dL_law_730 : decode cL_law 730 = .ok (.iconst 0, 1) := by decide +kernel
theorem dL_law_731 : decode cL_law 731 = .ok (.ireturn, 1) := by decide +kernel
theorem dL_law_732 : decode cL_law 732 = .ok (.aload_n 1, 1) := by decide +kernel
theorem dL_law_733 : decode cL_law 733 = .ok (.aload_n 0, 1) := by decide +kernel
theorem dL_law_734 : decode cL_law 734 = .ok (.iload_n 3, 1) := by decide +kernel
theorem dL_law_735 : decode cL_law 735 = .ok (.iconst 1, 1) := by decide +kernel
theorem dL_law_736 : decode cL_law 736 = .ok (.iadd, 1) := by decide +kernel
theorem dL_law_737 : decode cL_law 737 = .ok (.iaload, 1) := by decide +kernel
theorem dL_law_738 : decode cL_law 738 = .ok (.aload_n 0, 1) := by decide +kernel
theorem dL_law_739 : decode cL_law 739 = .ok (.iload_n 3, 1) := by decide +kernel
theorem dL_law_740 : decode cL_law 740 = .ok (.iconst 2, 1) := by decide +kernel
theorem dL_law_741 : decode cL_law 741 = .ok (.iadd, 1) := by decide +kernel
theorem dL_law_742 : decode cL_law 742 = .ok (.iaload, 1) := by decide +kernel
theorem dL_law_743 : decode cL_law 743 = .ok (.aload_n 0, 1) := by decide +kernel
theorem dL_law_744 : decode cL_law 744 = .ok (.iload_n 3, 1) := by decide +kernel
theorem dL_law_745 : decode cL_law 745 = .ok (.iconst 3, 1) := by decide +kernel
theorem dL_law_746 : decode cL_law 746 = .ok (.iadd, 1) := by decide +kernel
theorem dL_law_747 : decode cL_law 747 = .ok (.iaload, 1) := by decide +kernel
theorem dL_law_748 : decode cL_law 748 = .ok (.aload_n 0, 1) := by decide +kernel
theorem dL_law_749 : decode cL_law 749 = .ok (.iload_n 3, 1) := by decide +kernel
theorem dL_law_750 : decode cL_law 750 = .ok (.iconst 4, 1) := by decide +kernel
theorem dL_law_751 : decode cL_law 751 = .ok (.iadd, 1) := by decide +kernel
theorem dL_law_752 : decode cL_law 752 = .ok (.iaload, 1) := by decide +kernel
theorem dL_law_753 : decode cL_law 753 = .ok (.invokevirtual 61, 3) := by decide +kernel
theorem dL_law_756 : decode cL_law 756 = .ok (.aload_n 2, 1) := by decide +kernel
theorem dL_law_757 : decode cL_law 757 = .ok (.aload_n 0, 1) := by decide +kernel
theorem dL_law_758 : decode cL_law 758 = .ok (.iload_n 3, 1) := by decide +kernel
theorem dL_law_759 : decode cL_law 759 = .ok (.iconst 1, 1) := by decide +kernel
theorem dL_law_760 : decode cL_law 760 = .ok (.iadd, 1) := by decide +kernel
theorem dL_law_761 : decode cL_law 761 = .ok (.iaload, 1) := by decide +kernel
theorem dL_law_762 : decode cL_law 762 = .ok (.aload_n 0, 1) := by decide +kernel
theorem dL_law_763 : decode cL_law 763 = .ok (.iload_n 3, 1) := by decide +kernel
theorem dL_law_764 : decode cL_law 764 = .ok (.iconst 2, 1) := by decide +kernel
theorem dL_law_765 : decode cL_law 765 = .ok (.iadd, 1) := by decide +kernel
theorem dL_law_766 : decode cL_law 766 = .ok (.iaload, 1) := by decide +kernel
theorem dL_law_767 : decode cL_law 767 = .ok (.aload_n 0, 1) := by decide +kernel
theorem dL_law_768 : decode cL_law 768 = .ok (.iload_n 3, 1) := by decide +kernel
theorem dL_law_769 : decode cL_law 769 = .ok (.iconst 3, 1) := by decide +kernel
theorem dL_law_770 : decode cL_law 770 = .ok (.iadd, 1) := by decide +kernel
theorem dL_law_771 : decode cL_law 771 = .ok (.iaload, 1) := by decide +kernel
theorem dL_law_772 : decode cL_law 772 = .ok (.aload_n 0, 1) := by decide +kernel
theorem dL_law_773 : decode cL_law 773 = .ok (.iload_n 3, 1) := by decide +kernel
theorem dL_law_774 : decode cL_law 774 = .ok (.iconst 4, 1) := by decide +kernel
theorem dL_law_775 : decode cL_law 775 = .ok (.iadd, 1) := by decide +kernel
theorem dL_law_776 : decode cL_law 776 = .ok (.iaload, 1) := by decide +kernel
theorem dL_law_777 : decode cL_law 777 = .ok (.invokevirtual 64, 3) := by decide +kernel
theorem dL_law_780 : decode cL_law 780 = .ok (.if_icmp .eq 1258, 3) := by decide +kernel
theorem dL_law_783 : decode cL_law 783 = .ok (.iconst 0, 1) := by decide +kernel
theorem dL_law_784 : decode cL_law 784 = .ok (.ireturn, 1) := by decide +kernel
theorem dL_law_785 : decode cL_law 785 = .ok (.aload_n 1, 1) := by decide +kernel
theorem dL_law_786 : decode cL_law 786 = .ok (.aload_n 0, 1) := by decide +kernel
theorem dL_law_787 : decode cL_law 787 = .ok (.iload_n 3, 1) := by decide +kernel
theorem dL_law_788 : decode cL_law 788 = .ok (.iconst 1, 1) := by decide +kernel
theorem dL_law_789 : decode cL_law 789 = .ok (.iadd, 1) := by decide +kernel
theorem dL_law_790 : decode cL_law 790 = .ok (.iaload, 1) := by decide +kernel
theorem dL_law_791 : decode cL_law 791 = .ok (.aload_n 0, 1) := by decide +kernel
theorem dL_law_792 : decode cL_law 792 = .ok (.iload_n 3, 1) := by decide +kernel
theorem dL_law_793 : decode cL_law 793 = .ok (.iconst 2, 1) := by decide +kernel
theorem dL_law_794 : decode cL_law 794 = .ok (.iadd, 1) := by decide +kernel
theorem dL_law_795 : decode cL_law 795 = .ok (.iaload, 1) := by decide +kernel
theorem dL_law_796 : decode cL_law 796 = .ok (.aload_n 0, 1) := by decide +kernel
theorem dL_law_797 : decode cL_law 797 = .ok (.iload_n 3, 1) := by decide +kernel
theorem dL_law_798 : decode cL_law 798 = .ok (.iconst 3, 1) := by decide +kernel
theorem dL_law_799 : decode cL_law 799 = .ok (.iadd, 1) := by decide +kernel
theorem dL_law_800 : decode cL_law 800 = .ok (.iaload, 1) := by decide +kernel
theorem dL_law_801 : decode cL_law 801 = .ok (.invokevirtual 65, 3) := by decide +kernel
theorem dL_law_804 : decode cL_law 804 = .ok (.aload_n 2, 1) := by decide +kernel
theorem dL_law_805 : decode cL_law 805 = .ok (.aload_n 0, 1) := by decide +kernel
theorem dL_law_806 : decode cL_law 806 = .ok (.iload_n 3, 1) := by decide +kernel
theorem dL_law_807 : decode cL_law 807 = .ok (.iconst 1, 1) := by decide +kernel
theorem dL_law_808 : decode cL_law 808 = .ok (.iadd, 1) := by decide +kernel
theorem dL_law_809 : decode cL_law 809 = .ok (.iaload, 1) := by decide +kernel
theorem dL_law_810 : decode cL_law 810 = .ok (.aload_n 0, 1) := by decide +kernel
theorem dL_law_811 : decode cL_law 811 = .ok (.iload_n 3, 1) := by decide +kernel
theorem dL_law_812 : decode cL_law 812 = .ok (.iconst 2, 1) := by decide +kernel
theorem dL_law_813 : decode cL_law 813 = .ok (.iadd, 1) := by decide +kernel
theorem dL_law_814 : decode cL_law 814 = .ok (.iaload, 1) := by decide +kernel
theorem dL_law_815 : decode cL_law 815 = .ok (.aload_n 0, 1) := by decide +kernel
theorem dL_law_816 : decode cL_law 816 = .ok (.iload_n 3, 1) := by decide +kernel
theorem dL_law_817 : decode cL_law 817 = .ok (.iconst 3, 1) := by decide +kernel
theorem dL_law_818 : decode cL_law 818 = .ok (.iadd, 1) := by decide +kernel
theorem dL_law_819 : decode cL_law 819 = .ok (.iaload, 1) := by decide +kernel
theorem dL_law_820 : decode cL_law 820 = .ok (.invokevirtual 68, 3) := by decide +kernel
theorem dL_law_823 : decode cL_law 823 = .ok (.if_icmp .eq 1215, 3) := by decide +kernel
theorem dL_law_826 : decode cL_law 826 = .ok (.iconst 0, 1) := by decide +kernel
theorem dL_law_827 : decode cL_law 827 = .ok (.ireturn, 1) := by decide +kernel
theorem dL_law_828 : decode cL_law 828 = .ok (.aload_n 1, 1) := by decide +kernel
theorem dL_law_829 : decode cL_law 829 = .ok (.aload_n 0, 1) := by decide +kernel
theorem dL_law_830 : decode cL_law 830 = .ok (.iload_n 3, 1) := by decide +kernel
theorem dL_law_831 : decode cL_law 831 = .ok (.iconst 1, 1) := by decide +kernel
theorem dL_law_832 : decode cL_law 832 = .ok (.iadd, 1) := by decide +kernel
theorem dL_law_833 : decode cL_law 833 = .ok (.iaload, 1) := by decide +kernel
theorem dL_law_834 : decode cL_law 834 = .ok (.aload_n 0, 1) := by decide +kernel
theorem dL_law_835 : decode cL_law 835 = .ok (.iload_n 3, 1) := by decide +kernel
theorem dL_law_836 : decode cL_law 836 = .ok (.iconst 2, 1) := by decide +kernel
theorem dL_law_837 : decode cL_law 837 = .ok (.iadd, 1) := by decide +kernel
theorem dL_law_838 : decode cL_law 838 = .ok (.iaload, 1) := by decide +kernel
theorem dL_law_839 : decode cL_law 839 = .ok (.aload_n 0, 1) := by decide +kernel
theorem dL_law_840 : decode cL_law 840 = .ok (.iload_n 3, 1) := by decide +kernel
theorem dL_law_841 : decode cL_law 841 = .ok (.iconst 3, 1) := by decide +kernel
theorem dL_law_842 : decode cL_law 842 = .ok (.iadd, 1) := by decide +kernel
theorem dL_law_843 : decode cL_law 843 = .ok (.iaload, 1) := by decide +kernel
theorem dL_law_844 : decode cL_law 844 = .ok (.aload_n 0, 1) := by decide +kernel
theorem dL_law_845 : decode cL_law 845 = .ok (.iload_n 3, 1) := by decide +kernel
theorem dL_law_846 : decode cL_law 846 = .ok (.iconst 4, 1) := by decide +kernel
theorem dL_law_847 : decode cL_law 847 = .ok (.iadd, 1) := by decide +kernel
theorem dL_law_848 : decode cL_law 848 = .ok (.iaload, 1) := by decide +kernel
theorem dL_law_849 : decode cL_law 849 = .ok (.invokevirtual 69, 3) := by decide +kernel
theorem dL_law_852 : decode cL_law 852 = .ok (.aload_n 2, 1) := by decide +kernel
theorem dL_law_853 : decode cL_law 853 = .ok (.aload_n 0, 1) := by decide +kernel
theorem dL_law_854 : decode cL_law 854 = .ok (.iload_n 3, 1) := by decide +kernel
theorem dL_law_855 : decode cL_law 855 = .ok (.iconst 1, 1) := by decide +kernel
theorem dL_law_856 : decode cL_law 856 = .ok (.iadd, 1) := by decide +kernel
theorem dL_law_857 : decode cL_law 857 = .ok (.iaload, 1) := by decide +kernel
theorem dL_law_858 : decode cL_law 858 = .ok (.aload_n 0, 1) := by decide +kernel
theorem dL_law_859 : decode cL_law 859 = .ok (.iload_n 3, 1) := by decide +kernel
theorem dL_law_860 : decode cL_law 860 = .ok (.iconst 2, 1) := by decide +kernel
theorem dL_law_861 : decode cL_law 861 = .ok (.iadd, 1) := by decide +kernel
theorem dL_law_862 : decode cL_law 862 = .ok (.iaload, 1) := by decide +kernel
theorem dL_law_863 : decode cL_law 863 = .ok (.aload_n 0, 1) := by decide +kernel
theorem dL_law_864 : decode cL_law 864 = .ok (.iload_n 3, 1) := by decide +kernel
theorem dL_law_865 : decode cL_law 865 = .ok (.iconst 3, 1) := by decide +kernel
theorem dL_law_866 : decode cL_law 866 = .ok (.iadd, 1) := by decide +kernel
theorem dL_law_867 : decode cL_law 867 = .ok (.iaload, 1) := by decide +kernel
theorem dL_law_868 : decode cL_law 868 = .ok (.aload_n 0, 1) := by decide +kernel
theorem dL_law_869 : decode cL_law 869 = .ok (.iload_n 3, 1) := by decide +kernel
theorem dL_law_870 : decode cL_law 870 = .ok (.iconst 4, 1) := by decide +kernel
theorem dL_law_871 : decode cL_law 871 = .ok (.iadd, 1) := by decide +kernel
theorem dL_law_872 : decode cL_law 872 = .ok (.iaload, 1) := by decide +kernel
theorem dL_law_873 : decode cL_law 873 = .ok (.invokevirtual 72, 3) := by decide +kernel
theorem dL_law_876 : decode cL_law 876 = .ok (.if_icmp .eq 1162, 3) := by decide +kernel
theorem dL_law_879 : decode cL_law 879 = .ok (.iconst 0, 1) := by decide +kernel
theorem dL_law_880 : decode cL_law 880 = .ok (.ireturn, 1) := by decide +kernel
theorem dL_law_881 : decode cL_law 881 = .ok (.aload_n 1, 1) := by decide +kernel
theorem dL_law_882 : decode cL_law 882 = .ok (.aload_n 0, 1) := by decide +kernel
theorem dL_law_883 : decode cL_law 883 = .ok (.iload_n 3, 1) := by decide +kernel
theorem dL_law_884 : decode cL_law 884 = .ok (.iconst 1, 1) := by decide +kernel
theorem dL_law_885 : decode cL_law 885 = .ok (.iadd, 1) := by decide +kernel
theorem dL_law_886 : decode cL_law 886 = .ok (.iaload, 1) := by decide +kernel
theorem dL_law_887 : decode cL_law 887 = .ok (.aload_n 0, 1) := by decide +kernel
theorem dL_law_888 : decode cL_law 888 = .ok (.iload_n 3, 1) := by decide +kernel
theorem dL_law_889 : decode cL_law 889 = .ok (.iconst 2, 1) := by decide +kernel
theorem dL_law_890 : decode cL_law 890 = .ok (.iadd, 1) := by decide +kernel
theorem dL_law_891 : decode cL_law 891 = .ok (.iaload, 1) := by decide +kernel
theorem dL_law_892 : decode cL_law 892 = .ok (.aload_n 0, 1) := by decide +kernel
theorem dL_law_893 : decode cL_law 893 = .ok (.iload_n 3, 1) := by decide +kernel
theorem dL_law_894 : decode cL_law 894 = .ok (.iconst 3, 1) := by decide +kernel
theorem dL_law_895 : decode cL_law 895 = .ok (.iadd, 1) := by decide +kernel
theorem dL_law_896 : decode cL_law 896 = .ok (.iaload, 1) := by decide +kernel
theorem dL_law_897 : decode cL_law 897 = .ok (.aload_n 0, 1) := by decide +kernel
theorem dL_law_898 : decode cL_law 898 = .ok (.iload_n 3, 1) := by decide +kernel
theorem dL_law_899 : decode cL_law 899 = .ok (.iconst 4, 1) := by decide +kernel
theorem dL_law_900 : decode cL_law 900 = .ok (.iadd, 1) := by decide +kernel
theorem dL_law_901 : decode cL_law 901 = .ok (.iaload, 1) := by decide +kernel
theorem dL_law_902 : decode cL_law 902 = .ok (.invokevirtual 73, 3) := by decide +kernel
theorem dL_law_905 : decode cL_law 905 = .ok (.aload_n 2, 1) := by decide +kernel
theorem dL_law_906 : decode cL_law 906 = .ok (.aload_n 0, 1) := by decide +kernel
theorem dL_law_907 : decode cL_law 907 = .ok (.iload_n 3, 1) := by decide +kernel
theorem dL_law_908 : decode cL_law 908 = .ok (.iconst 1, 1) := by decide +kernel
theorem dL_law_909 : decode cL_law 909 = .ok (.iadd, 1) := by decide +kernel
theorem dL_law_910 : decode cL_law 910 = .ok (.iaload, 1) := by decide +kernel
theorem dL_law_911 : decode cL_law 911 = .ok (.aload_n 0, 1) := by decide +kernel
theorem dL_law_912 : decode cL_law 912 = .ok (.iload_n 3, 1) := by decide +kernel
theorem dL_law_913 : decode cL_law 913 = .ok (.iconst 2, 1) := by decide +kernel
theorem dL_law_914 : decode cL_law 914 = .ok (.iadd, 1) := by decide +kernel
theorem dL_law_915 : decode cL_law 915 = .ok (.iaload, 1) := by decide +kernel
theorem dL_law_916 : decode cL_law 916 = .ok (.aload_n 0, 1) := by decide +kernel
theorem dL_law_917 : decode cL_law 917 = .ok (.iload_n 3, 1) := by decide +kernel
theorem dL_law_918 : decode cL_law 918 = .ok (.iconst 3, 1) := by decide +kernel
theorem dL_law_919 : decode cL_law 919 = .ok (.iadd, 1) := by decide +kernel
theorem dL_law_920 : decode cL_law 920 = .ok (.iaload, 1) := by decide +kernel
theorem dL_law_921 : decode cL_law 921 = .ok (.aload_n 0, 1) := by decide +kernel
theorem dL_law_922 : decode cL_law 922 = .ok (.iload_n 3, 1) := by decide +kernel
theorem dL_law_923 : decode cL_law 923 = .ok (.iconst 4, 1) := by decide +kernel
theorem dL_law_924 : decode cL_law 924 = .ok (.iadd, 1) := by decide +kernel
theorem dL_law_925 : decode cL_law 925 = .ok (.iaload, 1) := by decide +kernel
theorem dL_law_926 : decode cL_law 926 = .ok (.invokevirtual 76, 3) := by decide +kernel
theorem dL_law_929 : decode cL_law 929 = .ok (.if_icmp .eq 1109, 3) := by decide +kernel
theorem dL_law_932 : decode cL_law 932 = .ok (.iconst 0, 1) := by decide +kernel
theorem dL_law_933 : decode cL_law 933 = .ok (.ireturn, 1) := by decide +kernel
theorem dL_law_934 : decode cL_law 934 = .ok (.aload_n 1, 1) := by decide +kernel
theorem dL_law_935 : decode cL_law 935 = .ok (.aload_n 0, 1) := by decide +kernel
theorem dL_law_936 : decode cL_law 936 = .ok (.iload_n 3, 1) := by decide +kernel
theorem dL_law_937 : decode cL_law 937 = .ok (.iconst 1, 1) := by decide +kernel
theorem dL_law_938 : decode cL_law 938 = .ok (.iadd, 1) := by decide +kernel
theorem dL_law_939 : decode cL_law 939 = .ok (.iaload, 1) := by decide +kernel
theorem dL_law_940 : decode cL_law 940 = .ok (.aload_n 0, 1) := by decide +kernel
theorem dL_law_941 : decode cL_law 941 = .ok (.iload_n 3, 1) := by decide +kernel
theorem dL_law_942 : decode cL_law 942 = .ok (.iconst 2, 1) := by decide +kernel
theorem dL_law_943 : decode cL_law 943 = .ok (.iadd, 1) := by decide +kernel
theorem dL_law_944 : decode cL_law 944 = .ok (.iaload, 1) := by decide +kernel
theorem dL_law_945 : decode cL_law 945 = .ok (.aload_n 0, 1) := by decide +kernel
theorem dL_law_946 : decode cL_law 946 = .ok (.iload_n 3, 1) := by decide +kernel
theorem dL_law_947 : decode cL_law 947 = .ok (.iconst 3, 1) := by decide +kernel
theorem dL_law_948 : decode cL_law 948 = .ok (.iadd, 1) := by decide +kernel
theorem dL_law_949 : decode cL_law 949 = .ok (.iaload, 1) := by decide +kernel
theorem dL_law_950 : decode cL_law 950 = .ok (.invokevirtual 77, 3) := by decide +kernel
theorem dL_law_953 : decode cL_law 953 = .ok (.aload_n 2, 1) := by decide +kernel
theorem dL_law_954 : decode cL_law 954 = .ok (.aload_n 0, 1) := by decide +kernel
theorem dL_law_955 : decode cL_law 955 = .ok (.iload_n 3, 1) := by decide +kernel
theorem dL_law_956 : decode cL_law 956 = .ok (.iconst 1, 1) := by decide +kernel
theorem dL_law_957 : decode cL_law 957 = .ok (.iadd, 1) := by decide +kernel
theorem dL_law_958 : decode cL_law 958 = .ok (.iaload, 1) := by decide +kernel
theorem dL_law_959 : decode cL_law 959 = .ok (.aload_n 0, 1) := by decide +kernel
theorem dL_law_960 : decode cL_law 960 = .ok (.iload_n 3, 1) := by decide +kernel
theorem dL_law_961 : decode cL_law 961 = .ok (.iconst 2, 1) := by decide +kernel
theorem dL_law_962 : decode cL_law 962 = .ok (.iadd, 1) := by decide +kernel
theorem dL_law_963 : decode cL_law 963 = .ok (.iaload, 1) := by decide +kernel
theorem dL_law_964 : decode cL_law 964 = .ok (.aload_n 0, 1) := by decide +kernel
theorem dL_law_965 : decode cL_law 965 = .ok (.iload_n 3, 1) := by decide +kernel
theorem dL_law_966 : decode cL_law 966 = .ok (.iconst 3, 1) := by decide +kernel
theorem dL_law_967 : decode cL_law 967 = .ok (.iadd, 1) := by decide +kernel
theorem dL_law_968 : decode cL_law 968 = .ok (.iaload, 1) := by decide +kernel
theorem dL_law_969 : decode cL_law 969 = .ok (.invokevirtual 80, 3) := by decide +kernel
theorem dL_law_972 : decode cL_law 972 = .ok (.if_icmp .eq 1066, 3) := by decide +kernel
theorem dL_law_975 : decode cL_law 975 = .ok (.iconst 0, 1) := by decide +kernel
theorem dL_law_976 : decode cL_law 976 = .ok (.ireturn, 1) := by decide +kernel
theorem dL_law_977 : decode cL_law 977 = .ok (.aload_n 1, 1) := by decide +kernel
theorem dL_law_978 : decode cL_law 978 = .ok (.aload_n 0, 1) := by decide +kernel
theorem dL_law_979 : decode cL_law 979 = .ok (.iload_n 3, 1) := by decide +kernel
theorem dL_law_980 : decode cL_law 980 = .ok (.iconst 1, 1) := by decide +kernel
theorem dL_law_981 : decode cL_law 981 = .ok (.iadd, 1) := by decide +kernel
theorem dL_law_982 : decode cL_law 982 = .ok (.iaload, 1) := by decide +kernel
theorem dL_law_983 : decode cL_law 983 = .ok (.aload_n 0, 1) := by decide +kernel
theorem dL_law_984 : decode cL_law 984 = .ok (.iload_n 3, 1) := by decide +kernel
theorem dL_law_985 : decode cL_law 985 = .ok (.iconst 2, 1) := by decide +kernel
theorem dL_law_986 : decode cL_law 986 = .ok (.iadd, 1) := by decide +kernel
theorem dL_law_987 : decode cL_law 987 = .ok (.iaload, 1) := by decide +kernel
theorem dL_law_988 : decode cL_law 988 = .ok (.invokevirtual 81, 3) := by decide +kernel
theorem dL_law_991 : decode cL_law 991 = .ok (.aload_n 2, 1) := by decide +kernel
theorem dL_law_992 : decode cL_law 992 = .ok (.aload_n 0, 1) := by decide +kernel
theorem dL_law_993 : decode cL_law 993 = .ok (.iload_n 3, 1) := by decide +kernel
theorem dL_law_994 : decode cL_law 994 = .ok (.iconst 1, 1) := by decide +kernel
theorem dL_law_995 : decode cL_law 995 = .ok (.iadd, 1) := by decide +kernel
theorem dL_law_996 : decode cL_law 996 = .ok (.iaload, 1) := by decide +kernel
theorem dL_law_997 : decode cL_law 997 = .ok (.aload_n 0, 1) := by decide +kernel
theorem dL_law_998 : decode cL_law 998 = .ok (.iload_n 3, 1) := by decide +kernel
theorem dL_law_999 : decode cL_law 999 = .ok (.iconst 2, 1) := by decide +kernel
theorem dL_law_1000 : decode cL_law 1000 = .ok (.iadd, 1) := by decide +kernel
theorem dL_law_1001 : decode cL_law 1001 = .ok (.iaload, 1) := by decide +kernel
theorem dL_law_1002 : decode cL_law 1002 = .ok (.invokevirtual 84, 3) := by decide +kernel
theorem dL_law_1005 : decode cL_law 1005 = .ok (.if_icmp .eq 1033, 3) := by decide +kernel
theorem dL_law_1008 : decode cL_law 1008 = .ok (.iconst 0, 1) := by decide +kernel
theorem dL_law_1009 : decode cL_law 1009 = .ok (.ireturn, 1) := by decide +kernel
theorem dL_law_1010 : decode cL_law 1010 = .ok (.aload_n 1, 1) := by decide +kernel
theorem dL_law_1011 : decode cL_law 1011 = .ok (.aload_n 0, 1) := by decide +kernel
theorem dL_law_1012 : decode cL_law 1012 = .ok (.iload_n 3, 1) := by decide +kernel
theorem dL_law_1013 : decode cL_law 1013 = .ok (.iconst 1, 1) := by decide +kernel
theorem dL_law_1014 : decode cL_law 1014 = .ok (.iadd, 1) := by decide +kernel
theorem dL_law_1015 : decode cL_law 1015 = .ok (.iaload, 1) := by decide +kernel
theorem dL_law_1016 : decode cL_law 1016 = .ok (.invokevirtual 85, 3) := by decide +kernel
theorem dL_law_1019 : decode cL_law 1019 = .ok (.aload_n 2, 1) := by decide +kernel
theorem dL_law_1020 : decode cL_law 1020 = .ok (.aload_n 0, 1) := by decide +kernel
theorem dL_law_1021 : decode cL_law 1021 = .ok (.iload_n 3, 1) := by decide +kernel
theorem dL_law_1022 : decode cL_law 1022 = .ok (.iconst 1, 1) := by decide +kernel
theorem dL_law_1023 : decode cL_law 1023 = .ok (.iadd, 1) := by decide +kernel
theorem dL_law_1024 : decode cL_law 1024 = .ok (.iaload, 1) := by decide +kernel
theorem dL_law_1025 : decode cL_law 1025 = .ok (.invokevirtual 88, 3) := by decide +kernel
theorem dL_law_1028 : decode cL_law 1028 = .ok (.if_icmp .eq 1010, 3) := by decide +kernel
theorem dL_law_1031 : decode cL_law 1031 = .ok (.iconst 0, 1) := by decide +kernel
theorem dL_law_1032 : decode cL_law 1032 = .ok (.ireturn, 1) := by decide +kernel
theorem dL_law_1033 : decode cL_law 1033 = .ok (.aload_n 1, 1) := by decide +kernel
theorem dL_law_1034 : decode cL_law 1034 = .ok (.invokevirtual 89, 3) := by decide +kernel
theorem dL_law_1037 : decode cL_law 1037 = .ok (.aload_n 2, 1) := by decide +kernel
theorem dL_law_1038 : decode cL_law 1038 = .ok (.invokevirtual 92, 3) := by decide +kernel
theorem dL_law_1041 : decode cL_law 1041 = .ok (.if_icmp .eq 997, 3) := by decide +kernel
theorem dL_law_1044 : decode cL_law 1044 = .ok (.iconst 0, 1) := by decide +kernel
theorem dL_law_1045 : decode cL_law 1045 = .ok (.ireturn, 1) := by decide +kernel
theorem dL_law_1046 : decode cL_law 1046 = .ok (.aload_n 1, 1) := by decide +kernel
theorem dL_law_1047 : decode cL_law 1047 = .ok (.aload_n 0, 1) := by decide +kernel
theorem dL_law_1048 : decode cL_law 1048 = .ok (.iload_n 3, 1) := by decide +kernel
theorem dL_law_1049 : decode cL_law 1049 = .ok (.iconst 1, 1) := by decide +kernel
theorem dL_law_1050 : decode cL_law 1050 = .ok (.iadd, 1) := by decide +kernel
theorem dL_law_1051 : decode cL_law 1051 = .ok (.iaload, 1) := by decide +kernel
theorem dL_law_1052 : decode cL_law 1052 = .ok (.invokevirtual 93, 3) := by decide +kernel
theorem dL_law_1055 : decode cL_law 1055 = .ok (.aload_n 2, 1) := by decide +kernel
theorem dL_law_1056 : decode cL_law 1056 = .ok (.aload_n 0, 1) := by decide +kernel
theorem dL_law_1057 : decode cL_law 1057 = .ok (.iload_n 3, 1) := by decide +kernel
theorem dL_law_1058 : decode cL_law 1058 = .ok (.iconst 1, 1) := by decide +kernel
theorem dL_law_1059 : decode cL_law 1059 = .ok (.iadd, 1) := by decide +kernel
theorem dL_law_1060 : decode cL_law 1060 = .ok (.iaload, 1) := by decide +kernel
theorem dL_law_1061 : decode cL_law 1061 = .ok (.invokevirtual 96, 3) := by decide +kernel
theorem dL_law_1064 : decode cL_law 1064 = .ok (.if_icmp .eq 974, 3) := by decide +kernel
theorem dL_law_1067 : decode cL_law 1067 = .ok (.iconst 0, 1) := by decide +kernel
theorem dL_law_1068 : decode cL_law 1068 = .ok (.ireturn, 1) := by decide +kernel
theorem dL_law_1069 : decode cL_law 1069 = .ok (.aload_n 1, 1) := by decide +kernel
theorem dL_law_1070 : decode cL_law 1070 = .ok (.aload_n 0, 1) := by decide +kernel
theorem dL_law_1071 : decode cL_law 1071 = .ok (.iload_n 3, 1) := by decide +kernel
theorem dL_law_1072 : decode cL_law 1072 = .ok (.iconst 1, 1) := by decide +kernel
theorem dL_law_1073 : decode cL_law 1073 = .ok (.iadd, 1) := by decide +kernel
theorem dL_law_1074 : decode cL_law 1074 = .ok (.iaload, 1) := by decide +kernel
theorem dL_law_1075 : decode cL_law 1075 = .ok (.invokevirtual 97, 3) := by decide +kernel
theorem dL_law_1078 : decode cL_law 1078 = .ok (.aload_n 2, 1) := by decide +kernel
theorem dL_law_1079 : decode cL_law 1079 = .ok (.aload_n 0, 1) := by decide +kernel
theorem dL_law_1080 : decode cL_law 1080 = .ok (.iload_n 3, 1) := by decide +kernel
theorem dL_law_1081 : decode cL_law 1081 = .ok (.iconst 1, 1) := by decide +kernel
theorem dL_law_1082 : decode cL_law 1082 = .ok (.iadd, 1) := by decide +kernel
theorem dL_law_1083 : decode cL_law 1083 = .ok (.iaload, 1) := by decide +kernel
theorem dL_law_1084 : decode cL_law 1084 = .ok (.invokevirtual 100, 3) := by decide +kernel
theorem dL_law_1087 : decode cL_law 1087 = .ok (.if_icmp .eq 951, 3) := by decide +kernel
theorem dL_law_1090 : decode cL_law 1090 = .ok (.iconst 0, 1) := by decide +kernel
theorem dL_law_1091 : decode cL_law 1091 = .ok (.ireturn, 1) := by decide +kernel
theorem dL_law_1092 : decode cL_law 1092 = .ok (.aload_n 1, 1) := by decide +kernel
theorem dL_law_1093 : decode cL_law 1093 = .ok (.aload_n 0, 1) := by decide +kernel
theorem dL_law_1094 : decode cL_law 1094 = .ok (.iload_n 3, 1) := by decide +kernel
theorem dL_law_1095 : decode cL_law 1095 = .ok (.iconst 1, 1) := by decide +kernel
theorem dL_law_1096 : decode cL_law 1096 = .ok (.iadd, 1) := by decide +kernel
theorem dL_law_1097 : decode cL_law 1097 = .ok (.iaload, 1) := by decide +kernel
theorem dL_law_1098 : decode cL_law 1098 = .ok (.invokevirtual 101, 3) := by decide +kernel
theorem dL_law_1101 : decode cL_law 1101 = .ok (.aload_n 2, 1) := by decide +kernel
theorem dL_law_1102 : decode cL_law 1102 = .ok (.aload_n 0, 1) := by decide +kernel
theorem dL_law_1103 : decode cL_law 1103 = .ok (.iload_n 3, 1) := by decide +kernel
theorem dL_law_1104 : decode cL_law 1104 = .ok (.iconst 1, 1) := by decide +kernel
theorem dL_law_1105 : decode cL_law 1105 = .ok (.iadd, 1) := by decide +kernel
theorem dL_law_1106 : decode cL_law 1106 = .ok (.iaload, 1) := by decide +kernel
theorem dL_law_1107 : decode cL_law 1107 = .ok (.invokevirtual 104, 3) := by decide +kernel
theorem dL_law_1110 : decode cL_law 1110 = .ok (.if_icmp .eq 928, 3) := by decide +kernel
theorem dL_law_1113 : decode cL_law 1113 = .ok (.iconst 0, 1) := by decide +kernel
theorem dL_law_1114 : decode cL_law 1114 = .ok (.ireturn, 1) := by decide +kernel
theorem dL_law_1115 : decode cL_law 1115 = .ok (.aload_n 1, 1) := by decide +kernel
theorem dL_law_1116 : decode cL_law 1116 = .ok (.aload_n 0, 1) := by decide +kernel
theorem dL_law_1117 : decode cL_law 1117 = .ok (.iload_n 3, 1) := by decide +kernel
theorem dL_law_1118 : decode cL_law 1118 = .ok (.iconst 1, 1) := by decide +kernel
theorem dL_law_1119 : decode cL_law 1119 = .ok (.iadd, 1) := by decide +kernel
theorem dL_law_1120 : decode cL_law 1120 = .ok (.iaload, 1) := by decide +kernel
theorem dL_law_1121 : decode cL_law 1121 = .ok (.aload_n 0, 1) := by decide +kernel
theorem dL_law_1122 : decode cL_law 1122 = .ok (.iload_n 3, 1) := by decide +kernel
theorem dL_law_1123 : decode cL_law 1123 = .ok (.iconst 2, 1) := by decide +kernel
theorem dL_law_1124 : decode cL_law 1124 = .ok (.iadd, 1) := by decide +kernel
theorem dL_law_1125 : decode cL_law 1125 = .ok (.iaload, 1) := by decide +kernel
theorem dL_law_1126 : decode cL_law 1126 = .ok (.invokevirtual 105, 3) := by decide +kernel
theorem dL_law_1129 : decode cL_law 1129 = .ok (.aload_n 2, 1) := by decide +kernel
theorem dL_law_1130 : decode cL_law 1130 = .ok (.aload_n 0, 1) := by decide +kernel
theorem dL_law_1131 : decode cL_law 1131 = .ok (.iload_n 3, 1) := by decide +kernel
theorem dL_law_1132 : decode cL_law 1132 = .ok (.iconst 1, 1) := by decide +kernel
theorem dL_law_1133 : decode cL_law 1133 = .ok (.iadd, 1) := by decide +kernel
theorem dL_law_1134 : decode cL_law 1134 = .ok (.iaload, 1) := by decide +kernel
theorem dL_law_1135 : decode cL_law 1135 = .ok (.aload_n 0, 1) := by decide +kernel
theorem dL_law_1136 : decode cL_law 1136 = .ok (.iload_n 3, 1) := by decide +kernel
theorem dL_law_1137 : decode cL_law 1137 = .ok (.iconst 2, 1) := by decide +kernel
theorem dL_law_1138 : decode cL_law 1138 = .ok (.iadd, 1) := by decide +kernel
theorem dL_law_1139 : decode cL_law 1139 = .ok (.iaload, 1) := by decide +kernel
theorem dL_law_1140 : decode cL_law 1140 = .ok (.invokevirtual 108, 3) := by decide +kernel
theorem dL_law_1143 : decode cL_law 1143 = .ok (.if_icmp .eq 895, 3) := by decide +kernel
theorem dL_law_1146 : decode cL_law 1146 = .ok (.iconst 0, 1) := by decide +kernel
theorem dL_law_1147 : decode cL_law 1147 = .ok (.ireturn, 1) := by decide +kernel
theorem dL_law_1148 : decode cL_law 1148 = .ok (.aload_n 1, 1) := by decide +kernel
theorem dL_law_1149 : decode cL_law 1149 = .ok (.aload_n 0, 1) := by decide +kernel
theorem dL_law_1150 : decode cL_law 1150 = .ok (.iload_n 3, 1) := by decide +kernel
theorem dL_law_1151 : decode cL_law 1151 = .ok (.iconst 1, 1) := by decide +kernel
theorem dL_law_1152 : decode cL_law 1152 = .ok (.iadd, 1) := by decide +kernel
theorem dL_law_1153 : decode cL_law 1153 = .ok (.iaload, 1) := by decide +kernel
theorem dL_law_1154 : decode cL_law 1154 = .ok (.aload_n 0, 1) := by decide +kernel
theorem dL_law_1155 : decode cL_law 1155 = .ok (.iload_n 3, 1) := by decide +kernel
theorem dL_law_1156 : decode cL_law 1156 = .ok (.iconst 2, 1) := by decide +kernel
theorem dL_law_1157 : decode cL_law 1157 = .ok (.iadd, 1) := by decide +kernel
theorem dL_law_1158 : decode cL_law 1158 = .ok (.iaload, 1) := by decide +kernel
theorem dL_law_1159 : decode cL_law 1159 = .ok (.aload_n 0, 1) := by decide +kernel
theorem dL_law_1160 : decode cL_law 1160 = .ok (.iload_n 3, 1) := by decide +kernel
theorem dL_law_1161 : decode cL_law 1161 = .ok (.iconst 3, 1) := by decide +kernel
theorem dL_law_1162 : decode cL_law 1162 = .ok (.iadd, 1) := by decide +kernel
theorem dL_law_1163 : decode cL_law 1163 = .ok (.iaload, 1) := by decide +kernel
theorem dL_law_1164 : decode cL_law 1164 = .ok (.aload_n 0, 1) := by decide +kernel
theorem dL_law_1165 : decode cL_law 1165 = .ok (.iload_n 3, 1) := by decide +kernel
theorem dL_law_1166 : decode cL_law 1166 = .ok (.iconst 4, 1) := by decide +kernel
theorem dL_law_1167 : decode cL_law 1167 = .ok (.iadd, 1) := by decide +kernel
theorem dL_law_1168 : decode cL_law 1168 = .ok (.iaload, 1) := by decide +kernel
theorem dL_law_1169 : decode cL_law 1169 = .ok (.aload_n 0, 1) := by decide +kernel
theorem dL_law_1170 : decode cL_law 1170 = .ok (.iload_n 3, 1) := by decide +kernel
theorem dL_law_1171 : decode cL_law 1171 = .ok (.iconst 5, 1) := by decide +kernel
theorem dL_law_1172 : decode cL_law 1172 = .ok (.iadd, 1) := by decide +kernel
theorem dL_law_1173 : decode cL_law 1173 = .ok (.iaload, 1) := by decide +kernel
theorem dL_law_1174 : decode cL_law 1174 = .ok (.aload_n 0, 1) := by decide +kernel
theorem dL_law_1175 : decode cL_law 1175 = .ok (.iload_n 3, 1) := by decide +kernel
theorem dL_law_1176 : decode cL_law 1176 = .ok (.bipush 6, 2) := by decide +kernel
theorem dL_law_1178 : decode cL_law 1178 = .ok (.iadd, 1) := by decide +kernel
theorem dL_law_1179 : decode cL_law 1179 = .ok (.iaload, 1) := by decide +kernel
theorem dL_law_1180 : decode cL_law 1180 = .ok (.aload_n 0, 1) := by decide +kernel
theorem dL_law_1181 : decode cL_law 1181 = .ok (.iload_n 3, 1) := by decide +kernel
theorem dL_law_1182 : decode cL_law 1182 = .ok (.bipush 7, 2) := by decide +kernel
theorem dL_law_1184 : decode cL_law 1184 = .ok (.iadd, 1) := by decide +kernel
theorem dL_law_1185 : decode cL_law 1185 = .ok (.iaload, 1) := by decide +kernel
theorem dL_law_1186 : decode cL_law 1186 = .ok (.invokevirtual 109, 3) := by decide +kernel
theorem dL_law_1189 : decode cL_law 1189 = .ok (.aload_n 2, 1) := by decide +kernel
theorem dL_law_1190 : decode cL_law 1190 = .ok (.aload_n 0, 1) := by decide +kernel
theorem dL_law_1191 : decode cL_law 1191 = .ok (.iload_n 3, 1) := by decide +kernel
theorem dL_law_1192 : decode cL_law 1192 = .ok (.iconst 1, 1) := by decide +kernel
theorem dL_law_1193 : decode cL_law 1193 = .ok (.iadd, 1) := by decide +kernel
theorem dL_law_1194 : decode cL_law 1194 = .ok (.iaload, 1) := by decide +kernel
theorem dL_law_1195 : decode cL_law 1195 = .ok (.aload_n 0, 1) := by decide +kernel
theorem dL_law_1196 : decode cL_law 1196 = .ok (.iload_n 3, 1) := by decide +kernel
theorem dL_law_1197 : decode cL_law 1197 = .ok (.iconst 2, 1) := by decide +kernel
theorem dL_law_1198 : decode cL_law 1198 = .ok (.iadd, 1) := by decide +kernel
theorem dL_law_1199 : decode cL_law 1199 = .ok (.iaload, 1) := by decide +kernel
theorem dL_law_1200 : decode cL_law 1200 = .ok (.aload_n 0, 1) := by decide +kernel
theorem dL_law_1201 : decode cL_law 1201 = .ok (.iload_n 3, 1) := by decide +kernel
theorem dL_law_1202 : decode cL_law 1202 = .ok (.iconst 3, 1) := by decide +kernel
theorem dL_law_1203 : decode cL_law 1203 = .ok (.iadd, 1) := by decide +kernel
theorem dL_law_1204 : decode cL_law 1204 = .ok (.iaload, 1) := by decide +kernel
theorem dL_law_1205 : decode cL_law 1205 = .ok (.aload_n 0, 1) := by decide +kernel
theorem dL_law_1206 : decode cL_law 1206 = .ok (.iload_n 3, 1) := by decide +kernel
theorem dL_law_1207 : decode cL_law 1207 = .ok (.iconst 4, 1) := by decide +kernel
theorem dL_law_1208 : decode cL_law 1208 = .ok (.iadd, 1) := by decide +kernel
theorem dL_law_1209 : decode cL_law 1209 = .ok (.iaload, 1) := by decide +kernel
theorem dL_law_1210 : decode cL_law 1210 = .ok (.aload_n 0, 1) := by decide +kernel
theorem dL_law_1211 : decode cL_law 1211 = .ok (.iload_n 3, 1) := by decide +kernel
theorem dL_law_1212 : decode cL_law 1212 = .ok (.iconst 5, 1) := by decide +kernel
theorem dL_law_1213 : decode cL_law 1213 = .ok (.iadd, 1) := by decide +kernel
theorem dL_law_1214 : decode cL_law 1214 = .ok (.iaload, 1) := by decide +kernel
theorem dL_law_1215 : decode cL_law 1215 = .ok (.aload_n 0, 1) := by decide +kernel
theorem dL_law_1216 : decode cL_law 1216 = .ok (.iload_n 3, 1) := by decide +kernel
theorem dL_law_1217 : decode cL_law 1217 = .ok (.bipush 6, 2) := by decide +kernel
theorem dL_law_1219 : decode cL_law 1219 = .ok (.iadd, 1) := by decide +kernel
theorem dL_law_1220 : decode cL_law 1220 = .ok (.iaload, 1) := by decide +kernel
theorem dL_law_1221 : decode cL_law 1221 = .ok (.aload_n 0, 1) := by decide +kernel
theorem dL_law_1222 : decode cL_law 1222 = .ok (.iload_n 3, 1) := by decide +kernel
theorem dL_law_1223 : decode cL_law 1223 = .ok (.bipush 7, 2) := by decide +kernel
theorem dL_law_1225 : decode cL_law 1225 = .ok (.iadd, 1) := by decide +kernel
theorem dL_law_1226 : decode cL_law 1226 = .ok (.iaload, 1) := by decide +kernel
theorem dL_law_1227 : decode cL_law 1227 = .ok (.invokevirtual 113, 3) := by decide +kernel
theorem dL_law_1230 : decode cL_law 1230 = .ok (.if_icmp .eq 808, 3) := by decide +kernel
theorem dL_law_1233 : decode cL_law 1233 = .ok (.iconst 0, 1) := by decide +kernel
theorem dL_law_1234 : decode cL_law 1234 = .ok (.ireturn, 1) := by decide +kernel
theorem dL_law_1235 : decode cL_law 1235 = .ok (.aload_n 1, 1) := by decide +kernel
theorem dL_law_1236 : decode cL_law 1236 = .ok (.aload_n 0, 1) := by decide +kernel
theorem dL_law_1237 : decode cL_law 1237 = .ok (.iload_n 3, 1) := by decide +kernel
theorem dL_law_1238 : decode cL_law 1238 = .ok (.iconst 1, 1) := by decide +kernel
theorem dL_law_1239 : decode cL_law 1239 = .ok (.iadd, 1) := by decide +kernel
theorem dL_law_1240 : decode cL_law 1240 = .ok (.iaload, 1) := by decide +kernel
theorem dL_law_1241 : decode cL_law 1241 = .ok (.aload_n 0, 1) := by decide +kernel
theorem dL_law_1242 : decode cL_law 1242 = .ok (.iload_n 3, 1) := by decide +kernel
theorem dL_law_1243 : decode cL_law 1243 = .ok (.iconst 2, 1) := by decide +kernel
theorem dL_law_1244 : decode cL_law 1244 = .ok (.iadd, 1) := by decide +kernel
theorem dL_law_1245 : decode cL_law 1245 = .ok (.iaload, 1) := by decide +kernel
theorem dL_law_1246 : decode cL_law 1246 = .ok (.aload_n 0, 1) := by decide +kernel
theorem dL_law_1247 : decode cL_law 1247 = .ok (.iload_n 3, 1) := by decide +kernel
theorem dL_law_1248 : decode cL_law 1248 = .ok (.iconst 3, 1) := by decide +kernel
theorem dL_law_1249 : decode cL_law 1249 = .ok (.iadd, 1) := by decide +kernel
theorem dL_law_1250 : decode cL_law 1250 = .ok (.iaload, 1) := by decide +kernel
theorem dL_law_1251 : decode cL_law 1251 = .ok (.invokevirtual 114, 3) := by decide +kernel
theorem dL_law_1254 : decode cL_law 1254 = .ok (.aload_n 2, 1) := by decide +kernel
theorem dL_law_1255 : decode cL_law 1255 = .ok (.aload_n 0, 1) := by decide +kernel
theorem dL_law_1256 : decode cL_law 1256 = .ok (.iload_n 3, 1) := by decide +kernel
theorem dL_law_1257 : decode cL_law 1257 = .ok (.iconst 1, 1) := by decide +kernel
theorem dL_law_1258 : decode cL_law 1258 = .ok (.iadd, 1) := by decide +kernel
theorem dL_law_1259 : decode cL_law 1259 = .ok (.iaload, 1) := by decide +kernel
theorem dL_law_1260 : decode cL_law 1260 = .ok (.aload_n 0, 1) := by decide +kernel
theorem dL_law_1261 : decode cL_law 1261 = .ok (.iload_n 3, 1) := by decide +kernel
theorem dL_law_1262 : decode cL_law 1262 = .ok (.iconst 2, 1) := by decide +kernel
theorem dL_law_1263 : decode cL_law 1263 = .ok (.iadd, 1) := by decide +kernel
theorem dL_law_1264 : decode cL_law 1264 = .ok (.iaload, 1) := by decide +kernel
theorem dL_law_1265 : decode cL_law 1265 = .ok (.aload_n 0, 1) := by decide +kernel
theorem dL_law_1266 : decode cL_law 1266 = .ok (.iload_n 3, 1) := by decide +kernel
theorem dL_law_1267 : decode cL_law 1267 = .ok (.iconst 3, 1) := by decide +kernel
theorem dL_law_1268 : decode cL_law 1268 = .ok (.iadd, 1) := by decide +kernel
theorem dL_law_1269 : decode cL_law 1269 = .ok (.iaload, 1) := by decide +kernel
theorem dL_law_1270 : decode cL_law 1270 = .ok (.invokevirtual 117, 3) := by decide +kernel
theorem dL_law_1273 : decode cL_law 1273 = .ok (.if_icmp .eq 765, 3) := by decide +kernel
theorem dL_law_1276 : decode cL_law 1276 = .ok (.iconst 0, 1) := by decide +kernel
theorem dL_law_1277 : decode cL_law 1277 = .ok (.ireturn, 1) := by decide +kernel
theorem dL_law_1278 : decode cL_law 1278 = .ok (.aload_n 1, 1) := by decide +kernel
theorem dL_law_1279 : decode cL_law 1279 = .ok (.aload_n 0, 1) := by decide +kernel
theorem dL_law_1280 : decode cL_law 1280 = .ok (.iload_n 3, 1) := by decide +kernel
theorem dL_law_1281 : decode cL_law 1281 = .ok (.iconst 1, 1) := by decide +kernel
theorem dL_law_1282 : decode cL_law 1282 = .ok (.iadd, 1) := by decide +kernel
theorem dL_law_1283 : decode cL_law 1283 = .ok (.iaload, 1) := by decide +kernel
theorem dL_law_1284 : decode cL_law 1284 = .ok (.aload_n 0, 1) := by decide +kernel
theorem dL_law_1285 : decode cL_law 1285 = .ok (.iload_n 3, 1) := by decide +kernel
theorem dL_law_1286 : decode cL_law 1286 = .ok (.iconst 2, 1) := by decide +kernel
theorem dL_law_1287 : decode cL_law 1287 = .ok (.iadd, 1) := by decide +kernel
theorem dL_law_1288 : decode cL_law 1288 = .ok (.iaload, 1) := by decide +kernel
theorem dL_law_1289 : decode cL_law 1289 = .ok (.invokevirtual 118, 3) := by decide +kernel
theorem dL_law_1292 : decode cL_law 1292 = .ok (.aload_n 2, 1) := by decide +kernel
theorem dL_law_1293 : decode cL_law 1293 = .ok (.aload_n 0, 1) := by decide +kernel
theorem dL_law_1294 : decode cL_law 1294 = .ok (.iload_n 3, 1) := by decide +kernel
theorem dL_law_1295 : decode cL_law 1295 = .ok (.iconst 1, 1) := by decide +kernel
theorem dL_law_1296 : decode cL_law 1296 = .ok (.iadd, 1) := by decide +kernel
theorem dL_law_1297 : decode cL_law 1297 = .ok (.iaload, 1) := by decide +kernel
theorem dL_law_1298 : decode cL_law 1298 = .ok (.aload_n 0, 1) := by decide +kernel
theorem dL_law_1299 : decode cL_law 1299 = .ok (.iload_n 3, 1) := by decide +kernel
theorem dL_law_1300 : decode cL_law 1300 = .ok (.iconst 2, 1) := by decide +kernel
theorem dL_law_1301 : decode cL_law 1301 = .ok (.iadd, 1) := by decide +kernel
theorem dL_law_1302 : decode cL_law 1302 = .ok (.iaload, 1) := by decide +kernel
theorem dL_law_1303 : decode cL_law 1303 = .ok (.invokevirtual 121, 3) := by decide +kernel
theorem dL_law_1306 : decode cL_law 1306 = .ok (.if_icmp .eq 732, 3) := by decide +kernel
theorem dL_law_1309 : decode cL_law 1309 = .ok (.iconst 0, 1) := by decide +kernel
theorem dL_law_1310 : decode cL_law 1310 = .ok (.ireturn, 1) := by decide +kernel
theorem dL_law_1311 : decode cL_law 1311 = .ok (.aload_n 1, 1) := by decide +kernel
theorem dL_law_1312 : decode cL_law 1312 = .ok (.aload_n 0, 1) := by decide +kernel
theorem dL_law_1313 : decode cL_law 1313 = .ok (.iload_n 3, 1) := by decide +kernel
theorem dL_law_1314 : decode cL_law 1314 = .ok (.iconst 1, 1) := by decide +kernel
theorem dL_law_1315 : decode cL_law 1315 = .ok (.iadd, 1) := by decide +kernel
theorem dL_law_1316 : decode cL_law 1316 = .ok (.iaload, 1) := by decide +kernel
theorem dL_law_1317 : decode cL_law 1317 = .ok (.aload_n 0, 1) := by decide +kernel
theorem dL_law_1318 : decode cL_law 1318 = .ok (.iload_n 3, 1) := by decide +kernel
theorem dL_law_1319 : decode cL_law 1319 = .ok (.iconst 2, 1) := by decide +kernel
theorem dL_law_1320 : decode cL_law 1320 = .ok (.iadd, 1) := by decide +kernel
theorem dL_law_1321 : decode cL_law 1321 = .ok (.iaload, 1) := by decide +kernel
theorem dL_law_1322 : decode cL_law 1322 = .ok (.aload_n 0, 1) := by decide +kernel
theorem dL_law_1323 : decode cL_law 1323 = .ok (.iload_n 3, 1) := by decide +kernel
theorem dL_law_1324 : decode cL_law 1324 = .ok (.iconst 3, 1) := by decide +kernel
theorem dL_law_1325 : decode cL_law 1325 = .ok (.iadd, 1) := by decide +kernel
theorem dL_law_1326 : decode cL_law 1326 = .ok (.iaload, 1) := by decide +kernel
theorem dL_law_1327 : decode cL_law 1327 = .ok (.invokevirtual 122, 3) := by decide +kernel
theorem dL_law_1330 : decode cL_law 1330 = .ok (.aload_n 2, 1) := by decide +kernel
theorem dL_law_1331 : decode cL_law 1331 = .ok (.aload_n 0, 1) := by decide +kernel
theorem dL_law_1332 : decode cL_law 1332 = .ok (.iload_n 3, 1) := by decide +kernel
theorem dL_law_1333 : decode cL_law 1333 = .ok (.iconst 1, 1) := by decide +kernel
theorem dL_law_1334 : decode cL_law 1334 = .ok (.iadd, 1) := by decide +kernel
theorem dL_law_1335 : decode cL_law 1335 = .ok (.iaload, 1) := by decide +kernel
theorem dL_law_1336 : decode cL_law 1336 = .ok (.aload_n 0, 1) := by decide +kernel
theorem dL_law_1337 : decode cL_law 1337 = .ok (.iload_n 3, 1) := by decide +kernel
theorem dL_law_1338 : decode cL_law 1338 = .ok (.iconst 2, 1) := by decide +kernel
theorem dL_law_1339 : decode cL_law 1339 = .ok (.iadd, 1) := by decide +kernel
theorem dL_law_1340 : decode cL_law 1340 = .ok (.iaload, 1) := by decide +kernel
theorem dL_law_1341 : decode cL_law 1341 = .ok (.aload_n 0, 1) := by decide +kernel
theorem dL_law_1342 : decode cL_law 1342 = .ok (.iload_n 3, 1) := by decide +kernel
theorem dL_law_1343 : decode cL_law 1343 = .ok (.iconst 3, 1) := by decide +kernel
theorem dL_law_1344 : decode cL_law 1344 = .ok (.iadd, 1) := by decide +kernel
theorem dL_law_1345 : decode cL_law 1345 = .ok (.iaload, 1) := by decide +kernel
theorem dL_law_1346 : decode cL_law 1346 = .ok (.invokevirtual 125, 3) := by decide +kernel
theorem dL_law_1349 : decode cL_law 1349 = .ok (.if_icmp .eq 689, 3) := by decide +kernel
theorem dL_law_1352 : decode cL_law 1352 = .ok (.iconst 0, 1) := by decide +kernel
theorem dL_law_1353 : decode cL_law 1353 = .ok (.ireturn, 1) := by decide +kernel
theorem dL_law_1354 : decode cL_law 1354 = .ok (.aload_n 1, 1) := by decide +kernel
theorem dL_law_1355 : decode cL_law 1355 = .ok (.aload_n 0, 1) := by decide +kernel
theorem dL_law_1356 : decode cL_law 1356 = .ok (.iload_n 3, 1) := by decide +kernel
theorem dL_law_1357 : decode cL_law 1357 = .ok (.iconst 1, 1) := by decide +kernel
theorem dL_law_1358 : decode cL_law 1358 = .ok (.iadd, 1) := by decide +kernel
theorem dL_law_1359 : decode cL_law 1359 = .ok (.iaload, 1) := by decide +kernel
theorem dL_law_1360 : decode cL_law 1360 = .ok (.aload_n 0, 1) := by decide +kernel
theorem dL_law_1361 : decode cL_law 1361 = .ok (.iload_n 3, 1) := by decide +kernel
theorem dL_law_1362 : decode cL_law 1362 = .ok (.iconst 2, 1) := by decide +kernel
theorem dL_law_1363 : decode cL_law 1363 = .ok (.iadd, 1) := by decide +kernel
theorem dL_law_1364 : decode cL_law 1364 = .ok (.iaload, 1) := by decide +kernel
theorem dL_law_1365 : decode cL_law 1365 = .ok (.aload_n 0, 1) := by decide +kernel
theorem dL_law_1366 : decode cL_law 1366 = .ok (.iload_n 3, 1) := by decide +kernel
theorem dL_law_1367 : decode cL_law 1367 = .ok (.iconst 3, 1) := by decide +kernel
theorem dL_law_1368 : decode cL_law 1368 = .ok (.iadd, 1) := by decide +kernel
theorem dL_law_1369 : decode cL_law 1369 = .ok (.iaload, 1) := by decide +kernel
theorem dL_law_1370 : decode cL_law 1370 = .ok (.aload_n 0, 1) := by decide +kernel
theorem dL_law_1371 : decode cL_law 1371 = .ok (.iload_n 3, 1) := by decide +kernel
theorem dL_law_1372 : decode cL_law 1372 = .ok (.iconst 4, 1) := by decide +kernel
theorem dL_law_1373 : decode cL_law 1373 = .ok (.iadd, 1) := by decide +kernel
theorem dL_law_1374 : decode cL_law 1374 = .ok (.iaload, 1) := by decide +kernel
theorem dL_law_1375 : decode cL_law 1375 = .ok (.invokevirtual 126, 3) := by decide +kernel
theorem dL_law_1378 : decode cL_law 1378 = .ok (.aload_n 2, 1) := by decide +kernel
theorem dL_law_1379 : decode cL_law 1379 = .ok (.aload_n 0, 1) := by decide +kernel
theorem dL_law_1380 : decode cL_law 1380 = .ok (.iload_n 3, 1) := by decide +kernel
theorem dL_law_1381 : decode cL_law 1381 = .ok (.iconst 1, 1) := by decide +kernel
theorem dL_law_1382 : decode cL_law 1382 = .ok (.iadd, 1) := by decide +kernel
theorem dL_law_1383 : decode cL_law 1383 = .ok (.iaload, 1) := by decide +kernel
theorem dL_law_1384 : decode cL_law 1384 = .ok (.aload_n 0, 1) := by decide +kernel
theorem dL_law_1385 : decode cL_law 1385 = .ok (.iload_n 3, 1) := by decide +kernel
theorem dL_law_1386 : decode cL_law 1386 = .ok (.iconst 2, 1) := by decide +kernel
theorem dL_law_1387 : decode cL_law 1387 = .ok (.iadd, 1) := by decide +kernel
theorem dL_law_1388 : decode cL_law 1388 = .ok (.iaload, 1) := by decide +kernel
theorem dL_law_1389 : decode cL_law 1389 = .ok (.aload_n 0, 1) := by decide +kernel
theorem dL_law_1390 : decode cL_law 1390 = .ok (.iload_n 3, 1) := by decide +kernel
theorem dL_law_1391 : decode cL_law 1391 = .ok (.iconst 3, 1) := by decide +kernel
theorem dL_law_1392 : decode cL_law 1392 = .ok (.iadd, 1) := by decide +kernel
theorem dL_law_1393 : decode cL_law 1393 = .ok (.iaload, 1) := by decide +kernel
theorem dL_law_1394 : decode cL_law 1394 = .ok (.aload_n 0, 1) := by decide +kernel
theorem dL_law_1395 : decode cL_law 1395 = .ok (.iload_n 3, 1) := by decide +kernel
theorem dL_law_1396 : decode cL_law 1396 = .ok (.iconst 4, 1) := by decide +kernel
theorem dL_law_1397 : decode cL_law 1397 = .ok (.iadd, 1) := by decide +kernel
theorem dL_law_1398 : decode cL_law 1398 = .ok (.iaload, 1) := by decide +kernel
theorem dL_law_1399 : decode cL_law 1399 = .ok (.invokevirtual 129, 3) := by decide +kernel
theorem dL_law_1402 : decode cL_law 1402 = .ok (.if_icmp .eq 636, 3) := by decide +kernel
theorem dL_law_1405 : decode cL_law 1405 = .ok (.iconst 0, 1) := by decide +kernel
theorem dL_law_1406 : decode cL_law 1406 = .ok (.ireturn, 1) := by decide +kernel
theorem dL_law_1407 : decode cL_law 1407 = .ok (.aload_n 1, 1) := by decide +kernel
theorem dL_law_1408 : decode cL_law 1408 = .ok (.aload_n 0, 1) := by decide +kernel
theorem dL_law_1409 : decode cL_law 1409 = .ok (.iload_n 3, 1) := by decide +kernel
theorem dL_law_1410 : decode cL_law 1410 = .ok (.iconst 1, 1) := by decide +kernel
theorem dL_law_1411 : decode cL_law 1411 = .ok (.iadd, 1) := by decide +kernel
theorem dL_law_1412 : decode cL_law 1412 = .ok (.iaload, 1) := by decide +kernel
theorem dL_law_1413 : decode cL_law 1413 = .ok (.aload_n 0, 1) := by decide +kernel
theorem dL_law_1414 : decode cL_law 1414 = .ok (.iload_n 3, 1) := by decide +kernel
theorem dL_law_1415 : decode cL_law 1415 = .ok (.iconst 2, 1) := by decide +kernel
theorem dL_law_1416 : decode cL_law 1416 = .ok (.iadd, 1) := by decide +kernel
theorem dL_law_1417 : decode cL_law 1417 = .ok (.iaload, 1) := by decide +kernel
theorem dL_law_1418 : decode cL_law 1418 = .ok (.aload_n 0, 1) := by decide +kernel
theorem dL_law_1419 : decode cL_law 1419 = .ok (.iload_n 3, 1) := by decide +kernel
theorem dL_law_1420 : decode cL_law 1420 = .ok (.iconst 3, 1) := by decide +kernel
theorem dL_law_1421 : decode cL_law 1421 = .ok (.iadd, 1) := by decide +kernel
theorem dL_law_1422 : decode cL_law 1422 = .ok (.iaload, 1) := by decide +kernel
theorem dL_law_1423 : decode cL_law 1423 = .ok (.aload_n 0, 1) := by decide +kernel
theorem dL_law_1424 : decode cL_law 1424 = .ok (.iload_n 3, 1) := by decide +kernel
theorem dL_law_1425 : decode cL_law 1425 = .ok (.iconst 4, 1) := by decide +kernel
theorem dL_law_1426 : decode cL_law 1426 = .ok (.iadd, 1) := by decide +kernel
theorem dL_law_1427 : decode cL_law 1427 = .ok (.iaload, 1) := by decide +kernel
theorem dL_law_1428 : decode cL_law 1428 = .ok (.invokevirtual 130, 3) := by decide +kernel
theorem dL_law_1431 : decode cL_law 1431 = .ok (.aload_n 2, 1) := by decide +kernel
theorem dL_law_1432 : decode cL_law 1432 = .ok (.aload_n 0, 1) := by decide +kernel
theorem dL_law_1433 : decode cL_law 1433 = .ok (.iload_n 3, 1) := by decide +kernel
theorem dL_law_1434 : decode cL_law 1434 = .ok (.iconst 1, 1) := by decide +kernel
theorem dL_law_1435 : decode cL_law 1435 = .ok (.iadd, 1) := by decide +kernel
theorem dL_law_1436 : decode cL_law 1436 = .ok (.iaload, 1) := by decide +kernel
theorem dL_law_1437 : decode cL_law 1437 = .ok (.aload_n 0, 1) := by decide +kernel
theorem dL_law_1438 : decode cL_law 1438 = .ok (.iload_n 3, 1) := by decide +kernel
theorem dL_law_1439 : decode cL_law 1439 = .ok (.iconst 2, 1) := by decide +kernel
theorem dL_law_1440 : decode cL_law 1440 = .ok (.iadd, 1) := by decide +kernel
theorem dL_law_1441 : decode cL_law 1441 = .ok (.iaload, 1) := by decide +kernel
theorem dL_law_1442 : decode cL_law 1442 = .ok (.aload_n 0, 1) := by decide +kernel
theorem dL_law_1443 : decode cL_law 1443 = .ok (.iload_n 3, 1) := by decide +kernel
theorem dL_law_1444 : decode cL_law 1444 = .ok (.iconst 3, 1) := by decide +kernel
theorem dL_law_1445 : decode cL_law 1445 = .ok (.iadd, 1) := by decide +kernel
theorem dL_law_1446 : decode cL_law 1446 = .ok (.iaload, 1) := by decide +kernel
theorem dL_law_1447 : decode cL_law 1447 = .ok (.aload_n 0, 1) := by decide +kernel
theorem dL_law_1448 : decode cL_law 1448 = .ok (.iload_n 3, 1) := by decide +kernel
theorem dL_law_1449 : decode cL_law 1449 = .ok (.iconst 4, 1) := by decide +kernel
theorem dL_law_1450 : decode cL_law 1450 = .ok (.iadd, 1) := by decide +kernel
theorem dL_law_1451 : decode cL_law 1451 = .ok (.iaload, 1) := by decide +kernel
theorem dL_law_1452 : decode cL_law 1452 = .ok (.invokevirtual 133, 3) := by decide +kernel
theorem dL_law_1455 : decode cL_law 1455 = .ok (.if_icmp .eq 583, 3) := by decide +kernel
theorem dL_law_1458 : decode cL_law 1458 = .ok (.iconst 0, 1) := by decide +kernel
theorem dL_law_1459 : decode cL_law 1459 = .ok (.ireturn, 1) := by decide +kernel
theorem dL_law_1460 : decode cL_law 1460 = .ok (.aload_n 1, 1) := by decide +kernel
theorem dL_law_1461 : decode cL_law 1461 = .ok (.aload_n 0, 1) := by decide +kernel
theorem dL_law_1462 : decode cL_law 1462 = .ok (.iload_n 3, 1) := by decide +kernel
theorem dL_law_1463 : decode cL_law 1463 = .ok (.iconst 1, 1) := by decide +kernel
theorem dL_law_1464 : decode cL_law 1464 = .ok (.iadd, 1) := by decide +kernel
theorem dL_law_1465 : decode cL_law 1465 = .ok (.iaload, 1) := by decide +kernel
theorem dL_law_1466 : decode cL_law 1466 = .ok (.invokevirtual 134, 3) := by decide +kernel
theorem dL_law_1469 : decode cL_law 1469 = .ok (.aload_n 2, 1) := by decide +kernel
theorem dL_law_1470 : decode cL_law 1470 = .ok (.aload_n 0, 1) := by decide +kernel
theorem dL_law_1471 : decode cL_law 1471 = .ok (.iload_n 3, 1) := by decide +kernel
theorem dL_law_1472 : decode cL_law 1472 = .ok (.iconst 1, 1) := by decide +kernel
theorem dL_law_1473 : decode cL_law 1473 = .ok (.iadd, 1) := by decide +kernel
theorem dL_law_1474 : decode cL_law 1474 = .ok (.iaload, 1) := by decide +kernel
theorem dL_law_1475 : decode cL_law 1475 = .ok (.invokevirtual 137, 3) := by decide +kernel
theorem dL_law_1478 : decode cL_law 1478 = .ok (.if_icmp .eq 560, 3) := by decide +kernel
theorem dL_law_1481 : decode cL_law 1481 = .ok (.iconst 0, 1) := by decide +kernel
theorem dL_law_1482 : decode cL_law 1482 = .ok (.ireturn, 1) := by decide +kernel
theorem dL_law_1483 : decode cL_law 1483 = .ok (.aload_n 1, 1) := by decide +kernel
theorem dL_law_1484 : decode cL_law 1484 = .ok (.aload_n 0, 1) := by decide +kernel
theorem dL_law_1485 : decode cL_law 1485 = .ok (.iload_n 3, 1) := by decide +kernel
theorem dL_law_1486 : decode cL_law 1486 = .ok (.iconst 1, 1) := by decide +kernel
theorem dL_law_1487 : decode cL_law 1487 = .ok (.iadd, 1) := by decide +kernel
theorem dL_law_1488 : decode cL_law 1488 = .ok (.iaload, 1) := by decide +kernel
theorem dL_law_1489 : decode cL_law 1489 = .ok (.aload_n 0, 1) := by decide +kernel
theorem dL_law_1490 : decode cL_law 1490 = .ok (.iload_n 3, 1) := by decide +kernel
theorem dL_law_1491 : decode cL_law 1491 = .ok (.iconst 2, 1) := by decide +kernel
theorem dL_law_1492 : decode cL_law 1492 = .ok (.iadd, 1) := by decide +kernel
theorem dL_law_1493 : decode cL_law 1493 = .ok (.iaload, 1) := by decide +kernel
theorem dL_law_1494 : decode cL_law 1494 = .ok (.aload_n 0, 1) := by decide +kernel
theorem dL_law_1495 : decode cL_law 1495 = .ok (.iload_n 3, 1) := by decide +kernel
theorem dL_law_1496 : decode cL_law 1496 = .ok (.iconst 3, 1) := by decide +kernel
theorem dL_law_1497 : decode cL_law 1497 = .ok (.iadd, 1) := by decide +kernel
theorem dL_law_1498 : decode cL_law 1498 = .ok (.iaload, 1) := by decide +kernel
theorem dL_law_1499 : decode cL_law 1499 = .ok (.invokevirtual 138, 3) := by decide +kernel
theorem dL_law_1502 : decode cL_law 1502 = .ok (.aload_n 2, 1) := by decide +kernel
theorem dL_law_1503 : decode cL_law 1503 = .ok (.aload_n 0, 1) := by decide +kernel
theorem dL_law_1504 : decode cL_law 1504 = .ok (.iload_n 3, 1) := by decide +kernel
theorem dL_law_1505 : decode cL_law 1505 = .ok (.iconst 1, 1) := by decide +kernel
theorem dL_law_1506 : decode cL_law 1506 = .ok (.iadd, 1) := by decide +kernel
theorem dL_law_1507 : decode cL_law 1507 = .ok (.iaload, 1) := by decide +kernel
theorem dL_law_1508 : decode cL_law 1508 = .ok (.aload_n 0, 1) := by decide +kernel
theorem dL_law_1509 : decode cL_law 1509 = .ok (.iload_n 3, 1) := by decide +kernel
theorem dL_law_1510 : decode cL_law 1510 = .ok (.iconst 2, 1) := by decide +kernel
theorem dL_law_1511 : decode cL_law 1511 = .ok (.iadd, 1) := by decide +kernel
theorem dL_law_1512 : decode cL_law 1512 = .ok (.iaload, 1) := by decide +kernel
theorem dL_law_1513 : decode cL_law 1513 = .ok (.aload_n 0, 1) := by decide +kernel
theorem dL_law_1514 : decode cL_law 1514 = .ok (.iload_n 3, 1) := by decide +kernel
theorem dL_law_1515 : decode cL_law 1515 = .ok (.iconst 3, 1) := by decide +kernel
theorem dL_law_1516 : decode cL_law 1516 = .ok (.iadd, 1) := by decide +kernel
theorem dL_law_1517 : decode cL_law 1517 = .ok (.iaload, 1) := by decide +kernel
theorem dL_law_1518 : decode cL_law 1518 = .ok (.invokevirtual 141, 3) := by decide +kernel
theorem dL_law_1521 : decode cL_law 1521 = .ok (.if_icmp .eq 517, 3) := by decide +kernel
theorem dL_law_1524 : decode cL_law 1524 = .ok (.iconst 0, 1) := by decide +kernel
theorem dL_law_1525 : decode cL_law 1525 = .ok (.ireturn, 1) := by decide +kernel
theorem dL_law_1526 : decode cL_law 1526 = .ok (.aload_n 1, 1) := by decide +kernel
theorem dL_law_1527 : decode cL_law 1527 = .ok (.aload_n 0, 1) := by decide +kernel
theorem dL_law_1528 : decode cL_law 1528 = .ok (.iload_n 3, 1) := by decide +kernel
theorem dL_law_1529 : decode cL_law 1529 = .ok (.iconst 1, 1) := by decide +kernel
theorem dL_law_1530 : decode cL_law 1530 = .ok (.iadd, 1) := by decide +kernel
theorem dL_law_1531 : decode cL_law 1531 = .ok (.iaload, 1) := by decide +kernel
theorem dL_law_1532 : decode cL_law 1532 = .ok (.aload_n 0, 1) := by decide +kernel
theorem dL_law_1533 : decode cL_law 1533 = .ok (.iload_n 3, 1) := by decide +kernel
theorem dL_law_1534 : decode cL_law 1534 = .ok (.iconst 2, 1) := by decide +kernel
theorem dL_law_1535 : decode cL_law 1535 = .ok (.iadd, 1) := by decide +kernel
theorem dL_law_1536 : decode cL_law 1536 = .ok (.iaload, 1) := by decide +kernel
theorem dL_law_1537 : decode cL_law 1537 = .ok (.invokevirtual 142, 3) := by decide +kernel
theorem dL_law_1540 : decode cL_law 1540 = .ok (.aload_n 2, 1) := by decide +kernel
theorem dL_law_1541 : decode cL_law 1541 = .ok (.aload_n 0, 1) := by decide +kernel
theorem dL_law_1542 : decode cL_law 1542 = .ok (.iload_n 3, 1) := by decide +kernel
theorem dL_law_1543 : decode cL_law 1543 = .ok (.iconst 1, 1) := by decide +kernel
theorem dL_law_1544 : decode cL_law 1544 = .ok (.iadd, 1) := by decide +kernel
theorem dL_law_1545 : decode cL_law 1545 = .ok (.iaload, 1) := by decide +kernel
theorem dL_law_1546 : decode cL_law 1546 = .ok (.aload_n 0, 1) := by decide +kernel
theorem dL_law_1547 : decode cL_law 1547 = .ok (.iload_n 3, 1) := by decide +kernel
theorem dL_law_1548 : decode cL_law 1548 = .ok (.iconst 2, 1) := by decide +kernel
theorem dL_law_1549 : decode cL_law 1549 = .ok (.iadd, 1) := by decide +kernel
theorem dL_law_1550 : decode cL_law 1550 = .ok (.iaload, 1) := by decide +kernel
theorem dL_law_1551 : decode cL_law 1551 = .ok (.invokevirtual 145, 3) := by decide +kernel
theorem dL_law_1554 : decode cL_law 1554 = .ok (.if_icmp .eq 484, 3) := by decide +kernel
theorem dL_law_1557 : decode cL_law 1557 = .ok (.iconst 0, 1) := by decide +kernel
theorem dL_law_1558 : decode cL_law 1558 = .ok (.ireturn, 1) := by decide +kernel
theorem dL_law_1559 : decode cL_law 1559 = .ok (.aload_n 1, 1) := by decide +kernel
theorem dL_law_1560 : decode cL_law 1560 = .ok (.aload_n 0, 1) := by decide +kernel
theorem dL_law_1561 : decode cL_law 1561 = .ok (.iload_n 3, 1) := by decide +kernel
theorem dL_law_1562 : decode cL_law 1562 = .ok (.iconst 1, 1) := by decide +kernel
theorem dL_law_1563 : decode cL_law 1563 = .ok (.iadd, 1) := by decide +kernel
theorem dL_law_1564 : decode cL_law 1564 = .ok (.iaload, 1) := by decide +kernel
theorem dL_law_1565 : decode cL_law 1565 = .ok (.aload_n 0, 1) := by decide +kernel
theorem dL_law_1566 : decode cL_law 1566 = .ok (.iload_n 3, 1) := by decide +kernel
theorem dL_law_1567 : decode cL_law 1567 = .ok (.iconst 2, 1) := by decide +kernel
theorem dL_law_1568 : decode cL_law 1568 = .ok (.iadd, 1) := by decide +kernel
theorem dL_law_1569 : decode cL_law 1569 = .ok (.iaload, 1) := by decide +kernel
theorem dL_law_1570 : decode cL_law 1570 = .ok (.aload_n 0, 1) := by decide +kernel
theorem dL_law_1571 : decode cL_law 1571 = .ok (.iload_n 3, 1) := by decide +kernel
theorem dL_law_1572 : decode cL_law 1572 = .ok (.iconst 3, 1) := by decide +kernel
theorem dL_law_1573 : decode cL_law 1573 = .ok (.iadd, 1) := by decide +kernel
theorem dL_law_1574 : decode cL_law 1574 = .ok (.iaload, 1) := by decide +kernel
theorem dL_law_1575 : decode cL_law 1575 = .ok (.invokevirtual 146, 3) := by decide +kernel
theorem dL_law_1578 : decode cL_law 1578 = .ok (.aload_n 2, 1) := by decide +kernel
theorem dL_law_1579 : decode cL_law 1579 = .ok (.aload_n 0, 1) := by decide +kernel
theorem dL_law_1580 : decode cL_law 1580 = .ok (.iload_n 3, 1) := by decide +kernel
theorem dL_law_1581 : decode cL_law 1581 = .ok (.iconst 1, 1) := by decide +kernel
theorem dL_law_1582 : decode cL_law 1582 = .ok (.iadd, 1) := by decide +kernel
theorem dL_law_1583 : decode cL_law 1583 = .ok (.iaload, 1) := by decide +kernel
theorem dL_law_1584 : decode cL_law 1584 = .ok (.aload_n 0, 1) := by decide +kernel
theorem dL_law_1585 : decode cL_law 1585 = .ok (.iload_n 3, 1) := by decide +kernel
theorem dL_law_1586 : decode cL_law 1586 = .ok (.iconst 2, 1) := by decide +kernel
theorem dL_law_1587 : decode cL_law 1587 = .ok (.iadd, 1) := by decide +kernel
theorem dL_law_1588 : decode cL_law 1588 = .ok (.iaload, 1) := by decide +kernel
theorem dL_law_1589 : decode cL_law 1589 = .ok (.aload_n 0, 1) := by decide +kernel
theorem dL_law_1590 : decode cL_law 1590 = .ok (.iload_n 3, 1) := by decide +kernel
theorem dL_law_1591 : decode cL_law 1591 = .ok (.iconst 3, 1) := by decide +kernel
theorem dL_law_1592 : decode cL_law 1592 = .ok (.iadd, 1) := by decide +kernel
theorem dL_law_1593 : decode cL_law 1593 = .ok (.iaload, 1) := by decide +kernel
theorem dL_law_1594 : decode cL_law 1594 = .ok (.invokevirtual 149, 3) := by decide +kernel
theorem dL_law_1597 : decode cL_law 1597 = .ok (.if_icmp .eq 441, 3) := by decide +kernel
theorem dL_law_1600 : decode cL_law 1600 = .ok (.iconst 0, 1) := by decide +kernel
theorem dL_law_1601 : decode cL_law 1601 = .ok (.ireturn, 1) := by decide +kernel
theorem dL_law_1602 : decode cL_law 1602 = .ok (.aload_n 1, 1) := by decide +kernel
theorem dL_law_1603 : decode cL_law 1603 = .ok (.aload_n 0, 1) := by decide +kernel
theorem dL_law_1604 : decode cL_law 1604 = .ok (.iload_n 3, 1) := by decide +kernel
theorem dL_law_1605 : decode cL_law 1605 = .ok (.iconst 1, 1) := by decide +kernel
theorem dL_law_1606 : decode cL_law 1606 = .ok (.iadd, 1) := by decide +kernel
theorem dL_law_1607 : decode cL_law 1607 = .ok (.iaload, 1) := by decide +kernel
theorem dL_law_1608 : decode cL_law 1608 = .ok (.aload_n 0, 1) := by decide +kernel
theorem dL_law_1609 : decode cL_law 1609 = .ok (.iload_n 3, 1) := by decide +kernel
theorem dL_law_1610 : decode cL_law 1610 = .ok (.iconst 2, 1) := by decide +kernel
theorem dL_law_1611 : decode cL_law 1611 = .ok (.iadd, 1) := by decide +kernel
theorem dL_law_1612 : decode cL_law 1612 = .ok (.iaload, 1) := by decide +kernel
theorem dL_law_1613 : decode cL_law 1613 = .ok (.invokevirtual 150, 3) := by decide +kernel
theorem dL_law_1616 : decode cL_law 1616 = .ok (.aload_n 2, 1) := by decide +kernel
theorem dL_law_1617 : decode cL_law 1617 = .ok (.aload_n 0, 1) := by decide +kernel
theorem dL_law_1618 : decode cL_law 1618 = .ok (.iload_n 3, 1) := by decide +kernel
theorem dL_law_1619 : decode cL_law 1619 = .ok (.iconst 1, 1) := by decide +kernel
theorem dL_law_1620 : decode cL_law 1620 = .ok (.iadd, 1) := by decide +kernel
theorem dL_law_1621 : decode cL_law 1621 = .ok (.iaload, 1) := by decide +kernel
theorem dL_law_1622 : decode cL_law 1622 = .ok (.aload_n 0, 1) := by decide +kernel
theorem dL_law_1623 : decode cL_law 1623 = .ok (.iload_n 3, 1) := by decide +kernel
theorem dL_law_1624 : decode cL_law 1624 = .ok (.iconst 2, 1) := by decide +kernel
theorem dL_law_1625 : decode cL_law 1625 = .ok (.iadd, 1) := by decide +kernel
theorem dL_law_1626 : decode cL_law 1626 = .ok (.iaload, 1) := by decide +kernel
theorem dL_law_1627 : decode cL_law 1627 = .ok (.invokevirtual 153, 3) := by decide +kernel
theorem dL_law_1630 : decode cL_law 1630 = .ok (.if_icmp .eq 408, 3) := by decide +kernel
theorem dL_law_1633 : decode cL_law 1633 = .ok (.iconst 0, 1) := by decide +kernel
theorem dL_law_1634 : decode cL_law 1634 = .ok (.ireturn, 1) := by decide +kernel
theorem dL_law_1635 : decode cL_law 1635 = .ok (.aload_n 1, 1) := by decide +kernel
theorem dL_law_1636 : decode cL_law 1636 = .ok (.aload_n 0, 1) := by decide +kernel
theorem dL_law_1637 : decode cL_law 1637 = .ok (.iload_n 3, 1) := by decide +kernel
theorem dL_law_1638 : decode cL_law 1638 = .ok (.iconst 1, 1) := by decide +kernel
theorem dL_law_1639 : decode cL_law 1639 = .ok (.iadd, 1) := by decide +kernel
theorem dL_law_1640 : decode cL_law 1640 = .ok (.iaload, 1) := by decide +kernel
theorem dL_law_1641 : decode cL_law 1641 = .ok (.aload_n 0, 1) := by decide +kernel
theorem dL_law_1642 : decode cL_law 1642 = .ok (.iload_n 3, 1) := by decide +kernel
theorem dL_law_1643 : decode cL_law 1643 = .ok (.iconst 2, 1) := by decide +kernel
theorem dL_law_1644 : decode cL_law 1644 = .ok (.iadd, 1) := by decide +kernel
theorem dL_law_1645 : decode cL_law 1645 = .ok (.iaload, 1) := by decide +kernel
theorem dL_law_1646 : decode cL_law 1646 = .ok (.aload_n 0, 1) := by decide +kernel
theorem dL_law_1647 : decode cL_law 1647 = .ok (.iload_n 3, 1) := by decide +kernel
theorem dL_law_1648 : decode cL_law 1648 = .ok (.iconst 3, 1) := by decide +kernel
theorem dL_law_1649 : decode cL_law 1649 = .ok (.iadd, 1) := by decide +kernel
theorem dL_law_1650 : decode cL_law 1650 = .ok (.iaload, 1) := by decide +kernel
theorem dL_law_1651 : decode cL_law 1651 = .ok (.invokevirtual 154, 3) := by decide +kernel
theorem dL_law_1654 : decode cL_law 1654 = .ok (.aload_n 2, 1) := by decide +kernel
theorem dL_law_1655 : decode cL_law 1655 = .ok (.aload_n 0, 1) := by decide +kernel
theorem dL_law_1656 : decode cL_law 1656 = .ok (.iload_n 3, 1) := by decide +kernel
theorem dL_law_1657 : decode cL_law 1657 = .ok (.iconst 1, 1) := by decide +kernel
theorem dL_law_1658 : decode cL_law 1658 = .ok (.iadd, 1) := by decide +kernel
theorem dL_law_1659 : decode cL_law 1659 = .ok (.iaload, 1) := by decide +kernel
theorem dL_law_1660 : decode cL_law 1660 = .ok (.aload_n 0, 1) := by decide +kernel
theorem dL_law_1661 : decode cL_law 1661 = .ok (.iload_n 3, 1) := by decide +kernel
theorem dL_law_1662 : decode cL_law 1662 = .ok (.iconst 2, 1) := by decide +kernel
theorem dL_law_1663 : decode cL_law 1663 = .ok (.iadd, 1) := by decide +kernel
theorem dL_law_1664 : decode cL_law 1664 = .ok (.iaload, 1) := by decide +kernel
theorem dL_law_1665 : decode cL_law 1665 = .ok (.aload_n 0, 1) := by decide +kernel
theorem dL_law_1666 : decode cL_law 1666 = .ok (.iload_n 3, 1) := by decide +kernel
theorem dL_law_1667 : decode cL_law 1667 = .ok (.iconst 3, 1) := by decide +kernel
theorem dL_law_1668 : decode cL_law 1668 = .ok (.iadd, 1) := by decide +kernel
theorem dL_law_1669 : decode cL_law 1669 = .ok (.iaload, 1) := by decide +kernel
theorem dL_law_1670 : decode cL_law 1670 = .ok (.invokevirtual 157, 3) := by decide +kernel
theorem dL_law_1673 : decode cL_law 1673 = .ok (.if_icmp .eq 365, 3) := by decide +kernel
theorem dL_law_1676 : decode cL_law 1676 = .ok (.iconst 0, 1) := by decide +kernel
theorem dL_law_1677 : decode cL_law 1677 = .ok (.ireturn, 1) := by decide +kernel
theorem dL_law_1678 : decode cL_law 1678 = .ok (.aload_n 1, 1) := by decide +kernel
theorem dL_law_1679 : decode cL_law 1679 = .ok (.aload_n 0, 1) := by decide +kernel
theorem dL_law_1680 : decode cL_law 1680 = .ok (.iload_n 3, 1) := by decide +kernel
theorem dL_law_1681 : decode cL_law 1681 = .ok (.iconst 1, 1) := by decide +kernel
theorem dL_law_1682 : decode cL_law 1682 = .ok (.iadd, 1) := by decide +kernel
theorem dL_law_1683 : decode cL_law 1683 = .ok (.iaload, 1) := by decide +kernel
theorem dL_law_1684 : decode cL_law 1684 = .ok (.aload_n 0, 1) := by decide +kernel
theorem dL_law_1685 : decode cL_law 1685 = .ok (.iload_n 3, 1) := by decide +kernel
theorem dL_law_1686 : decode cL_law 1686 = .ok (.iconst 2, 1) := by decide +kernel
theorem dL_law_1687 : decode cL_law 1687 = .ok (.iadd, 1) := by decide +kernel
theorem dL_law_1688 : decode cL_law 1688 = .ok (.iaload, 1) := by decide +kernel
theorem dL_law_1689 : decode cL_law 1689 = .ok (.aload_n 0, 1) := by decide +kernel
theorem dL_law_1690 : decode cL_law 1690 = .ok (.iload_n 3, 1) := by decide +kernel
theorem dL_law_1691 : decode cL_law 1691 = .ok (.iconst 3, 1) := by decide +kernel
theorem dL_law_1692 : decode cL_law 1692 = .ok (.iadd, 1) := by decide +kernel
theorem dL_law_1693 : decode cL_law 1693 = .ok (.iaload, 1) := by decide +kernel
theorem dL_law_1694 : decode cL_law 1694 = .ok (.aload_n 0, 1) := by decide +kernel
theorem dL_law_1695 : decode cL_law 1695 = .ok (.iload_n 3, 1) := by decide +kernel
theorem dL_law_1696 : decode cL_law 1696 = .ok (.iconst 4, 1) := by decide +kernel
theorem dL_law_1697 : decode cL_law 1697 = .ok (.iadd, 1) := by decide +kernel
theorem dL_law_1698 : decode cL_law 1698 = .ok (.iaload, 1) := by decide +kernel
theorem dL_law_1699 : decode cL_law 1699 = .ok (.invokevirtual 158, 3) := by decide +kernel
theorem dL_law_1702 : decode cL_law 1702 = .ok (.aload_n 2, 1) := by decide +kernel
theorem dL_law_1703 : decode cL_law 1703 = .ok (.aload_n 0, 1) := by decide +kernel
theorem dL_law_1704 : decode cL_law 1704 = .ok (.iload_n 3, 1) := by decide +kernel
theorem dL_law_1705 : decode cL_law 1705 = .ok (.iconst 1, 1) := by decide +kernel
theorem dL_law_1706 : decode cL_law 1706 = .ok (.iadd, 1) := by decide +kernel
theorem dL_law_1707 : decode cL_law 1707 = .ok (.iaload, 1) := by decide +kernel
theorem dL_law_1708 : decode cL_law 1708 = .ok (.aload_n 0, 1) := by decide +kernel
theorem dL_law_1709 : decode cL_law 1709 = .ok (.iload_n 3, 1) := by decide +kernel
theorem dL_law_1710 : decode cL_law 1710 = .ok (.iconst 2, 1) := by decide +kernel
theorem dL_law_1711 : decode cL_law 1711 = .ok (.iadd, 1) := by decide +kernel
theorem dL_law_1712 : decode cL_law 1712 = .ok (.iaload, 1) := by decide +kernel
theorem dL_law_1713 : decode cL_law 1713 = .ok (.aload_n 0, 1) := by decide +kernel
theorem dL_law_1714 : decode cL_law 1714 = .ok (.iload_n 3, 1) := by decide +kernel
theorem dL_law_1715 : decode cL_law 1715 = .ok (.iconst 3, 1) := by decide +kernel
theorem dL_law_1716 : decode cL_law 1716 = .ok (.iadd, 1) := by decide +kernel
theorem dL_law_1717 : decode cL_law 1717 = .ok (.iaload, 1) := by decide +kernel
theorem dL_law_1718 : decode cL_law 1718 = .ok (.aload_n 0, 1) := by decide +kernel
theorem dL_law_1719 : decode cL_law 1719 = .ok (.iload_n 3, 1) := by decide +kernel
theorem dL_law_1720 : decode cL_law 1720 = .ok (.iconst 4, 1) := by decide +kernel
theorem dL_law_1721 : decode cL_law 1721 = .ok (.iadd, 1) := by decide +kernel
theorem dL_law_1722 : decode cL_law 1722 = .ok (.iaload, 1) := by decide +kernel
theorem dL_law_1723 : decode cL_law 1723 = .ok (.invokevirtual 161, 3) := by decide +kernel
theorem dL_law_1726 : decode cL_law 1726 = .ok (.if_icmp .eq 312, 3) := by decide +kernel
theorem dL_law_1729 : decode cL_law 1729 = .ok (.iconst 0, 1) := by decide +kernel
theorem dL_law_1730 : decode cL_law 1730 = .ok (.ireturn, 1) := by decide +kernel
theorem dL_law_1731 : decode cL_law 1731 = .ok (.aload_n 1, 1) := by decide +kernel
theorem dL_law_1732 : decode cL_law 1732 = .ok (.aload_n 0, 1) := by decide +kernel
theorem dL_law_1733 : decode cL_law 1733 = .ok (.iload_n 3, 1) := by decide +kernel
theorem dL_law_1734 : decode cL_law 1734 = .ok (.iconst 1, 1) := by decide +kernel
theorem dL_law_1735 : decode cL_law 1735 = .ok (.iadd, 1) := by decide +kernel
theorem dL_law_1736 : decode cL_law 1736 = .ok (.iaload, 1) := by decide +kernel
theorem dL_law_1737 : decode cL_law 1737 = .ok (.aload_n 0, 1) := by decide +kernel
theorem dL_law_1738 : decode cL_law 1738 = .ok (.iload_n 3, 1) := by decide +kernel
theorem dL_law_1739 : decode cL_law 1739 = .ok (.iconst 2, 1) := by decide +kernel
theorem dL_law_1740 : decode cL_law 1740 = .ok (.iadd, 1) := by decide +kernel
theorem dL_law_1741 : decode cL_law 1741 = .ok (.iaload, 1) := by decide +kernel
theorem dL_law_1742 : decode cL_law 1742 = .ok (.invokevirtual 162, 3) := by decide +kernel
theorem dL_law_1745 : decode cL_law 1745 = .ok (.aload_n 2, 1) := by decide +kernel
theorem dL_law_1746 : decode cL_law 1746 = .ok (.aload_n 0, 1) := by decide +kernel
theorem dL_law_1747 : decode cL_law 1747 = .ok (.iload_n 3, 1) := by decide +kernel
theorem dL_law_1748 : decode cL_law 1748 = .ok (.iconst 1, 1) := by decide +kernel
theorem dL_law_1749 : decode cL_law 1749 = .ok (.iadd, 1) := by decide +kernel
theorem dL_law_1750 : decode cL_law 1750 = .ok (.iaload, 1) := by decide +kernel
theorem dL_law_1751 : decode cL_law 1751 = .ok (.aload_n 0, 1) := by decide +kernel
theorem dL_law_1752 : decode cL_law 1752 = .ok (.iload_n 3, 1) := by decide +kernel
theorem dL_law_1753 : decode cL_law 1753 = .ok (.iconst 2, 1) := by decide +kernel
theorem dL_law_1754 : decode cL_law 1754 = .ok (.iadd, 1) := by decide +kernel
theorem dL_law_1755 : decode cL_law 1755 = .ok (.iaload, 1) := by decide +kernel
theorem dL_law_1756 : decode cL_law 1756 = .ok (.invokevirtual 165, 3) := by decide +kernel
theorem dL_law_1759 : decode cL_law 1759 = .ok (.if_icmp .eq 279, 3) := by decide +kernel
theorem dL_law_1762 : decode cL_law 1762 = .ok (.iconst 0, 1) := by decide +kernel
theorem dL_law_1763 : decode cL_law 1763 = .ok (.ireturn, 1) := by decide +kernel
theorem dL_law_1764 : decode cL_law 1764 = .ok (.aload_n 1, 1) := by decide +kernel
theorem dL_law_1765 : decode cL_law 1765 = .ok (.aload_n 0, 1) := by decide +kernel
theorem dL_law_1766 : decode cL_law 1766 = .ok (.iload_n 3, 1) := by decide +kernel
theorem dL_law_1767 : decode cL_law 1767 = .ok (.iconst 1, 1) := by decide +kernel
theorem dL_law_1768 : decode cL_law 1768 = .ok (.iadd, 1) := by decide +kernel
theorem dL_law_1769 : decode cL_law 1769 = .ok (.iaload, 1) := by decide +kernel
theorem dL_law_1770 : decode cL_law 1770 = .ok (.aload_n 0, 1) := by decide +kernel
theorem dL_law_1771 : decode cL_law 1771 = .ok (.iload_n 3, 1) := by decide +kernel
theorem dL_law_1772 : decode cL_law 1772 = .ok (.iconst 2, 1) := by decide +kernel
theorem dL_law_1773 : decode cL_law 1773 = .ok (.iadd, 1) := by decide +kernel
theorem dL_law_1774 : decode cL_law 1774 = .ok (.iaload, 1) := by decide +kernel
theorem dL_law_1775 : decode cL_law 1775 = .ok (.aload_n 0, 1) := by decide +kernel
theorem dL_law_1776 : decode cL_law 1776 = .ok (.iload_n 3, 1) := by decide +kernel
theorem dL_law_1777 : decode cL_law 1777 = .ok (.iconst 3, 1) := by decide +kernel
theorem dL_law_1778 : decode cL_law 1778 = .ok (.iadd, 1) := by decide +kernel
theorem dL_law_1779 : decode cL_law 1779 = .ok (.iaload, 1) := by decide +kernel
theorem dL_law_1780 : decode cL_law 1780 = .ok (.invokevirtual 166, 3) := by decide +kernel
theorem dL_law_1783 : decode cL_law 1783 = .ok (.aload_n 2, 1) := by decide +kernel
theorem dL_law_1784 : decode cL_law 1784 = .ok (.aload_n 0, 1) := by decide +kernel
theorem dL_law_1785 : decode cL_law 1785 = .ok (.iload_n 3, 1) := by decide +kernel
theorem dL_law_1786 : decode cL_law 1786 = .ok (.iconst 1, 1) := by decide +kernel
theorem dL_law_1787 : decode cL_law 1787 = .ok (.iadd, 1) := by decide +kernel
theorem dL_law_1788 : decode cL_law 1788 = .ok (.iaload, 1) := by decide +kernel
theorem dL_law_1789 : decode cL_law 1789 = .ok (.aload_n 0, 1) := by decide +kernel
theorem dL_law_1790 : decode cL_law 1790 = .ok (.iload_n 3, 1) := by decide +kernel
theorem dL_law_1791 : decode cL_law 1791 = .ok (.iconst 2, 1) := by decide +kernel
theorem dL_law_1792 : decode cL_law 1792 = .ok (.iadd, 1) := by decide +kernel
theorem dL_law_1793 : decode cL_law 1793 = .ok (.iaload, 1) := by decide +kernel
theorem dL_law_1794 : decode cL_law 1794 = .ok (.aload_n 0, 1) := by decide +kernel
theorem dL_law_1795 : decode cL_law 1795 = .ok (.iload_n 3, 1) := by decide +kernel
theorem dL_law_1796 : decode cL_law 1796 = .ok (.iconst 3, 1) := by decide +kernel
theorem dL_law_1797 : decode cL_law 1797 = .ok (.iadd, 1) := by decide +kernel
theorem dL_law_1798 : decode cL_law 1798 = .ok (.iaload, 1) := by decide +kernel
theorem dL_law_1799 : decode cL_law 1799 = .ok (.invokevirtual 169, 3) := by decide +kernel
theorem dL_law_1802 : decode cL_law 1802 = .ok (.if_icmp .eq 236, 3) := by decide +kernel
theorem dL_law_1805 : decode cL_law 1805 = .ok (.iconst 0, 1) := by decide +kernel
theorem dL_law_1806 : decode cL_law 1806 = .ok (.ireturn, 1) := by decide +kernel
theorem dL_law_1807 : decode cL_law 1807 = .ok (.aload_n 1, 1) := by decide +kernel
theorem dL_law_1808 : decode cL_law 1808 = .ok (.aload_n 0, 1) := by decide +kernel
theorem dL_law_1809 : decode cL_law 1809 = .ok (.iload_n 3, 1) := by decide +kernel
theorem dL_law_1810 : decode cL_law 1810 = .ok (.iconst 1, 1) := by decide +kernel
theorem dL_law_1811 : decode cL_law 1811 = .ok (.iadd, 1) := by decide +kernel
theorem dL_law_1812 : decode cL_law 1812 = .ok (.iaload, 1) := by decide +kernel
theorem dL_law_1813 : decode cL_law 1813 = .ok (.aload_n 0, 1) := by decide +kernel
theorem dL_law_1814 : decode cL_law 1814 = .ok (.iload_n 3, 1) := by decide +kernel
theorem dL_law_1815 : decode cL_law 1815 = .ok (.iconst 2, 1) := by decide +kernel
theorem dL_law_1816 : decode cL_law 1816 = .ok (.iadd, 1) := by decide +kernel
theorem dL_law_1817 : decode cL_law 1817 = .ok (.iaload, 1) := by decide +kernel
theorem dL_law_1818 : decode cL_law 1818 = .ok (.aload_n 0, 1) := by decide +kernel
theorem dL_law_1819 : decode cL_law 1819 = .ok (.iload_n 3, 1) := by decide +kernel
theorem dL_law_1820 : decode cL_law 1820 = .ok (.iconst 3, 1) := by decide +kernel
theorem dL_law_1821 : decode cL_law 1821 = .ok (.iadd, 1) := by decide +kernel
theorem dL_law_1822 : decode cL_law 1822 = .ok (.iaload, 1) := by decide +kernel
theorem dL_law_1823 : decode cL_law 1823 = .ok (.aload_n 0, 1) := by decide +kernel
theorem dL_law_1824 : decode cL_law 1824 = .ok (.iload_n 3, 1) := by decide +kernel
theorem dL_law_1825 : decode cL_law 1825 = .ok (.iconst 4, 1) := by decide +kernel
theorem dL_law_1826 : decode cL_law 1826 = .ok (.iadd, 1) := by decide +kernel
theorem dL_law_1827 : decode cL_law 1827 = .ok (.iaload, 1) := by decide +kernel
theorem dL_law_1828 : decode cL_law 1828 = .ok (.invokevirtual 170, 3) := by decide +kernel
theorem dL_law_1831 : decode cL_law 1831 = .ok (.aload_n 2, 1) := by decide +kernel
theorem dL_law_1832 : decode cL_law 1832 = .ok (.aload_n 0, 1) := by decide +kernel
theorem dL_law_1833 : decode cL_law 1833 = .ok (.iload_n 3, 1) := by decide +kernel
theorem dL_law_1834 : decode cL_law 1834 = .ok (.iconst 1, 1) := by decide +kernel
theorem dL_law_1835 : decode cL_law 1835 = .ok (.iadd, 1) := by decide +kernel
theorem dL_law_1836 : decode cL_law 1836 = .ok (.iaload, 1) := by decide +kernel
theorem dL_law_1837 : decode cL_law 1837 = .ok (.aload_n 0, 1) := by decide +kernel
theorem dL_law_1838 : decode cL_law 1838 = .ok (.iload_n 3, 1) := by decide +kernel
theorem dL_law_1839 : decode cL_law 1839 = .ok (.iconst 2, 1) := by decide +kernel
theorem dL_law_1840 : decode cL_law 1840 = .ok (.iadd, 1) := by decide +kernel
theorem dL_law_1841 : decode cL_law 1841 = .ok (.iaload, 1) := by decide +kernel
theorem dL_law_1842 : decode cL_law 1842 = .ok (.aload_n 0, 1) := by decide +kernel
theorem dL_law_1843 : decode cL_law 1843 = .ok (.iload_n 3, 1) := by decide +kernel
theorem dL_law_1844 : decode cL_law 1844 = .ok (.iconst 3, 1) := by decide +kernel
theorem dL_law_1845 : decode cL_law 1845 = .ok (.iadd, 1) := by decide +kernel
theorem dL_law_1846 : decode cL_law 1846 = .ok (.iaload, 1) := by decide +kernel
theorem dL_law_1847 : decode cL_law 1847 = .ok (.aload_n 0, 1) := by decide +kernel
theorem dL_law_1848 : decode cL_law 1848 = .ok (.iload_n 3, 1) := by decide +kernel
theorem dL_law_1849 : decode cL_law 1849 = .ok (.iconst 4, 1) := by decide +kernel
theorem dL_law_1850 : decode cL_law 1850 = .ok (.iadd, 1) := by decide +kernel
theorem dL_law_1851 : decode cL_law 1851 = .ok (.iaload, 1) := by decide +kernel
theorem dL_law_1852 : decode cL_law 1852 = .ok (.invokevirtual 173, 3) := by decide +kernel
theorem dL_law_1855 : decode cL_law 1855 = .ok (.if_icmp .eq 183, 3) := by decide +kernel
theorem dL_law_1858 : decode cL_law 1858 = .ok (.iconst 0, 1) := by decide +kernel
theorem dL_law_1859 : decode cL_law 1859 = .ok (.ireturn, 1) := by decide +kernel
theorem dL_law_1860 : decode cL_law 1860 = .ok (.aload_n 1, 1) := by decide +kernel
theorem dL_law_1861 : decode cL_law 1861 = .ok (.aload_n 0, 1) := by decide +kernel
theorem dL_law_1862 : decode cL_law 1862 = .ok (.iload_n 3, 1) := by decide +kernel
theorem dL_law_1863 : decode cL_law 1863 = .ok (.iconst 1, 1) := by decide +kernel
theorem dL_law_1864 : decode cL_law 1864 = .ok (.iadd, 1) := by decide +kernel
theorem dL_law_1865 : decode cL_law 1865 = .ok (.iaload, 1) := by decide +kernel
theorem dL_law_1866 : decode cL_law 1866 = .ok (.aload_n 0, 1) := by decide +kernel
theorem dL_law_1867 : decode cL_law 1867 = .ok (.iload_n 3, 1) := by decide +kernel
theorem dL_law_1868 : decode cL_law 1868 = .ok (.iconst 2, 1) := by decide +kernel
theorem dL_law_1869 : decode cL_law 1869 = .ok (.iadd, 1) := by decide +kernel
theorem dL_law_1870 : decode cL_law 1870 = .ok (.iaload, 1) := by decide +kernel
theorem dL_law_1871 : decode cL_law 1871 = .ok (.aload_n 0, 1) := by decide +kernel
theorem dL_law_1872 : decode cL_law 1872 = .ok (.iload_n 3, 1) := by decide +kernel
theorem dL_law_1873 : decode cL_law 1873 = .ok (.iconst 3, 1) := by decide +kernel
theorem dL_law_1874 : decode cL_law 1874 = .ok (.iadd, 1) := by decide +kernel
theorem dL_law_1875 : decode cL_law 1875 = .ok (.iaload, 1) := by decide +kernel
theorem dL_law_1876 : decode cL_law 1876 = .ok (.aload_n 0, 1) := by decide +kernel
theorem dL_law_1877 : decode cL_law 1877 = .ok (.iload_n 3, 1) := by decide +kernel
theorem dL_law_1878 : decode cL_law 1878 = .ok (.iconst 4, 1) := by decide +kernel
theorem dL_law_1879 : decode cL_law 1879 = .ok (.iadd, 1) := by decide +kernel
theorem dL_law_1880 : decode cL_law 1880 = .ok (.iaload, 1) := by decide +kernel
theorem dL_law_1881 : decode cL_law 1881 = .ok (.invokevirtual 174, 3) := by decide +kernel
theorem dL_law_1884 : decode cL_law 1884 = .ok (.aload_n 2, 1) := by decide +kernel
theorem dL_law_1885 : decode cL_law 1885 = .ok (.aload_n 0, 1) := by decide +kernel
theorem dL_law_1886 : decode cL_law 1886 = .ok (.iload_n 3, 1) := by decide +kernel
theorem dL_law_1887 : decode cL_law 1887 = .ok (.iconst 1, 1) := by decide +kernel
theorem dL_law_1888 : decode cL_law 1888 = .ok (.iadd, 1) := by decide +kernel
theorem dL_law_1889 : decode cL_law 1889 = .ok (.iaload, 1) := by decide +kernel
theorem dL_law_1890 : decode cL_law 1890 = .ok (.aload_n 0, 1) := by decide +kernel
theorem dL_law_1891 : decode cL_law 1891 = .ok (.iload_n 3, 1) := by decide +kernel
theorem dL_law_1892 : decode cL_law 1892 = .ok (.iconst 2, 1) := by decide +kernel
theorem dL_law_1893 : decode cL_law 1893 = .ok (.iadd, 1) := by decide +kernel
theorem dL_law_1894 : decode cL_law 1894 = .ok (.iaload, 1) := by decide +kernel
theorem dL_law_1895 : decode cL_law 1895 = .ok (.aload_n 0, 1) := by decide +kernel
theorem dL_law_1896 : decode cL_law 1896 = .ok (.iload_n 3, 1) := by decide +kernel
theorem dL_law_1897 : decode cL_law 1897 = .ok (.iconst 3, 1) := by decide +kernel
theorem dL_law_1898 : decode cL_law 1898 = .ok (.iadd, 1) := by decide +kernel
theorem dL_law_1899 : decode cL_law 1899 = .ok (.iaload, 1) := by decide +kernel
theorem dL_law_1900 : decode cL_law 1900 = .ok (.aload_n 0, 1) := by decide +kernel
theorem dL_law_1901 : decode cL_law 1901 = .ok (.iload_n 3, 1) := by decide +kernel
theorem dL_law_1902 : decode cL_law 1902 = .ok (.iconst 4, 1) := by decide +kernel
theorem dL_law_1903 : decode cL_law 1903 = .ok (.iadd, 1) := by decide +kernel
theorem dL_law_1904 : decode cL_law 1904 = .ok (.iaload, 1) := by decide +kernel
theorem dL_law_1905 : decode cL_law 1905 = .ok (.invokevirtual 177, 3) := by decide +kernel
theorem dL_law_1908 : decode cL_law 1908 = .ok (.if_icmp .eq 130, 3) := by decide +kernel
theorem dL_law_1911 : decode cL_law 1911 = .ok (.iconst 0, 1) := by decide +kernel
theorem dL_law_1912 : decode cL_law 1912 = .ok (.ireturn, 1) := by decide +kernel
theorem dL_law_1913 : decode cL_law 1913 = .ok (.aload_n 1, 1) := by decide +kernel
theorem dL_law_1914 : decode cL_law 1914 = .ok (.aload_n 0, 1) := by decide +kernel
theorem dL_law_1915 : decode cL_law 1915 = .ok (.iload_n 3, 1) := by decide +kernel
theorem dL_law_1916 : decode cL_law 1916 = .ok (.iconst 1, 1) := by decide +kernel
theorem dL_law_1917 : decode cL_law 1917 = .ok (.iadd, 1) := by decide +kernel
theorem dL_law_1918 : decode cL_law 1918 = .ok (.iaload, 1) := by decide +kernel
theorem dL_law_1919 : decode cL_law 1919 = .ok (.aload_n 0, 1) := by decide +kernel
theorem dL_law_1920 : decode cL_law 1920 = .ok (.iload_n 3, 1) := by decide +kernel
theorem dL_law_1921 : decode cL_law 1921 = .ok (.iconst 2, 1) := by decide +kernel
theorem dL_law_1922 : decode cL_law 1922 = .ok (.iadd, 1) := by decide +kernel
theorem dL_law_1923 : decode cL_law 1923 = .ok (.iaload, 1) := by decide +kernel
theorem dL_law_1924 : decode cL_law 1924 = .ok (.aload_n 0, 1) := by decide +kernel
theorem dL_law_1925 : decode cL_law 1925 = .ok (.iload_n 3, 1) := by decide +kernel
theorem dL_law_1926 : decode cL_law 1926 = .ok (.iconst 3, 1) := by decide +kernel
theorem dL_law_1927 : decode cL_law 1927 = .ok (.iadd, 1) := by decide +kernel
theorem dL_law_1928 : decode cL_law 1928 = .ok (.iaload, 1) := by decide +kernel
theorem dL_law_1929 : decode cL_law 1929 = .ok (.invokevirtual 178, 3) := by decide +kernel
theorem dL_law_1932 : decode cL_law 1932 = .ok (.aload_n 2, 1) := by decide +kernel
theorem dL_law_1933 : decode cL_law 1933 = .ok (.aload_n 0, 1) := by decide +kernel
theorem dL_law_1934 : decode cL_law 1934 = .ok (.iload_n 3, 1) := by decide +kernel
theorem dL_law_1935 : decode cL_law 1935 = .ok (.iconst 1, 1) := by decide +kernel
theorem dL_law_1936 : decode cL_law 1936 = .ok (.iadd, 1) := by decide +kernel
theorem dL_law_1937 : decode cL_law 1937 = .ok (.iaload, 1) := by decide +kernel
theorem dL_law_1938 : decode cL_law 1938 = .ok (.aload_n 0, 1) := by decide +kernel
theorem dL_law_1939 : decode cL_law 1939 = .ok (.iload_n 3, 1) := by decide +kernel
theorem dL_law_1940 : decode cL_law 1940 = .ok (.iconst 2, 1) := by decide +kernel
theorem dL_law_1941 : decode cL_law 1941 = .ok (.iadd, 1) := by decide +kernel
theorem dL_law_1942 : decode cL_law 1942 = .ok (.iaload, 1) := by decide +kernel
theorem dL_law_1943 : decode cL_law 1943 = .ok (.aload_n 0, 1) := by decide +kernel
theorem dL_law_1944 : decode cL_law 1944 = .ok (.iload_n 3, 1) := by decide +kernel
theorem dL_law_1945 : decode cL_law 1945 = .ok (.iconst 3, 1) := by decide +kernel
theorem dL_law_1946 : decode cL_law 1946 = .ok (.iadd, 1) := by decide +kernel
theorem dL_law_1947 : decode cL_law 1947 = .ok (.iaload, 1) := by decide +kernel
theorem dL_law_1948 : decode cL_law 1948 = .ok (.invokevirtual 181, 3) := by decide +kernel
theorem dL_law_1951 : decode cL_law 1951 = .ok (.if_icmp .eq 87, 3) := by decide +kernel
theorem dL_law_1954 : decode cL_law 1954 = .ok (.iconst 0, 1) := by decide +kernel
theorem dL_law_1955 : decode cL_law 1955 = .ok (.ireturn, 1) := by decide +kernel
theorem dL_law_1956 : decode cL_law 1956 = .ok (.aload_n 1, 1) := by decide +kernel
theorem dL_law_1957 : decode cL_law 1957 = .ok (.aload_n 0, 1) := by decide +kernel
theorem dL_law_1958 : decode cL_law 1958 = .ok (.iload_n 3, 1) := by decide +kernel
theorem dL_law_1959 : decode cL_law 1959 = .ok (.iconst 1, 1) := by decide +kernel
theorem dL_law_1960 : decode cL_law 1960 = .ok (.iadd, 1) := by decide +kernel
theorem dL_law_1961 : decode cL_law 1961 = .ok (.iaload, 1) := by decide +kernel
theorem dL_law_1962 : decode cL_law 1962 = .ok (.invokevirtual 182, 3) := by decide +kernel
theorem dL_law_1965 : decode cL_law 1965 = .ok (.aload_n 2, 1) := by decide +kernel
theorem dL_law_1966 : decode cL_law 1966 = .ok (.aload_n 0, 1) := by decide +kernel
theorem dL_law_1967 : decode cL_law 1967 = .ok (.iload_n 3, 1) := by decide +kernel
theorem dL_law_1968 : decode cL_law 1968 = .ok (.iconst 1, 1) := by decide +kernel
theorem dL_law_1969 : decode cL_law 1969 = .ok (.iadd, 1) := by decide +kernel
theorem dL_law_1970 : decode cL_law 1970 = .ok (.iaload, 1) := by decide +kernel
theorem dL_law_1971 : decode cL_law 1971 = .ok (.invokevirtual 185, 3) := by decide +kernel
theorem dL_law_1974 : decode cL_law 1974 = .ok (.if_icmp .eq 64, 3) := by decide +kernel
theorem dL_law_1977 : decode cL_law 1977 = .ok (.iconst 0, 1) := by decide +kernel
theorem dL_law_1978 : decode cL_law 1978 = .ok (.ireturn, 1) := by decide +kernel
theorem dL_law_1979 : decode cL_law 1979 = .ok (.aload_n 1, 1) := by decide +kernel
theorem dL_law_1980 : decode cL_law 1980 = .ok (.aload_n 0, 1) := by decide +kernel
theorem dL_law_1981 : decode cL_law 1981 = .ok (.iload_n 3, 1) := by decide +kernel
theorem dL_law_1982 : decode cL_law 1982 = .ok (.iconst 1, 1) := by decide +kernel
theorem dL_law_1983 : decode cL_law 1983 = .ok (.iadd, 1) := by decide +kernel
theorem dL_law_1984 : decode cL_law 1984 = .ok (.iaload, 1) := by decide +kernel
theorem dL_law_1985 : decode cL_law 1985 = .ok (.invokevirtual 186, 3) := by decide +kernel
theorem dL_law_1988 : decode cL_law 1988 = .ok (.aload_n 2, 1) := by decide +kernel
theorem dL_law_1989 : decode cL_law 1989 = .ok (.aload_n 0, 1) := by decide +kernel
theorem dL_law_1990 : decode cL_law 1990 = .ok (.iload_n 3, 1) := by decide +kernel
theorem dL_law_1991 : decode cL_law 1991 = .ok (.iconst 1, 1) := by decide +kernel
theorem dL_law_1992 : decode cL_law 1992 = .ok (.iadd, 1) := by decide +kernel
theorem dL_law_1993 : decode cL_law 1993 = .ok (.iaload, 1) := by decide +kernel
theorem dL_law_1994 : decode cL_law 1994 = .ok (.invokevirtual 189, 3) := by decide +kernel
theorem dL_law_1997 : decode cL_law 1997 = .ok (.if_icmp .eq 41, 3) := by decide +kernel
theorem dL_law_2000 : decode cL_law 2000 = .ok (.iconst 0, 1) := by decide +kernel
theorem dL_law_2001 : decode cL_law 2001 = .ok (.ireturn, 1) := by decide +kernel
theorem dL_law_2002 : decode cL_law 2002 = .ok (.aload_n 1, 1) := by decide +kernel
theorem dL_law_2003 : decode cL_law 2003 = .ok (.aload_n 0, 1) := by decide +kernel
theorem dL_law_2004 : decode cL_law 2004 = .ok (.iload_n 3, 1) := by decide +kernel
theorem dL_law_2005 : decode cL_law 2005 = .ok (.iconst 1, 1) := by decide +kernel
theorem dL_law_2006 : decode cL_law 2006 = .ok (.iadd, 1) := by decide +kernel
theorem dL_law_2007 : decode cL_law 2007 = .ok (.iaload, 1) := by decide +kernel
theorem dL_law_2008 : decode cL_law 2008 = .ok (.invokevirtual 190, 3) := by decide +kernel
theorem dL_law_2011 : decode cL_law 2011 = .ok (.aload_n 2, 1) := by decide +kernel
theorem dL_law_2012 : decode cL_law 2012 = .ok (.aload_n 0, 1) := by decide +kernel
theorem dL_law_2013 : decode cL_law 2013 = .ok (.iload_n 3, 1) := by decide +kernel
theorem dL_law_2014 : decode cL_law 2014 = .ok (.iconst 1, 1) := by decide +kernel
theorem dL_law_2015 : decode cL_law 2015 = .ok (.iadd, 1) := by decide +kernel
theorem dL_law_2016 : decode cL_law 2016 = .ok (.iaload, 1) := by decide +kernel
theorem dL_law_2017 : decode cL_law 2017 = .ok (.invokevirtual 193, 3) := by decide +kernel
theorem dL_law_2020 : decode cL_law 2020 = .ok (.if_icmp .eq 18, 3) := by decide +kernel
theorem dL_law_2023 : decode cL_law 2023 = .ok (.iconst 0, 1) := by decide +kernel
theorem dL_law_2024 : decode cL_law 2024 = .ok (.ireturn, 1) := by decide +kernel
theorem dL_law_2025 : decode cL_law 2025 = .ok (.aload_n 1, 1) := by decide +kernel
theorem dL_law_2026 : decode cL_law 2026 = .ok (.invokevirtual 194, 3) := by decide +kernel
theorem dL_law_2029 : decode cL_law 2029 = .ok (.aload_n 2, 1) := by decide +kernel
theorem dL_law_2030 : decode cL_law 2030 = .ok (.invokevirtual 197, 3) := by decide +kernel
theorem dL_law_2033 : decode cL_law 2033 = .ok (.if_icmp .eq 5, 3) := by decide +kernel
theorem dL_law_2036 : decode cL_law 2036 = .ok (.iconst 0, 1) := by decide +kernel
theorem dL_law_2037 : decode cL_law 2037 = .ok (.ireturn, 1) := by decide +kernel
theorem dL_law_2038 : decode cL_law 2038 = .ok (.iinc 3 9, 3) := by decide +kernel
theorem dL_law_2041 : decode cL_law 2041 = .ok (.goto (-2023), 3) := by decide +kernel
theorem dL_law_2044 : decode cL_law 2044 = .ok (.iconst 1, 1) := by decide +kernel
theorem dL_law_2045 : decode cL_law 2045 = .ok (.ireturn, 1) := by decide +kernel
def W_L_law_0 (X : Sx) (l : Launch) (D : Nat) (σ : AH) (r : Option Value) (σ' : AH) : Prop := (∀ τ1 : AH, τ1 = (aw σ 11 (NO 11)) → ∃ d6 : Nat, ∃ σ7 : AH, d6 + 1 ≤ D ∧ Call X l m_X11_init d6 [.ref (nx σ)] τ1 none σ7 ∧ (∀ τ13 : AH, τ13 = (aw σ7 12 (NO 12)) → ∃ d20 : Nat, ∃ σ21 : AH, d20 + 1 ≤ D ∧ Call X l m_X12_init d20 [.ref (nx σ7)] τ13 none σ21 ∧ E X l m_LW D 18 [(0, .ref 1000000), (1, .ref (nx σ)), (2, .ref (nx σ7)), (3, .int (0 : Int32))] [] σ21 r σ'))
set_option maxRecDepth 100000 in
theorem w_L_law_0 {X : Sx} {l : Launch} {D : Nat} {σ : AH} {r : Option Value} {σ' : AH} (h : W_L_law_0 X l D σ r σ') : E X l m_LW D 0 [(0, .ref 1000000)] [] σ r σ' := by
  unfold W_L_law_0 at h
  refine E_new 11 dL_law_0 (by decide) ck_L_7 ?_
  obtain ⟨τ1, e2⟩ : ∃ τ : AH, τ = (aw σ 11 (NO 11)) := ⟨_, rfl⟩
  replace h := h τ1 e2
  rw [← e2]
  have hk4 : kd _ (nx σ) = (11, NO 11) := (congrFun (congrArg kd e2) _).trans (up_same _ _ _)
  have hb5 := Nat.lt_of_lt_of_eq (Nat.lt_succ_self _) (congrArg nx e2).symm
  refine E_dup dL_law_3 rfl ?_
  obtain ⟨d6, σ7, hD8, hC9, h⟩ := h
  have hk11 := (hC9.1.2.2.1 _ hb5).trans hk4
  have hb12 := Nat.lt_of_lt_of_le hb5 hC9.1.1
  refine E_callI (As := []) (rest := [.ref (nx σ)]) (r1 := none) (b := (nx σ)) dL_law_4 ok_X11_init in_X11_init rfl rfl ml_L_9 hD8 rfl rfl (Nat.le_of_ble_eq_true rfl) (by decide +kernel) hC9 ?_
  refine E_astore_n [(1, .ref (nx σ)), (0, .ref 1000000)] dL_law_7 rfl (by decide) rfl ?_
  refine E_new 12 dL_law_8 (by decide) ck_L_10 ?_
  obtain ⟨τ13, e14⟩ : ∃ τ : AH, τ = (aw σ7 12 (NO 12)) := ⟨_, rfl⟩
  replace h := h τ13 e14
  rw [← e14]
  have hk16 : kd _ (nx σ) = (11, NO 11) := (congrFun (congrArg kd e14) _).trans ((up_ne _ _ _ (Nat.ne_of_lt hb12)).trans hk11)
  have hb17 := Nat.lt_of_lt_of_eq (Nat.lt_succ_of_lt hb12) (congrArg nx e14).symm
  have hk18 : kd _ (nx σ7) = (12, NO 12) := (congrFun (congrArg kd e14) _).trans (up_same _ _ _)
  have hb19 := Nat.lt_of_lt_of_eq (Nat.lt_succ_self _) (congrArg nx e14).symm
  refine E_dup dL_law_11 rfl ?_
  obtain ⟨d20, σ21, hD22, hC23, h⟩ := h
  have hk25 := (hC23.1.2.2.1 _ hb17).trans hk16
  have hb26 := Nat.lt_of_lt_of_le hb17 hC23.1.1
  have hk27 := (hC23.1.2.2.1 _ hb19).trans hk18
  have hb28 := Nat.lt_of_lt_of_le hb19 hC23.1.1
  refine E_callI (As := []) (rest := [.ref (nx σ7)]) (r1 := none) (b := (nx σ7)) dL_law_12 ok_X12_init in_X12_init rfl rfl ml_L_12 hD22 rfl rfl (Nat.le_of_ble_eq_true rfl) (by decide +kernel) hC23 ?_
  refine E_astore_n [(2, .ref (nx σ7)), (1, .ref (nx σ)), (0, .ref 1000000)] dL_law_15 rfl (by decide) rfl ?_
  refine E_iconst (0 : Int32) dL_law_16 (by decide) ?_
  refine E_istore_n [(3, .int (0 : Int32)), (2, .ref (nx σ7)), (1, .ref (nx σ)), (0, .ref 1000000)] dL_law_17 rfl (by decide) rfl ?_
  exact E_lv [3, 2, 1, 0] rfl h
def W_L_law_2038 (X : Sx) (l : Launch) (D : Nat) (x3 : Int32) (σ : AH) (r : Option Value) (σ' : AH) : Prop := E X l m_LW D 18 [(0, .ref 1000000), (1, .ref 0), (2, .ref 124), (3, .int (x3 + 9))] [] σ r σ'
set_option maxRecDepth 100000 in
theorem w_L_law_2038 {X : Sx} {l : Launch} {D : Nat} {x3 : Int32} {σ : AH} {r : Option Value} {σ' : AH} (hs : Sh σ) (h : W_L_law_2038 X l D x3 σ r σ') : E X l m_LW D 2038 [(0, .ref 1000000), (1, .ref 0), (2, .ref 124), (3, .int x3)] [] σ r σ' := by
  unfold W_L_law_2038 at h
  refine E_iinc 3 (x3 + 9) [(3, .int (x3 + 9)), (0, .ref 1000000), (1, .ref 0), (2, .ref 124)] dL_law_2038 rfl (congrArg (x3 + ·) (by decide : Int32.ofInt 9 = 9)) (by decide) rfl ?_
  refine E_goto 18 dL_law_2041 (by decide) ?_
  exact E_lv [1, 2, 3, 0] rfl h
def W_L_law_1010 (X : Sx) (l : Launch) (D : Nat) (x3 : Int32) (σ : AH) (r : Option Value) (σ' : AH) : Prop := vp_in (x3 + (1 : Int32)) X.1 ∧ ∃ d337 : Nat, ∃ v342 : Int32, ∃ σ338 : AH, d337 + 1 ≤ D ∧ Call X l m_X11_wish d337 [.ref 0, .int (X.2 (x3 + (1 : Int32)).toNatClampNeg)] σ (some (.int v342)) σ338 ∧ vp_in (x3 + (1 : Int32)) X.1 ∧ ∃ d344 : Nat, ∃ v349 : Int32, ∃ σ345 : AH, d344 + 1 ≤ D ∧ Call X l m_X12_wish d344 [.ref 124, .int (X.2 (x3 + (1 : Int32)).toNatClampNeg)] σ338 (some (.int v349)) σ345 ∧ (if v342 = v349 then W_L_law_2038 X l D x3 σ345 r σ' else (r = some (.int (0 : Int32)) ∧ σ' = σ345))
set_option maxRecDepth 100000 in
theorem w_L_law_1010 {X : Sx} {l : Launch} {D : Nat} {x3 : Int32} {σ : AH} {r : Option Value} {σ' : AH} (hs : Sh σ) (h : W_L_law_1010 X l D x3 σ r σ') : E X l m_LW D 1010 [(0, .ref 1000000), (1, .ref 0), (2, .ref 124), (3, .int x3)] [] σ r σ' := by
  unfold W_L_law_1010 at h
  refine E_aload_n 1 dL_law_1010 rfl rfl ?_
  refine E_aload_n 0 dL_law_1011 rfl rfl ?_
  refine E_iload_n 3 dL_law_1012 rfl rfl ?_
  refine E_iconst (1 : Int32) dL_law_1013 (by decide) ?_
  refine E_iadd dL_law_1014 ?_
  obtain ⟨g336, h⟩ := h
  refine E_sld dL_law_1015 g336 ?_
  obtain ⟨d337, v342, σ338, hD339, hC340, h⟩ := h
  have hs341 := hC340.1.2.2.2.1 hs
  refine E_callV (As := [.int (X.2 (x3 + (1 : Int32)).toNatClampNeg)]) (rest := []) (r1 := (some (.int v342))) (b := 0) dL_law_1016 ok_X11_wish in_X11_wish se_X11_wish ml_L_85 hD339 rfl rfl (Nat.le_of_ble_eq_true rfl) (sk_0 hs) (sn hs (by decide)) (by decide) rfl (by decide +kernel) hC340 ?_
  refine E_aload_n 2 dL_law_1019 rfl rfl ?_
  refine E_aload_n 0 dL_law_1020 rfl rfl ?_
  refine E_iload_n 3 dL_law_1021 rfl rfl ?_
  refine E_iconst (1 : Int32) dL_law_1022 (by decide) ?_
  refine E_iadd dL_law_1023 ?_
  obtain ⟨g343, h⟩ := h
  refine E_sld dL_law_1024 g343 ?_
  obtain ⟨d344, v349, σ345, hD346, hC347, h⟩ := h
  have hs348 := hC347.1.2.2.2.1 hs341
  refine E_callV (As := [.int (X.2 (x3 + (1 : Int32)).toNatClampNeg)]) (rest := [.int v342]) (r1 := (some (.int v349))) (b := 124) dL_law_1025 ok_X12_wish in_X12_wish se_X12_wish ml_L_88 hD346 rfl rfl (Nat.le_of_ble_eq_true rfl) (sk_124 hs341) (sn hs341 (by decide)) (by decide) rfl (by decide +kernel) hC347 ?_
  refine E_icmp_eq 2038 dL_law_1028 (by decide) (fun c => ?_) (fun c => ?_)
  · rw [if_pos c] at h
    exact E_lv [0, 1, 2, 3] rfl (w_L_law_2038 hs348 h)
  · rw [if_neg c] at h
    refine E_iconst (0 : Int32) dL_law_1031 (by decide) ?_
    obtain ⟨rfl, rfl⟩ := h
    exact E_zret dL_law_1032 rfl (Or.inl rfl)
def W_L_law_1033 (X : Sx) (l : Launch) (D : Nat) (x3 : Int32) (σ : AH) (r : Option Value) (σ' : AH) : Prop := ∃ d350 : Nat, ∃ v355 : Int32, ∃ σ351 : AH, d350 + 1 ≤ D ∧ Call X l m_X11_clear d350 [.ref 0] σ (some (.int v355)) σ351 ∧ ∃ d356 : Nat, ∃ v361 : Int32, ∃ σ357 : AH, d356 + 1 ≤ D ∧ Call X l m_X12_clear d356 [.ref 124] σ351 (some (.int v361)) σ357 ∧ (if v355 = v361 then W_L_law_2038 X l D x3 σ357 r σ' else (r = some (.int (0 : Int32)) ∧ σ' = σ357))
set_option maxRecDepth 100000 in
theorem w_L_law_1033 {X : Sx} {l : Launch} {D : Nat} {x3 : Int32} {σ : AH} {r : Option Value} {σ' : AH} (hs : Sh σ) (h : W_L_law_1033 X l D x3 σ r σ') : E X l m_LW D 1033 [(0, .ref 1000000), (1, .ref 0), (2, .ref 124), (3, .int x3)] [] σ r σ' := by
  unfold W_L_law_1033 at h
  refine E_aload_n 1 dL_law_1033 rfl rfl ?_
  obtain ⟨d350, v355, σ351, hD352, hC353, h⟩ := h
  have hs354 := hC353.1.2.2.2.1 hs
  refine E_callV (As := []) (rest := []) (r1 := (some (.int v355))) (b := 0) dL_law_1034 ok_X11_clear in_X11_clear se_X11_clear ml_L_89 hD352 rfl rfl (Nat.le_of_ble_eq_true rfl) (sk_0 hs) (sn hs (by decide)) (by decide) rfl (by decide +kernel) hC353 ?_
  refine E_aload_n 2 dL_law_1037 rfl rfl ?_
  obtain ⟨d356, v361, σ357, hD358, hC359, h⟩ := h
  have hs360 := hC359.1.2.2.2.1 hs354
  refine E_callV (As := []) (rest := [.int v355]) (r1 := (some (.int v361))) (b := 124) dL_law_1038 ok_X12_clear in_X12_clear se_X12_clear ml_L_92 hD358 rfl rfl (Nat.le_of_ble_eq_true rfl) (sk_124 hs354) (sn hs354 (by decide)) (by decide) rfl (by decide +kernel) hC359 ?_
  refine E_icmp_eq 2038 dL_law_1041 (by decide) (fun c => ?_) (fun c => ?_)
  · rw [if_pos c] at h
    exact E_lv [0, 1, 2, 3] rfl (w_L_law_2038 hs360 h)
  · rw [if_neg c] at h
    refine E_iconst (0 : Int32) dL_law_1044 (by decide) ?_
    obtain ⟨rfl, rfl⟩ := h
    exact E_zret dL_law_1045 rfl (Or.inl rfl)
def W_L_law_1046 (X : Sx) (l : Launch) (D : Nat) (x3 : Int32) (σ : AH) (r : Option Value) (σ' : AH) : Prop := vp_in (x3 + (1 : Int32)) X.1 ∧ ∃ d363 : Nat, ∃ v368 : Int32, ∃ σ364 : AH, d363 + 1 ≤ D ∧ Call X l m_X11_best d363 [.ref 0, .int (X.2 (x3 + (1 : Int32)).toNatClampNeg)] σ (some (.int v368)) σ364 ∧ vp_in (x3 + (1 : Int32)) X.1 ∧ ∃ d370 : Nat, ∃ v375 : Int32, ∃ σ371 : AH, d370 + 1 ≤ D ∧ Call X l m_X12_best d370 [.ref 124, .int (X.2 (x3 + (1 : Int32)).toNatClampNeg)] σ364 (some (.int v375)) σ371 ∧ (if v368 = v375 then W_L_law_2038 X l D x3 σ371 r σ' else (r = some (.int (0 : Int32)) ∧ σ' = σ371))
set_option maxRecDepth 100000 in
theorem w_L_law_1046 {X : Sx} {l : Launch} {D : Nat} {x3 : Int32} {σ : AH} {r : Option Value} {σ' : AH} (hs : Sh σ) (h : W_L_law_1046 X l D x3 σ r σ') : E X l m_LW D 1046 [(0, .ref 1000000), (1, .ref 0), (2, .ref 124), (3, .int x3)] [] σ r σ' := by
  unfold W_L_law_1046 at h
  refine E_aload_n 1 dL_law_1046 rfl rfl ?_
  refine E_aload_n 0 dL_law_1047 rfl rfl ?_
  refine E_iload_n 3 dL_law_1048 rfl rfl ?_
  refine E_iconst (1 : Int32) dL_law_1049 (by decide) ?_
  refine E_iadd dL_law_1050 ?_
  obtain ⟨g362, h⟩ := h
  refine E_sld dL_law_1051 g362 ?_
  obtain ⟨d363, v368, σ364, hD365, hC366, h⟩ := h
  have hs367 := hC366.1.2.2.2.1 hs
  refine E_callV (As := [.int (X.2 (x3 + (1 : Int32)).toNatClampNeg)]) (rest := []) (r1 := (some (.int v368))) (b := 0) dL_law_1052 ok_X11_best in_X11_best se_X11_best ml_L_93 hD365 rfl rfl (Nat.le_of_ble_eq_true rfl) (sk_0 hs) (sn hs (by decide)) (by decide) rfl (by decide +kernel) hC366 ?_
  refine E_aload_n 2 dL_law_1055 rfl rfl ?_
  refine E_aload_n 0 dL_law_1056 rfl rfl ?_
  refine E_iload_n 3 dL_law_1057 rfl rfl ?_
  refine E_iconst (1 : Int32) dL_law_1058 (by decide) ?_
  refine E_iadd dL_law_1059 ?_
  obtain ⟨g369, h⟩ := h
  refine E_sld dL_law_1060 g369 ?_
  obtain ⟨d370, v375, σ371, hD372, hC373, h⟩ := h
  have hs374 := hC373.1.2.2.2.1 hs367
  refine E_callV (As := [.int (X.2 (x3 + (1 : Int32)).toNatClampNeg)]) (rest := [.int v368]) (r1 := (some (.int v375))) (b := 124) dL_law_1061 ok_X12_best in_X12_best se_X12_best ml_L_96 hD372 rfl rfl (Nat.le_of_ble_eq_true rfl) (sk_124 hs367) (sn hs367 (by decide)) (by decide) rfl (by decide +kernel) hC373 ?_
  refine E_icmp_eq 2038 dL_law_1064 (by decide) (fun c => ?_) (fun c => ?_)
  · rw [if_pos c] at h
    exact E_lv [0, 1, 2, 3] rfl (w_L_law_2038 hs374 h)
  · rw [if_neg c] at h
    refine E_iconst (0 : Int32) dL_law_1067 (by decide) ?_
    obtain ⟨rfl, rfl⟩ := h
    exact E_zret dL_law_1068 rfl (Or.inl rfl)
def W_L_law_1069 (X : Sx) (l : Launch) (D : Nat) (x3 : Int32) (σ : AH) (r : Option Value) (σ' : AH) : Prop := vp_in (x3 + (1 : Int32)) X.1 ∧ ∃ d377 : Nat, ∃ v382 : Int32, ∃ σ378 : AH, d377 + 1 ≤ D ∧ Call X l m_X11_chosen d377 [.ref 0, .int (X.2 (x3 + (1 : Int32)).toNatClampNeg)] σ (some (.int v382)) σ378 ∧ vp_in (x3 + (1 : Int32)) X.1 ∧ ∃ d384 : Nat, ∃ v389 : Int32, ∃ σ385 : AH, d384 + 1 ≤ D ∧ Call X l m_X12_chosen d384 [.ref 124, .int (X.2 (x3 + (1 : Int32)).toNatClampNeg)] σ378 (some (.int v389)) σ385 ∧ (if v382 = v389 then W_L_law_2038 X l D x3 σ385 r σ' else (r = some (.int (0 : Int32)) ∧ σ' = σ385))
set_option maxRecDepth 100000 in
theorem w_L_law_1069 {X : Sx} {l : Launch} {D : Nat} {x3 : Int32} {σ : AH} {r : Option Value} {σ' : AH} (hs : Sh σ) (h : W_L_law_1069 X l D x3 σ r σ') : E X l m_LW D 1069 [(0, .ref 1000000), (1, .ref 0), (2, .ref 124), (3, .int x3)] [] σ r σ' := by
  unfold W_L_law_1069 at h
  refine E_aload_n 1 dL_law_1069 rfl rfl ?_
  refine E_aload_n 0 dL_law_1070 rfl rfl ?_
  refine E_iload_n 3 dL_law_1071 rfl rfl ?_
  refine E_iconst (1 : Int32) dL_law_1072 (by decide) ?_
  refine E_iadd dL_law_1073 ?_
  obtain ⟨g376, h⟩ := h
  refine E_sld dL_law_1074 g376 ?_
  obtain ⟨d377, v382, σ378, hD379, hC380, h⟩ := h
  have hs381 := hC380.1.2.2.2.1 hs
  refine E_callV (As := [.int (X.2 (x3 + (1 : Int32)).toNatClampNeg)]) (rest := []) (r1 := (some (.int v382))) (b := 0) dL_law_1075 ok_X11_chosen in_X11_chosen se_X11_chosen ml_L_97 hD379 rfl rfl (Nat.le_of_ble_eq_true rfl) (sk_0 hs) (sn hs (by decide)) (by decide) rfl (by decide +kernel) hC380 ?_
  refine E_aload_n 2 dL_law_1078 rfl rfl ?_
  refine E_aload_n 0 dL_law_1079 rfl rfl ?_
  refine E_iload_n 3 dL_law_1080 rfl rfl ?_
  refine E_iconst (1 : Int32) dL_law_1081 (by decide) ?_
  refine E_iadd dL_law_1082 ?_
  obtain ⟨g383, h⟩ := h
  refine E_sld dL_law_1083 g383 ?_
  obtain ⟨d384, v389, σ385, hD386, hC387, h⟩ := h
  have hs388 := hC387.1.2.2.2.1 hs381
  refine E_callV (As := [.int (X.2 (x3 + (1 : Int32)).toNatClampNeg)]) (rest := [.int v382]) (r1 := (some (.int v389))) (b := 124) dL_law_1084 ok_X12_chosen in_X12_chosen se_X12_chosen ml_L_100 hD386 rfl rfl (Nat.le_of_ble_eq_true rfl) (sk_124 hs381) (sn hs381 (by decide)) (by decide) rfl (by decide +kernel) hC387 ?_
  refine E_icmp_eq 2038 dL_law_1087 (by decide) (fun c => ?_) (fun c => ?_)
  · rw [if_pos c] at h
    exact E_lv [0, 1, 2, 3] rfl (w_L_law_2038 hs388 h)
  · rw [if_neg c] at h
    refine E_iconst (0 : Int32) dL_law_1090 (by decide) ?_
    obtain ⟨rfl, rfl⟩ := h
    exact E_zret dL_law_1091 rfl (Or.inl rfl)
def W_L_law_1092 (X : Sx) (l : Launch) (D : Nat) (x3 : Int32) (σ : AH) (r : Option Value) (σ' : AH) : Prop := vp_in (x3 + (1 : Int32)) X.1 ∧ ∃ d391 : Nat, ∃ v396 : Int32, ∃ σ392 : AH, d391 + 1 ≤ D ∧ Call X l m_X11_bound d391 [.ref 0, .int (X.2 (x3 + (1 : Int32)).toNatClampNeg)] σ (some (.int v396)) σ392 ∧ vp_in (x3 + (1 : Int32)) X.1 ∧ ∃ d398 : Nat, ∃ v403 : Int32, ∃ σ399 : AH, d398 + 1 ≤ D ∧ Call X l m_X12_bound d398 [.ref 124, .int (X.2 (x3 + (1 : Int32)).toNatClampNeg)] σ392 (some (.int v403)) σ399 ∧ (if v396 = v403 then W_L_law_2038 X l D x3 σ399 r σ' else (r = some (.int (0 : Int32)) ∧ σ' = σ399))
set_option maxRecDepth 100000 in
theorem w_L_law_1092 {X : Sx} {l : Launch} {D : Nat} {x3 : Int32} {σ : AH} {r : Option Value} {σ' : AH} (hs : Sh σ) (h : W_L_law_1092 X l D x3 σ r σ') : E X l m_LW D 1092 [(0, .ref 1000000), (1, .ref 0), (2, .ref 124), (3, .int x3)] [] σ r σ' := by
  unfold W_L_law_1092 at h
  refine E_aload_n 1 dL_law_1092 rfl rfl ?_
  refine E_aload_n 0 dL_law_1093 rfl rfl ?_
  refine E_iload_n 3 dL_law_1094 rfl rfl ?_
  refine E_iconst (1 : Int32) dL_law_1095 (by decide) ?_
  refine E_iadd dL_law_1096 ?_
  obtain ⟨g390, h⟩ := h
  refine E_sld dL_law_1097 g390 ?_
  obtain ⟨d391, v396, σ392, hD393, hC394, h⟩ := h
  have hs395 := hC394.1.2.2.2.1 hs
  refine E_callV (As := [.int (X.2 (x3 + (1 : Int32)).toNatClampNeg)]) (rest := []) (r1 := (some (.int v396))) (b := 0) dL_law_1098 ok_X11_bound in_X11_bound se_X11_bound ml_L_101 hD393 rfl rfl (Nat.le_of_ble_eq_true rfl) (sk_0 hs) (sn hs (by decide)) (by decide) rfl (by decide +kernel) hC394 ?_
  refine E_aload_n 2 dL_law_1101 rfl rfl ?_
  refine E_aload_n 0 dL_law_1102 rfl rfl ?_
  refine E_iload_n 3 dL_law_1103 rfl rfl ?_
  refine E_iconst (1 : Int32) dL_law_1104 (by decide) ?_
  refine E_iadd dL_law_1105 ?_
  obtain ⟨g397, h⟩ := h
  refine E_sld dL_law_1106 g397 ?_
  obtain ⟨d398, v403, σ399, hD400, hC401, h⟩ := h
  have hs402 := hC401.1.2.2.2.1 hs395
  refine E_callV (As := [.int (X.2 (x3 + (1 : Int32)).toNatClampNeg)]) (rest := [.int v396]) (r1 := (some (.int v403))) (b := 124) dL_law_1107 ok_X12_bound in_X12_bound se_X12_bound ml_L_104 hD400 rfl rfl (Nat.le_of_ble_eq_true rfl) (sk_124 hs395) (sn hs395 (by decide)) (by decide) rfl (by decide +kernel) hC401 ?_
  refine E_icmp_eq 2038 dL_law_1110 (by decide) (fun c => ?_) (fun c => ?_)
  · rw [if_pos c] at h
    exact E_lv [0, 1, 2, 3] rfl (w_L_law_2038 hs402 h)
  · rw [if_neg c] at h
    refine E_iconst (0 : Int32) dL_law_1113 (by decide) ?_
    obtain ⟨rfl, rfl⟩ := h
    exact E_zret dL_law_1114 rfl (Or.inl rfl)
def W_L_law_1115 (X : Sx) (l : Launch) (D : Nat) (x3 : Int32) (σ : AH) (r : Option Value) (σ' : AH) : Prop := vp_in (x3 + (1 : Int32)) X.1 ∧ vp_in (x3 + (2 : Int32)) X.1 ∧ ∃ d406 : Nat, ∃ v411 : Int32, ∃ σ407 : AH, d406 + 1 ≤ D ∧ Call X l m_X11_judge d406 [.ref 0, .int (X.2 (x3 + (1 : Int32)).toNatClampNeg), .int (X.2 (x3 + (2 : Int32)).toNatClampNeg)] σ (some (.int v411)) σ407 ∧ vp_in (x3 + (1 : Int32)) X.1 ∧ vp_in (x3 + (2 : Int32)) X.1 ∧ ∃ d414 : Nat, ∃ v419 : Int32, ∃ σ415 : AH, d414 + 1 ≤ D ∧ Call X l m_X12_judge d414 [.ref 124, .int (X.2 (x3 + (1 : Int32)).toNatClampNeg), .int (X.2 (x3 + (2 : Int32)).toNatClampNeg)] σ407 (some (.int v419)) σ415 ∧ (if v411 = v419 then W_L_law_2038 X l D x3 σ415 r σ' else (r = some (.int (0 : Int32)) ∧ σ' = σ415))
set_option maxRecDepth 100000 in
theorem w_L_law_1115 {X : Sx} {l : Launch} {D : Nat} {x3 : Int32} {σ : AH} {r : Option Value} {σ' : AH} (hs : Sh σ) (h : W_L_law_1115 X l D x3 σ r σ') : E X l m_LW D 1115 [(0, .ref 1000000), (1, .ref 0), (2, .ref 124), (3, .int x3)] [] σ r σ' := by
  unfold W_L_law_1115 at h
  refine E_aload_n 1 dL_law_1115 rfl rfl ?_
  refine E_aload_n 0 dL_law_1116 rfl rfl ?_
  refine E_iload_n 3 dL_law_1117 rfl rfl ?_
  refine E_iconst (1 : Int32) dL_law_1118 (by decide) ?_
  refine E_iadd dL_law_1119 ?_
  obtain ⟨g404, h⟩ := h
  refine E_sld dL_law_1120 g404 ?_
  refine E_aload_n 0 dL_law_1121 rfl rfl ?_
  refine E_iload_n 3 dL_law_1122 rfl rfl ?_
  refine E_iconst (2 : Int32) dL_law_1123 (by decide) ?_
  refine E_iadd dL_law_1124 ?_
  obtain ⟨g405, h⟩ := h
  refine E_sld dL_law_1125 g405 ?_
  obtain ⟨d406, v411, σ407, hD408, hC409, h⟩ := h
  have hs410 := hC409.1.2.2.2.1 hs
  refine E_callV (As := [.int (X.2 (x3 + (1 : Int32)).toNatClampNeg), .int (X.2 (x3 + (2 : Int32)).toNatClampNeg)]) (rest := []) (r1 := (some (.int v411))) (b := 0) dL_law_1126 ok_X11_judge in_X11_judge se_X11_judge ml_L_105 hD408 rfl rfl (Nat.le_of_ble_eq_true rfl) (sk_0 hs) (sn hs (by decide)) (by decide) rfl (by decide +kernel) hC409 ?_
  refine E_aload_n 2 dL_law_1129 rfl rfl ?_
  refine E_aload_n 0 dL_law_1130 rfl rfl ?_
  refine E_iload_n 3 dL_law_1131 rfl rfl ?_
  refine E_iconst (1 : Int32) dL_law_1132 (by decide) ?_
  refine E_iadd dL_law_1133 ?_
  obtain ⟨g412, h⟩ := h
  refine E_sld dL_law_1134 g412 ?_
  refine E_aload_n 0 dL_law_1135 rfl rfl ?_
  refine E_iload_n 3 dL_law_1136 rfl rfl ?_
  refine E_iconst (2 : Int32) dL_law_1137 (by decide) ?_
  refine E_iadd dL_law_1138 ?_
  obtain ⟨g413, h⟩ := h
  refine E_sld dL_law_1139 g413 ?_
  obtain ⟨d414, v419, σ415, hD416, hC417, h⟩ := h
  have hs418 := hC417.1.2.2.2.1 hs410
  refine E_callV (As := [.int (X.2 (x3 + (1 : Int32)).toNatClampNeg), .int (X.2 (x3 + (2 : Int32)).toNatClampNeg)]) (rest := [.int v411]) (r1 := (some (.int v419))) (b := 124) dL_law_1140 ok_X12_judge in_X12_judge se_X12_judge ml_L_108 hD416 rfl rfl (Nat.le_of_ble_eq_true rfl) (sk_124 hs410) (sn hs410 (by decide)) (by decide) rfl (by decide +kernel) hC417 ?_
  refine E_icmp_eq 2038 dL_law_1143 (by decide) (fun c => ?_) (fun c => ?_)
  · rw [if_pos c] at h
    exact E_lv [0, 1, 2, 3] rfl (w_L_law_2038 hs418 h)
  · rw [if_neg c] at h
    refine E_iconst (0 : Int32) dL_law_1146 (by decide) ?_
    obtain ⟨rfl, rfl⟩ := h
    exact E_zret dL_law_1147 rfl (Or.inl rfl)
def W_L_law_1148 (X : Sx) (l : Launch) (D : Nat) (x3 : Int32) (σ : AH) (r : Option Value) (σ' : AH) : Prop := vp_in (x3 + (1 : Int32)) X.1 ∧ vp_in (x3 + (2 : Int32)) X.1 ∧ vp_in (x3 + (3 : Int32)) X.1 ∧ vp_in (x3 + (4 : Int32)) X.1 ∧ vp_in (x3 + (5 : Int32)) X.1 ∧ vp_in (x3 + (6 : Int32)) X.1 ∧ vp_in (x3 + (7 : Int32)) X.1 ∧ ∃ d427 : Nat, ∃ v432 : Int32, ∃ σ428 : AH, d427 + 1 ≤ D ∧ Call X l m_X11_entry d427 [.ref 0, .int (X.2 (x3 + (1 : Int32)).toNatClampNeg), .int (X.2 (x3 + (2 : Int32)).toNatClampNeg), .int (X.2 (x3 + (3 : Int32)).toNatClampNeg), .int (X.2 (x3 + (4 : Int32)).toNatClampNeg), .int (X.2 (x3 + (5 : Int32)).toNatClampNeg), .int (X.2 (x3 + (6 : Int32)).toNatClampNeg), .int (X.2 (x3 + (7 : Int32)).toNatClampNeg)] σ (some (.int v432)) σ428 ∧ vp_in (x3 + (1 : Int32)) X.1 ∧ vp_in (x3 + (2 : Int32)) X.1 ∧ vp_in (x3 + (3 : Int32)) X.1 ∧ vp_in (x3 + (4 : Int32)) X.1 ∧ vp_in (x3 + (5 : Int32)) X.1 ∧ vp_in (x3 + (6 : Int32)) X.1 ∧ vp_in (x3 + (7 : Int32)) X.1 ∧ ∃ d440 : Nat, ∃ v445 : Int32, ∃ σ441 : AH, d440 + 1 ≤ D ∧ Call X l m_X12_entry d440 [.ref 124, .int (X.2 (x3 + (1 : Int32)).toNatClampNeg), .int (X.2 (x3 + (2 : Int32)).toNatClampNeg), .int (X.2 (x3 + (3 : Int32)).toNatClampNeg), .int (X.2 (x3 + (4 : Int32)).toNatClampNeg), .int (X.2 (x3 + (5 : Int32)).toNatClampNeg), .int (X.2 (x3 + (6 : Int32)).toNatClampNeg), .int (X.2 (x3 + (7 : Int32)).toNatClampNeg)] σ428 (some (.int v445)) σ441 ∧ (if v432 = v445 then W_L_law_2038 X l D x3 σ441 r σ' else (r = some (.int (0 : Int32)) ∧ σ' = σ441))
set_option maxRecDepth 100000 in
theorem w_L_law_1148 {X : Sx} {l : Launch} {D : Nat} {x3 : Int32} {σ : AH} {r : Option Value} {σ' : AH} (hs : Sh σ) (h : W_L_law_1148 X l D x3 σ r σ') : E X l m_LW D 1148 [(0, .ref 1000000), (1, .ref 0), (2, .ref 124), (3, .int x3)] [] σ r σ' := by
  unfold W_L_law_1148 at h
  refine E_aload_n 1 dL_law_1148 rfl rfl ?_
  refine E_aload_n 0 dL_law_1149 rfl rfl ?_
  refine E_iload_n 3 dL_law_1150 rfl rfl ?_
  refine E_iconst (1 : Int32) dL_law_1151 (by decide) ?_
  refine E_iadd dL_law_1152 ?_
  obtain ⟨g420, h⟩ := h
  refine E_sld dL_law_1153 g420 ?_
  refine E_aload_n 0 dL_law_1154 rfl rfl ?_
  refine E_iload_n 3 dL_law_1155 rfl rfl ?_
  refine E_iconst (2 : Int32) dL_law_1156 (by decide) ?_
  refine E_iadd dL_law_1157 ?_
  obtain ⟨g421, h⟩ := h
  refine E_sld dL_law_1158 g421 ?_
  refine E_aload_n 0 dL_law_1159 rfl rfl ?_
  refine E_iload_n 3 dL_law_1160 rfl rfl ?_
  refine E_iconst (3 : Int32) dL_law_1161 (by decide) ?_
  refine E_iadd dL_law_1162 ?_
  obtain ⟨g422, h⟩ := h
  refine E_sld dL_law_1163 g422 ?_
  refine E_aload_n 0 dL_law_1164 rfl rfl ?_
  refine E_iload_n 3 dL_law_1165 rfl rfl ?_
  refine E_iconst (4 : Int32) dL_law_1166 (by decide) ?_
  refine E_iadd dL_law_1167 ?_
  obtain ⟨g423, h⟩ := h
  refine E_sld dL_law_1168 g423 ?_
  refine E_aload_n 0 dL_law_1169 rfl rfl ?_
  refine E_iload_n 3 dL_law_1170 rfl rfl ?_
  refine E_iconst (5 : Int32) dL_law_1171 (by decide) ?_
  refine E_iadd dL_law_1172 ?_
  obtain ⟨g424, h⟩ := h
  refine E_sld dL_law_1173 g424 ?_
  refine E_aload_n 0 dL_law_1174 rfl rfl ?_
  refine E_iload_n 3 dL_law_1175 rfl rfl ?_
  refine E_bipush (6 : Int32) dL_law_1176 (by decide) ?_
  refine E_iadd dL_law_1178 ?_
  obtain ⟨g425, h⟩ := h
  refine E_sld dL_law_1179 g425 ?_
  refine E_aload_n 0 dL_law_1180 rfl rfl ?_
  refine E_iload_n 3 dL_law_1181 rfl rfl ?_
  refine E_bipush (7 : Int32) dL_law_1182 (by decide) ?_
  refine E_iadd dL_law_1184 ?_
  obtain ⟨g426, h⟩ := h
  refine E_sld dL_law_1185 g426 ?_
  obtain ⟨d427, v432, σ428, hD429, hC430, h⟩ := h
  have hs431 := hC430.1.2.2.2.1 hs
  refine E_callV (As := [.int (X.2 (x3 + (1 : Int32)).toNatClampNeg), .int (X.2 (x3 + (2 : Int32)).toNatClampNeg), .int (X.2 (x3 + (3 : Int32)).toNatClampNeg), .int (X.2 (x3 + (4 : Int32)).toNatClampNeg), .int (X.2 (x3 + (5 : Int32)).toNatClampNeg), .int (X.2 (x3 + (6 : Int32)).toNatClampNeg), .int (X.2 (x3 + (7 : Int32)).toNatClampNeg)]) (rest := []) (r1 := (some (.int v432))) (b := 0) dL_law_1186 ok_X11_entry in_X11_entry se_X11_entry ml_L_109 hD429 rfl rfl (Nat.le_of_ble_eq_true rfl) (sk_0 hs) (sn hs (by decide)) (by decide) rfl (by decide +kernel) hC430 ?_
  refine E_aload_n 2 dL_law_1189 rfl rfl ?_
  refine E_aload_n 0 dL_law_1190 rfl rfl ?_
  refine E_iload_n 3 dL_law_1191 rfl rfl ?_
  refine E_iconst (1 : Int32) dL_law_1192 (by decide) ?_
  refine E_iadd dL_law_1193 ?_
  obtain ⟨g433, h⟩ := h
  refine E_sld dL_law_1194 g433 ?_
  refine E_aload_n 0 dL_law_1195 rfl rfl ?_
  refine E_iload_n 3 dL_law_1196 rfl rfl ?_
  refine E_iconst (2 : Int32) dL_law_1197 (by decide) ?_
  refine E_iadd dL_law_1198 ?_
  obtain ⟨g434, h⟩ := h
  refine E_sld dL_law_1199 g434 ?_
  refine E_aload_n 0 dL_law_1200 rfl rfl ?_
  refine E_iload_n 3 dL_law_1201 rfl rfl ?_
  refine E_iconst (3 : Int32) dL_law_1202 (by decide) ?_
  refine E_iadd dL_law_1203 ?_
  obtain ⟨g435, h⟩ := h
  refine E_sld dL_law_1204 g435 ?_
  refine E_aload_n 0 dL_law_1205 rfl rfl ?_
  refine E_iload_n 3 dL_law_1206 rfl rfl ?_
  refine E_iconst (4 : Int32) dL_law_1207 (by decide) ?_
  refine E_iadd dL_law_1208 ?_
  obtain ⟨g436, h⟩ := h
  refine E_sld dL_law_1209 g436 ?_
  refine E_aload_n 0 dL_law_1210 rfl rfl ?_
  refine E_iload_n 3 dL_law_1211 rfl rfl ?_
  refine E_iconst (5 : Int32) dL_law_1212 (by decide) ?_
  refine E_iadd dL_law_1213 ?_
  obtain ⟨g437, h⟩ := h
  refine E_sld dL_law_1214 g437 ?_
  refine E_aload_n 0 dL_law_1215 rfl rfl ?_
  refine E_iload_n 3 dL_law_1216 rfl rfl ?_
  refine E_bipush (6 : Int32) dL_law_1217 (by decide) ?_
  refine E_iadd dL_law_1219 ?_
  obtain ⟨g438, h⟩ := h
  refine E_sld dL_law_1220 g438 ?_
  refine E_aload_n 0 dL_law_1221 rfl rfl ?_
  refine E_iload_n 3 dL_law_1222 rfl rfl ?_
  refine E_bipush (7 : Int32) dL_law_1223 (by decide) ?_
  refine E_iadd dL_law_1225 ?_
  obtain ⟨g439, h⟩ := h
  refine E_sld dL_law_1226 g439 ?_
  obtain ⟨d440, v445, σ441, hD442, hC443, h⟩ := h
  have hs444 := hC443.1.2.2.2.1 hs431
  refine E_callV (As := [.int (X.2 (x3 + (1 : Int32)).toNatClampNeg), .int (X.2 (x3 + (2 : Int32)).toNatClampNeg), .int (X.2 (x3 + (3 : Int32)).toNatClampNeg), .int (X.2 (x3 + (4 : Int32)).toNatClampNeg), .int (X.2 (x3 + (5 : Int32)).toNatClampNeg), .int (X.2 (x3 + (6 : Int32)).toNatClampNeg), .int (X.2 (x3 + (7 : Int32)).toNatClampNeg)]) (rest := [.int v432]) (r1 := (some (.int v445))) (b := 124) dL_law_1227 ok_X12_entry in_X12_entry se_X12_entry ml_L_113 hD442 rfl rfl (Nat.le_of_ble_eq_true rfl) (sk_124 hs431) (sn hs431 (by decide)) (by decide) rfl (by decide +kernel) hC443 ?_
  refine E_icmp_eq 2038 dL_law_1230 (by decide) (fun c => ?_) (fun c => ?_)
  · rw [if_pos c] at h
    exact E_lv [0, 1, 2, 3] rfl (w_L_law_2038 hs444 h)
  · rw [if_neg c] at h
    refine E_iconst (0 : Int32) dL_law_1233 (by decide) ?_
    obtain ⟨rfl, rfl⟩ := h
    exact E_zret dL_law_1234 rfl (Or.inl rfl)
def W_L_law_1235 (X : Sx) (l : Launch) (D : Nat) (x3 : Int32) (σ : AH) (r : Option Value) (σ' : AH) : Prop := vp_in (x3 + (1 : Int32)) X.1 ∧ vp_in (x3 + (2 : Int32)) X.1 ∧ vp_in (x3 + (3 : Int32)) X.1 ∧ ∃ d449 : Nat, ∃ v454 : Int32, ∃ σ450 : AH, d449 + 1 ≤ D ∧ Call X l m_X11_mark d449 [.ref 0, .int (X.2 (x3 + (1 : Int32)).toNatClampNeg), .int (X.2 (x3 + (2 : Int32)).toNatClampNeg), .int (X.2 (x3 + (3 : Int32)).toNatClampNeg)] σ (some (.int v454)) σ450 ∧ vp_in (x3 + (1 : Int32)) X.1 ∧ vp_in (x3 + (2 : Int32)) X.1 ∧ vp_in (x3 + (3 : Int32)) X.1 ∧ ∃ d458 : Nat, ∃ v463 : Int32, ∃ σ459 : AH, d458 + 1 ≤ D ∧ Call X l m_X12_mark d458 [.ref 124, .int (X.2 (x3 + (1 : Int32)).toNatClampNeg), .int (X.2 (x3 + (2 : Int32)).toNatClampNeg), .int (X.2 (x3 + (3 : Int32)).toNatClampNeg)] σ450 (some (.int v463)) σ459 ∧ (if v454 = v463 then W_L_law_2038 X l D x3 σ459 r σ' else (r = some (.int (0 : Int32)) ∧ σ' = σ459))
set_option maxRecDepth 100000 in
theorem w_L_law_1235 {X : Sx} {l : Launch} {D : Nat} {x3 : Int32} {σ : AH} {r : Option Value} {σ' : AH} (hs : Sh σ) (h : W_L_law_1235 X l D x3 σ r σ') : E X l m_LW D 1235 [(0, .ref 1000000), (1, .ref 0), (2, .ref 124), (3, .int x3)] [] σ r σ' := by
  unfold W_L_law_1235 at h
  refine E_aload_n 1 dL_law_1235 rfl rfl ?_
  refine E_aload_n 0 dL_law_1236 rfl rfl ?_
  refine E_iload_n 3 dL_law_1237 rfl rfl ?_
  refine E_iconst (1 : Int32) dL_law_1238 (by decide) ?_
  refine E_iadd dL_law_1239 ?_
  obtain ⟨g446, h⟩ := h
  refine E_sld dL_law_1240 g446 ?_
  refine E_aload_n 0 dL_law_1241 rfl rfl ?_
  refine E_iload_n 3 dL_law_1242 rfl rfl ?_
  refine E_iconst (2 : Int32) dL_law_1243 (by decide) ?_
  refine E_iadd dL_law_1244 ?_
  obtain ⟨g447, h⟩ := h
  refine E_sld dL_law_1245 g447 ?_
  refine E_aload_n 0 dL_law_1246 rfl rfl ?_
  refine E_iload_n 3 dL_law_1247 rfl rfl ?_
  refine E_iconst (3 : Int32) dL_law_1248 (by decide) ?_
  refine E_iadd dL_law_1249 ?_
  obtain ⟨g448, h⟩ := h
  refine E_sld dL_law_1250 g448 ?_
  obtain ⟨d449, v454, σ450, hD451, hC452, h⟩ := h
  have hs453 := hC452.1.2.2.2.1 hs
  refine E_callV (As := [.int (X.2 (x3 + (1 : Int32)).toNatClampNeg), .int (X.2 (x3 + (2 : Int32)).toNatClampNeg), .int (X.2 (x3 + (3 : Int32)).toNatClampNeg)]) (rest := []) (r1 := (some (.int v454))) (b := 0) dL_law_1251 ok_X11_mark in_X11_mark se_X11_mark ml_L_114 hD451 rfl rfl (Nat.le_of_ble_eq_true rfl) (sk_0 hs) (sn hs (by decide)) (by decide) rfl (by decide +kernel) hC452 ?_
  refine E_aload_n 2 dL_law_1254 rfl rfl ?_
  refine E_aload_n 0 dL_law_1255 rfl rfl ?_
  refine E_iload_n 3 dL_law_1256 rfl rfl ?_
  refine E_iconst (1 : Int32) dL_law_1257 (by decide) ?_
  refine E_iadd dL_law_1258 ?_
  obtain ⟨g455, h⟩ := h
  refine E_sld dL_law_1259 g455 ?_
  refine E_aload_n 0 dL_law_1260 rfl rfl ?_
  refine E_iload_n 3 dL_law_1261 rfl rfl ?_
  refine E_iconst (2 : Int32) dL_law_1262 (by decide) ?_
  refine E_iadd dL_law_1263 ?_
  obtain ⟨g456, h⟩ := h
  refine E_sld dL_law_1264 g456 ?_
  refine E_aload_n 0 dL_law_1265 rfl rfl ?_
  refine E_iload_n 3 dL_law_1266 rfl rfl ?_
  refine E_iconst (3 : Int32) dL_law_1267 (by decide) ?_
  refine E_iadd dL_law_1268 ?_
  obtain ⟨g457, h⟩ := h
  refine E_sld dL_law_1269 g457 ?_
  obtain ⟨d458, v463, σ459, hD460, hC461, h⟩ := h
  have hs462 := hC461.1.2.2.2.1 hs453
  refine E_callV (As := [.int (X.2 (x3 + (1 : Int32)).toNatClampNeg), .int (X.2 (x3 + (2 : Int32)).toNatClampNeg), .int (X.2 (x3 + (3 : Int32)).toNatClampNeg)]) (rest := [.int v454]) (r1 := (some (.int v463))) (b := 124) dL_law_1270 ok_X12_mark in_X12_mark se_X12_mark ml_L_117 hD460 rfl rfl (Nat.le_of_ble_eq_true rfl) (sk_124 hs453) (sn hs453 (by decide)) (by decide) rfl (by decide +kernel) hC461 ?_
  refine E_icmp_eq 2038 dL_law_1273 (by decide) (fun c => ?_) (fun c => ?_)
  · rw [if_pos c] at h
    exact E_lv [0, 1, 2, 3] rfl (w_L_law_2038 hs462 h)
  · rw [if_neg c] at h
    refine E_iconst (0 : Int32) dL_law_1276 (by decide) ?_
    obtain ⟨rfl, rfl⟩ := h
    exact E_zret dL_law_1277 rfl (Or.inl rfl)
def W_L_law_1278 (X : Sx) (l : Launch) (D : Nat) (x3 : Int32) (σ : AH) (r : Option Value) (σ' : AH) : Prop := vp_in (x3 + (1 : Int32)) X.1 ∧ vp_in (x3 + (2 : Int32)) X.1 ∧ ∃ d466 : Nat, ∃ v471 : Int32, ∃ σ467 : AH, d466 + 1 ≤ D ∧ Call X l m_X11_family d466 [.ref 0, .int (X.2 (x3 + (1 : Int32)).toNatClampNeg), .int (X.2 (x3 + (2 : Int32)).toNatClampNeg)] σ (some (.int v471)) σ467 ∧ vp_in (x3 + (1 : Int32)) X.1 ∧ vp_in (x3 + (2 : Int32)) X.1 ∧ ∃ d474 : Nat, ∃ v479 : Int32, ∃ σ475 : AH, d474 + 1 ≤ D ∧ Call X l m_X12_family d474 [.ref 124, .int (X.2 (x3 + (1 : Int32)).toNatClampNeg), .int (X.2 (x3 + (2 : Int32)).toNatClampNeg)] σ467 (some (.int v479)) σ475 ∧ (if v471 = v479 then W_L_law_2038 X l D x3 σ475 r σ' else (r = some (.int (0 : Int32)) ∧ σ' = σ475))
set_option maxRecDepth 100000 in
theorem w_L_law_1278 {X : Sx} {l : Launch} {D : Nat} {x3 : Int32} {σ : AH} {r : Option Value} {σ' : AH} (hs : Sh σ) (h : W_L_law_1278 X l D x3 σ r σ') : E X l m_LW D 1278 [(0, .ref 1000000), (1, .ref 0), (2, .ref 124), (3, .int x3)] [] σ r σ' := by
  unfold W_L_law_1278 at h
  refine E_aload_n 1 dL_law_1278 rfl rfl ?_
  refine E_aload_n 0 dL_law_1279 rfl rfl ?_
  refine E_iload_n 3 dL_law_1280 rfl rfl ?_
  refine E_iconst (1 : Int32) dL_law_1281 (by decide) ?_
  refine E_iadd dL_law_1282 ?_
  obtain ⟨g464, h⟩ := h
  refine E_sld dL_law_1283 g464 ?_
  refine E_aload_n 0 dL_law_1284 rfl rfl ?_
  refine E_iload_n 3 dL_law_1285 rfl rfl ?_
  refine E_iconst (2 : Int32) dL_law_1286 (by decide) ?_
  refine E_iadd dL_law_1287 ?_
  obtain ⟨g465, h⟩ := h
  refine E_sld dL_law_1288 g465 ?_
  obtain ⟨d466, v471, σ467, hD468, hC469, h⟩ := h
  have hs470 := hC469.1.2.2.2.1 hs
  refine E_callV (As := [.int (X.2 (x3 + (1 : Int32)).toNatClampNeg), .int (X.2 (x3 + (2 : Int32)).toNatClampNeg)]) (rest := []) (r1 := (some (.int v471))) (b := 0) dL_law_1289 ok_X11_family in_X11_family se_X11_family ml_L_118 hD468 rfl rfl (Nat.le_of_ble_eq_true rfl) (sk_0 hs) (sn hs (by decide)) (by decide) rfl (by decide +kernel) hC469 ?_
  refine E_aload_n 2 dL_law_1292 rfl rfl ?_
  refine E_aload_n 0 dL_law_1293 rfl rfl ?_
  refine E_iload_n 3 dL_law_1294 rfl rfl ?_
  refine E_iconst (1 : Int32) dL_law_1295 (by decide) ?_
  refine E_iadd dL_law_1296 ?_
  obtain ⟨g472, h⟩ := h
  refine E_sld dL_law_1297 g472 ?_
  refine E_aload_n 0 dL_law_1298 rfl rfl ?_
  refine E_iload_n 3 dL_law_1299 rfl rfl ?_
  refine E_iconst (2 : Int32) dL_law_1300 (by decide) ?_
  refine E_iadd dL_law_1301 ?_
  obtain ⟨g473, h⟩ := h
  refine E_sld dL_law_1302 g473 ?_
  obtain ⟨d474, v479, σ475, hD476, hC477, h⟩ := h
  have hs478 := hC477.1.2.2.2.1 hs470
  refine E_callV (As := [.int (X.2 (x3 + (1 : Int32)).toNatClampNeg), .int (X.2 (x3 + (2 : Int32)).toNatClampNeg)]) (rest := [.int v471]) (r1 := (some (.int v479))) (b := 124) dL_law_1303 ok_X12_family in_X12_family se_X12_family ml_L_121 hD476 rfl rfl (Nat.le_of_ble_eq_true rfl) (sk_124 hs470) (sn hs470 (by decide)) (by decide) rfl (by decide +kernel) hC477 ?_
  refine E_icmp_eq 2038 dL_law_1306 (by decide) (fun c => ?_) (fun c => ?_)
  · rw [if_pos c] at h
    exact E_lv [0, 1, 2, 3] rfl (w_L_law_2038 hs478 h)
  · rw [if_neg c] at h
    refine E_iconst (0 : Int32) dL_law_1309 (by decide) ?_
    obtain ⟨rfl, rfl⟩ := h
    exact E_zret dL_law_1310 rfl (Or.inl rfl)
def W_L_law_1311 (X : Sx) (l : Launch) (D : Nat) (x3 : Int32) (σ : AH) (r : Option Value) (σ' : AH) : Prop := vp_in (x3 + (1 : Int32)) X.1 ∧ vp_in (x3 + (2 : Int32)) X.1 ∧ vp_in (x3 + (3 : Int32)) X.1 ∧ ∃ d483 : Nat, ∃ v488 : Int32, ∃ σ484 : AH, d483 + 1 ≤ D ∧ Call X l m_X11_points d483 [.ref 0, .int (X.2 (x3 + (1 : Int32)).toNatClampNeg), .int (X.2 (x3 + (2 : Int32)).toNatClampNeg), .int (X.2 (x3 + (3 : Int32)).toNatClampNeg)] σ (some (.int v488)) σ484 ∧ vp_in (x3 + (1 : Int32)) X.1 ∧ vp_in (x3 + (2 : Int32)) X.1 ∧ vp_in (x3 + (3 : Int32)) X.1 ∧ ∃ d492 : Nat, ∃ v497 : Int32, ∃ σ493 : AH, d492 + 1 ≤ D ∧ Call X l m_X12_points d492 [.ref 124, .int (X.2 (x3 + (1 : Int32)).toNatClampNeg), .int (X.2 (x3 + (2 : Int32)).toNatClampNeg), .int (X.2 (x3 + (3 : Int32)).toNatClampNeg)] σ484 (some (.int v497)) σ493 ∧ (if v488 = v497 then W_L_law_2038 X l D x3 σ493 r σ' else (r = some (.int (0 : Int32)) ∧ σ' = σ493))
set_option maxRecDepth 100000 in
theorem w_L_law_1311 {X : Sx} {l : Launch} {D : Nat} {x3 : Int32} {σ : AH} {r : Option Value} {σ' : AH} (hs : Sh σ) (h : W_L_law_1311 X l D x3 σ r σ') : E X l m_LW D 1311 [(0, .ref 1000000), (1, .ref 0), (2, .ref 124), (3, .int x3)] [] σ r σ' := by
  unfold W_L_law_1311 at h
  refine E_aload_n 1 dL_law_1311 rfl rfl ?_
  refine E_aload_n 0 dL_law_1312 rfl rfl ?_
  refine E_iload_n 3 dL_law_1313 rfl rfl ?_
  refine E_iconst (1 : Int32) dL_law_1314 (by decide) ?_
  refine E_iadd dL_law_1315 ?_
  obtain ⟨g480, h⟩ := h
  refine E_sld dL_law_1316 g480 ?_
  refine E_aload_n 0 dL_law_1317 rfl rfl ?_
  refine E_iload_n 3 dL_law_1318 rfl rfl ?_
  refine E_iconst (2 : Int32) dL_law_1319 (by decide) ?_
  refine E_iadd dL_law_1320 ?_
  obtain ⟨g481, h⟩ := h
  refine E_sld dL_law_1321 g481 ?_
  refine E_aload_n 0 dL_law_1322 rfl rfl ?_
  refine E_iload_n 3 dL_law_1323 rfl rfl ?_
  refine E_iconst (3 : Int32) dL_law_1324 (by decide) ?_
  refine E_iadd dL_law_1325 ?_
  obtain ⟨g482, h⟩ := h
  refine E_sld dL_law_1326 g482 ?_
  obtain ⟨d483, v488, σ484, hD485, hC486, h⟩ := h
  have hs487 := hC486.1.2.2.2.1 hs
  refine E_callV (As := [.int (X.2 (x3 + (1 : Int32)).toNatClampNeg), .int (X.2 (x3 + (2 : Int32)).toNatClampNeg), .int (X.2 (x3 + (3 : Int32)).toNatClampNeg)]) (rest := []) (r1 := (some (.int v488))) (b := 0) dL_law_1327 ok_X11_points in_X11_points se_X11_points ml_L_122 hD485 rfl rfl (Nat.le_of_ble_eq_true rfl) (sk_0 hs) (sn hs (by decide)) (by decide) rfl (by decide +kernel) hC486 ?_
  refine E_aload_n 2 dL_law_1330 rfl rfl ?_
  refine E_aload_n 0 dL_law_1331 rfl rfl ?_
  refine E_iload_n 3 dL_law_1332 rfl rfl ?_
  refine E_iconst (1 : Int32) dL_law_1333 (by decide) ?_
  refine E_iadd dL_law_1334 ?_
  obtain ⟨g489, h⟩ := h
  refine E_sld dL_law_1335 g489 ?_
  refine E_aload_n 0 dL_law_1336 rfl rfl ?_
  refine E_iload_n 3 dL_law_1337 rfl rfl ?_
  refine E_iconst (2 : Int32) dL_law_1338 (by decide) ?_
  refine E_iadd dL_law_1339 ?_
  obtain ⟨g490, h⟩ := h
  refine E_sld dL_law_1340 g490 ?_
  refine E_aload_n 0 dL_law_1341 rfl rfl ?_
  refine E_iload_n 3 dL_law_1342 rfl rfl ?_
  refine E_iconst (3 : Int32) dL_law_1343 (by decide) ?_
  refine E_iadd dL_law_1344 ?_
  obtain ⟨g491, h⟩ := h
  refine E_sld dL_law_1345 g491 ?_
  obtain ⟨d492, v497, σ493, hD494, hC495, h⟩ := h
  have hs496 := hC495.1.2.2.2.1 hs487
  refine E_callV (As := [.int (X.2 (x3 + (1 : Int32)).toNatClampNeg), .int (X.2 (x3 + (2 : Int32)).toNatClampNeg), .int (X.2 (x3 + (3 : Int32)).toNatClampNeg)]) (rest := [.int v488]) (r1 := (some (.int v497))) (b := 124) dL_law_1346 ok_X12_points in_X12_points se_X12_points ml_L_125 hD494 rfl rfl (Nat.le_of_ble_eq_true rfl) (sk_124 hs487) (sn hs487 (by decide)) (by decide) rfl (by decide +kernel) hC495 ?_
  refine E_icmp_eq 2038 dL_law_1349 (by decide) (fun c => ?_) (fun c => ?_)
  · rw [if_pos c] at h
    exact E_lv [0, 1, 2, 3] rfl (w_L_law_2038 hs496 h)
  · rw [if_neg c] at h
    refine E_iconst (0 : Int32) dL_law_1352 (by decide) ?_
    obtain ⟨rfl, rfl⟩ := h
    exact E_zret dL_law_1353 rfl (Or.inl rfl)
def W_L_law_1354 (X : Sx) (l : Launch) (D : Nat) (x3 : Int32) (σ : AH) (r : Option Value) (σ' : AH) : Prop := vp_in (x3 + (1 : Int32)) X.1 ∧ vp_in (x3 + (2 : Int32)) X.1 ∧ vp_in (x3 + (3 : Int32)) X.1 ∧ vp_in (x3 + (4 : Int32)) X.1 ∧ ∃ d502 : Nat, ∃ v507 : Int32, ∃ σ503 : AH, d502 + 1 ≤ D ∧ Call X l m_X11_order d502 [.ref 0, .int (X.2 (x3 + (1 : Int32)).toNatClampNeg), .int (X.2 (x3 + (2 : Int32)).toNatClampNeg), .int (X.2 (x3 + (3 : Int32)).toNatClampNeg), .int (X.2 (x3 + (4 : Int32)).toNatClampNeg)] σ (some (.int v507)) σ503 ∧ vp_in (x3 + (1 : Int32)) X.1 ∧ vp_in (x3 + (2 : Int32)) X.1 ∧ vp_in (x3 + (3 : Int32)) X.1 ∧ vp_in (x3 + (4 : Int32)) X.1 ∧ ∃ d512 : Nat, ∃ v517 : Int32, ∃ σ513 : AH, d512 + 1 ≤ D ∧ Call X l m_X12_order d512 [.ref 124, .int (X.2 (x3 + (1 : Int32)).toNatClampNeg), .int (X.2 (x3 + (2 : Int32)).toNatClampNeg), .int (X.2 (x3 + (3 : Int32)).toNatClampNeg), .int (X.2 (x3 + (4 : Int32)).toNatClampNeg)] σ503 (some (.int v517)) σ513 ∧ (if v507 = v517 then W_L_law_2038 X l D x3 σ513 r σ' else (r = some (.int (0 : Int32)) ∧ σ' = σ513))
set_option maxRecDepth 100000 in
theorem w_L_law_1354 {X : Sx} {l : Launch} {D : Nat} {x3 : Int32} {σ : AH} {r : Option Value} {σ' : AH} (hs : Sh σ) (h : W_L_law_1354 X l D x3 σ r σ') : E X l m_LW D 1354 [(0, .ref 1000000), (1, .ref 0), (2, .ref 124), (3, .int x3)] [] σ r σ' := by
  unfold W_L_law_1354 at h
  refine E_aload_n 1 dL_law_1354 rfl rfl ?_
  refine E_aload_n 0 dL_law_1355 rfl rfl ?_
  refine E_iload_n 3 dL_law_1356 rfl rfl ?_
  refine E_iconst (1 : Int32) dL_law_1357 (by decide) ?_
  refine E_iadd dL_law_1358 ?_
  obtain ⟨g498, h⟩ := h
  refine E_sld dL_law_1359 g498 ?_
  refine E_aload_n 0 dL_law_1360 rfl rfl ?_
  refine E_iload_n 3 dL_law_1361 rfl rfl ?_
  refine E_iconst (2 : Int32) dL_law_1362 (by decide) ?_
  refine E_iadd dL_law_1363 ?_
  obtain ⟨g499, h⟩ := h
  refine E_sld dL_law_1364 g499 ?_
  refine E_aload_n 0 dL_law_1365 rfl rfl ?_
  refine E_iload_n 3 dL_law_1366 rfl rfl ?_
  refine E_iconst (3 : Int32) dL_law_1367 (by decide) ?_
  refine E_iadd dL_law_1368 ?_
  obtain ⟨g500, h⟩ := h
  refine E_sld dL_law_1369 g500 ?_
  refine E_aload_n 0 dL_law_1370 rfl rfl ?_
  refine E_iload_n 3 dL_law_1371 rfl rfl ?_
  refine E_iconst (4 : Int32) dL_law_1372 (by decide) ?_
  refine E_iadd dL_law_1373 ?_
  obtain ⟨g501, h⟩ := h
  refine E_sld dL_law_1374 g501 ?_
  obtain ⟨d502, v507, σ503, hD504, hC505, h⟩ := h
  have hs506 := hC505.1.2.2.2.1 hs
  refine E_callV (As := [.int (X.2 (x3 + (1 : Int32)).toNatClampNeg), .int (X.2 (x3 + (2 : Int32)).toNatClampNeg), .int (X.2 (x3 + (3 : Int32)).toNatClampNeg), .int (X.2 (x3 + (4 : Int32)).toNatClampNeg)]) (rest := []) (r1 := (some (.int v507))) (b := 0) dL_law_1375 ok_X11_order in_X11_order se_X11_order ml_L_126 hD504 rfl rfl (Nat.le_of_ble_eq_true rfl) (sk_0 hs) (sn hs (by decide)) (by decide) rfl (by decide +kernel) hC505 ?_
  refine E_aload_n 2 dL_law_1378 rfl rfl ?_
  refine E_aload_n 0 dL_law_1379 rfl rfl ?_
  refine E_iload_n 3 dL_law_1380 rfl rfl ?_
  refine E_iconst (1 : Int32) dL_law_1381 (by decide) ?_
  refine E_iadd dL_law_1382 ?_
  obtain ⟨g508, h⟩ := h
  refine E_sld dL_law_1383 g508 ?_
  refine E_aload_n 0 dL_law_1384 rfl rfl ?_
  refine E_iload_n 3 dL_law_1385 rfl rfl ?_
  refine E_iconst (2 : Int32) dL_law_1386 (by decide) ?_
  refine E_iadd dL_law_1387 ?_
  obtain ⟨g509, h⟩ := h
  refine E_sld dL_law_1388 g509 ?_
  refine E_aload_n 0 dL_law_1389 rfl rfl ?_
  refine E_iload_n 3 dL_law_1390 rfl rfl ?_
  refine E_iconst (3 : Int32) dL_law_1391 (by decide) ?_
  refine E_iadd dL_law_1392 ?_
  obtain ⟨g510, h⟩ := h
  refine E_sld dL_law_1393 g510 ?_
  refine E_aload_n 0 dL_law_1394 rfl rfl ?_
  refine E_iload_n 3 dL_law_1395 rfl rfl ?_
  refine E_iconst (4 : Int32) dL_law_1396 (by decide) ?_
  refine E_iadd dL_law_1397 ?_
  obtain ⟨g511, h⟩ := h
  refine E_sld dL_law_1398 g511 ?_
  obtain ⟨d512, v517, σ513, hD514, hC515, h⟩ := h
  have hs516 := hC515.1.2.2.2.1 hs506
  refine E_callV (As := [.int (X.2 (x3 + (1 : Int32)).toNatClampNeg), .int (X.2 (x3 + (2 : Int32)).toNatClampNeg), .int (X.2 (x3 + (3 : Int32)).toNatClampNeg), .int (X.2 (x3 + (4 : Int32)).toNatClampNeg)]) (rest := [.int v507]) (r1 := (some (.int v517))) (b := 124) dL_law_1399 ok_X12_order in_X12_order se_X12_order ml_L_129 hD514 rfl rfl (Nat.le_of_ble_eq_true rfl) (sk_124 hs506) (sn hs506 (by decide)) (by decide) rfl (by decide +kernel) hC515 ?_
  refine E_icmp_eq 2038 dL_law_1402 (by decide) (fun c => ?_) (fun c => ?_)
  · rw [if_pos c] at h
    exact E_lv [0, 1, 2, 3] rfl (w_L_law_2038 hs516 h)
  · rw [if_neg c] at h
    refine E_iconst (0 : Int32) dL_law_1405 (by decide) ?_
    obtain ⟨rfl, rfl⟩ := h
    exact E_zret dL_law_1406 rfl (Or.inl rfl)
def W_L_law_1407 (X : Sx) (l : Launch) (D : Nat) (x3 : Int32) (σ : AH) (r : Option Value) (σ' : AH) : Prop := vp_in (x3 + (1 : Int32)) X.1 ∧ vp_in (x3 + (2 : Int32)) X.1 ∧ vp_in (x3 + (3 : Int32)) X.1 ∧ vp_in (x3 + (4 : Int32)) X.1 ∧ ∃ d522 : Nat, ∃ v527 : Int32, ∃ σ523 : AH, d522 + 1 ≤ D ∧ Call X l m_X11_beside d522 [.ref 0, .int (X.2 (x3 + (1 : Int32)).toNatClampNeg), .int (X.2 (x3 + (2 : Int32)).toNatClampNeg), .int (X.2 (x3 + (3 : Int32)).toNatClampNeg), .int (X.2 (x3 + (4 : Int32)).toNatClampNeg)] σ (some (.int v527)) σ523 ∧ vp_in (x3 + (1 : Int32)) X.1 ∧ vp_in (x3 + (2 : Int32)) X.1 ∧ vp_in (x3 + (3 : Int32)) X.1 ∧ vp_in (x3 + (4 : Int32)) X.1 ∧ ∃ d532 : Nat, ∃ v537 : Int32, ∃ σ533 : AH, d532 + 1 ≤ D ∧ Call X l m_X12_beside d532 [.ref 124, .int (X.2 (x3 + (1 : Int32)).toNatClampNeg), .int (X.2 (x3 + (2 : Int32)).toNatClampNeg), .int (X.2 (x3 + (3 : Int32)).toNatClampNeg), .int (X.2 (x3 + (4 : Int32)).toNatClampNeg)] σ523 (some (.int v537)) σ533 ∧ (if v527 = v537 then W_L_law_2038 X l D x3 σ533 r σ' else (r = some (.int (0 : Int32)) ∧ σ' = σ533))
set_option maxRecDepth 100000 in
theorem w_L_law_1407 {X : Sx} {l : Launch} {D : Nat} {x3 : Int32} {σ : AH} {r : Option Value} {σ' : AH} (hs : Sh σ) (h : W_L_law_1407 X l D x3 σ r σ') : E X l m_LW D 1407 [(0, .ref 1000000), (1, .ref 0), (2, .ref 124), (3, .int x3)] [] σ r σ' := by
  unfold W_L_law_1407 at h
  refine E_aload_n 1 dL_law_1407 rfl rfl ?_
  refine E_aload_n 0 dL_law_1408 rfl rfl ?_
  refine E_iload_n 3 dL_law_1409 rfl rfl ?_
  refine E_iconst (1 : Int32) dL_law_1410 (by decide) ?_
  refine E_iadd dL_law_1411 ?_
  obtain ⟨g518, h⟩ := h
  refine E_sld dL_law_1412 g518 ?_
  refine E_aload_n 0 dL_law_1413 rfl rfl ?_
  refine E_iload_n 3 dL_law_1414 rfl rfl ?_
  refine E_iconst (2 : Int32) dL_law_1415 (by decide) ?_
  refine E_iadd dL_law_1416 ?_
  obtain ⟨g519, h⟩ := h
  refine E_sld dL_law_1417 g519 ?_
  refine E_aload_n 0 dL_law_1418 rfl rfl ?_
  refine E_iload_n 3 dL_law_1419 rfl rfl ?_
  refine E_iconst (3 : Int32) dL_law_1420 (by decide) ?_
  refine E_iadd dL_law_1421 ?_
  obtain ⟨g520, h⟩ := h
  refine E_sld dL_law_1422 g520 ?_
  refine E_aload_n 0 dL_law_1423 rfl rfl ?_
  refine E_iload_n 3 dL_law_1424 rfl rfl ?_
  refine E_iconst (4 : Int32) dL_law_1425 (by decide) ?_
  refine E_iadd dL_law_1426 ?_
  obtain ⟨g521, h⟩ := h
  refine E_sld dL_law_1427 g521 ?_
  obtain ⟨d522, v527, σ523, hD524, hC525, h⟩ := h
  have hs526 := hC525.1.2.2.2.1 hs
  refine E_callV (As := [.int (X.2 (x3 + (1 : Int32)).toNatClampNeg), .int (X.2 (x3 + (2 : Int32)).toNatClampNeg), .int (X.2 (x3 + (3 : Int32)).toNatClampNeg), .int (X.2 (x3 + (4 : Int32)).toNatClampNeg)]) (rest := []) (r1 := (some (.int v527))) (b := 0) dL_law_1428 ok_X11_beside in_X11_beside se_X11_beside ml_L_130 hD524 rfl rfl (Nat.le_of_ble_eq_true rfl) (sk_0 hs) (sn hs (by decide)) (by decide) rfl (by decide +kernel) hC525 ?_
  refine E_aload_n 2 dL_law_1431 rfl rfl ?_
  refine E_aload_n 0 dL_law_1432 rfl rfl ?_
  refine E_iload_n 3 dL_law_1433 rfl rfl ?_
  refine E_iconst (1 : Int32) dL_law_1434 (by decide) ?_
  refine E_iadd dL_law_1435 ?_
  obtain ⟨g528, h⟩ := h
  refine E_sld dL_law_1436 g528 ?_
  refine E_aload_n 0 dL_law_1437 rfl rfl ?_
  refine E_iload_n 3 dL_law_1438 rfl rfl ?_
  refine E_iconst (2 : Int32) dL_law_1439 (by decide) ?_
  refine E_iadd dL_law_1440 ?_
  obtain ⟨g529, h⟩ := h
  refine E_sld dL_law_1441 g529 ?_
  refine E_aload_n 0 dL_law_1442 rfl rfl ?_
  refine E_iload_n 3 dL_law_1443 rfl rfl ?_
  refine E_iconst (3 : Int32) dL_law_1444 (by decide) ?_
  refine E_iadd dL_law_1445 ?_
  obtain ⟨g530, h⟩ := h
  refine E_sld dL_law_1446 g530 ?_
  refine E_aload_n 0 dL_law_1447 rfl rfl ?_
  refine E_iload_n 3 dL_law_1448 rfl rfl ?_
  refine E_iconst (4 : Int32) dL_law_1449 (by decide) ?_
  refine E_iadd dL_law_1450 ?_
  obtain ⟨g531, h⟩ := h
  refine E_sld dL_law_1451 g531 ?_
  obtain ⟨d532, v537, σ533, hD534, hC535, h⟩ := h
  have hs536 := hC535.1.2.2.2.1 hs526
  refine E_callV (As := [.int (X.2 (x3 + (1 : Int32)).toNatClampNeg), .int (X.2 (x3 + (2 : Int32)).toNatClampNeg), .int (X.2 (x3 + (3 : Int32)).toNatClampNeg), .int (X.2 (x3 + (4 : Int32)).toNatClampNeg)]) (rest := [.int v527]) (r1 := (some (.int v537))) (b := 124) dL_law_1452 ok_X12_beside in_X12_beside se_X12_beside ml_L_133 hD534 rfl rfl (Nat.le_of_ble_eq_true rfl) (sk_124 hs526) (sn hs526 (by decide)) (by decide) rfl (by decide +kernel) hC535 ?_
  refine E_icmp_eq 2038 dL_law_1455 (by decide) (fun c => ?_) (fun c => ?_)
  · rw [if_pos c] at h
    exact E_lv [0, 1, 2, 3] rfl (w_L_law_2038 hs536 h)
  · rw [if_neg c] at h
    refine E_iconst (0 : Int32) dL_law_1458 (by decide) ?_
    obtain ⟨rfl, rfl⟩ := h
    exact E_zret dL_law_1459 rfl (Or.inl rfl)
def W_L_law_1460 (X : Sx) (l : Launch) (D : Nat) (x3 : Int32) (σ : AH) (r : Option Value) (σ' : AH) : Prop := vp_in (x3 + (1 : Int32)) X.1 ∧ ∃ d539 : Nat, ∃ v544 : Int32, ∃ σ540 : AH, d539 + 1 ≤ D ∧ Call X l m_X11_offer d539 [.ref 0, .int (X.2 (x3 + (1 : Int32)).toNatClampNeg)] σ (some (.int v544)) σ540 ∧ vp_in (x3 + (1 : Int32)) X.1 ∧ ∃ d546 : Nat, ∃ v551 : Int32, ∃ σ547 : AH, d546 + 1 ≤ D ∧ Call X l m_X12_offer d546 [.ref 124, .int (X.2 (x3 + (1 : Int32)).toNatClampNeg)] σ540 (some (.int v551)) σ547 ∧ (if v544 = v551 then W_L_law_2038 X l D x3 σ547 r σ' else (r = some (.int (0 : Int32)) ∧ σ' = σ547))
set_option maxRecDepth 100000 in
theorem w_L_law_1460 {X : Sx} {l : Launch} {D : Nat} {x3 : Int32} {σ : AH} {r : Option Value} {σ' : AH} (hs : Sh σ) (h : W_L_law_1460 X l D x3 σ r σ') : E X l m_LW D 1460 [(0, .ref 1000000), (1, .ref 0), (2, .ref 124), (3, .int x3)] [] σ r σ' := by
  unfold W_L_law_1460 at h
  refine E_aload_n 1 dL_law_1460 rfl rfl ?_
  refine E_aload_n 0 dL_law_1461 rfl rfl ?_
  refine E_iload_n 3 dL_law_1462 rfl rfl ?_
  refine E_iconst (1 : Int32) dL_law_1463 (by decide) ?_
  refine E_iadd dL_law_1464 ?_
  obtain ⟨g538, h⟩ := h
  refine E_sld dL_law_1465 g538 ?_
  obtain ⟨d539, v544, σ540, hD541, hC542, h⟩ := h
  have hs543 := hC542.1.2.2.2.1 hs
  refine E_callV (As := [.int (X.2 (x3 + (1 : Int32)).toNatClampNeg)]) (rest := []) (r1 := (some (.int v544))) (b := 0) dL_law_1466 ok_X11_offer in_X11_offer se_X11_offer ml_L_134 hD541 rfl rfl (Nat.le_of_ble_eq_true rfl) (sk_0 hs) (sn hs (by decide)) (by decide) rfl (by decide +kernel) hC542 ?_
  refine E_aload_n 2 dL_law_1469 rfl rfl ?_
  refine E_aload_n 0 dL_law_1470 rfl rfl ?_
  refine E_iload_n 3 dL_law_1471 rfl rfl ?_
  refine E_iconst (1 : Int32) dL_law_1472 (by decide) ?_
  refine E_iadd dL_law_1473 ?_
  obtain ⟨g545, h⟩ := h
  refine E_sld dL_law_1474 g545 ?_
  obtain ⟨d546, v551, σ547, hD548, hC549, h⟩ := h
  have hs550 := hC549.1.2.2.2.1 hs543
  refine E_callV (As := [.int (X.2 (x3 + (1 : Int32)).toNatClampNeg)]) (rest := [.int v544]) (r1 := (some (.int v551))) (b := 124) dL_law_1475 ok_X12_offer in_X12_offer se_X12_offer ml_L_137 hD548 rfl rfl (Nat.le_of_ble_eq_true rfl) (sk_124 hs543) (sn hs543 (by decide)) (by decide) rfl (by decide +kernel) hC549 ?_
  refine E_icmp_eq 2038 dL_law_1478 (by decide) (fun c => ?_) (fun c => ?_)
  · rw [if_pos c] at h
    exact E_lv [0, 1, 2, 3] rfl (w_L_law_2038 hs550 h)
  · rw [if_neg c] at h
    refine E_iconst (0 : Int32) dL_law_1481 (by decide) ?_
    obtain ⟨rfl, rfl⟩ := h
    exact E_zret dL_law_1482 rfl (Or.inl rfl)
def W_L_law_1483 (X : Sx) (l : Launch) (D : Nat) (x3 : Int32) (σ : AH) (r : Option Value) (σ' : AH) : Prop := vp_in (x3 + (1 : Int32)) X.1 ∧ vp_in (x3 + (2 : Int32)) X.1 ∧ vp_in (x3 + (3 : Int32)) X.1 ∧ ∃ d555 : Nat, ∃ v560 : Int32, ∃ σ556 : AH, d555 + 1 ≤ D ∧ Call X l m_X11_lives d555 [.ref 0, .int (X.2 (x3 + (1 : Int32)).toNatClampNeg), .int (X.2 (x3 + (2 : Int32)).toNatClampNeg), .int (X.2 (x3 + (3 : Int32)).toNatClampNeg)] σ (some (.int v560)) σ556 ∧ vp_in (x3 + (1 : Int32)) X.1 ∧ vp_in (x3 + (2 : Int32)) X.1 ∧ vp_in (x3 + (3 : Int32)) X.1 ∧ ∃ d564 : Nat, ∃ v569 : Int32, ∃ σ565 : AH, d564 + 1 ≤ D ∧ Call X l m_X12_lives d564 [.ref 124, .int (X.2 (x3 + (1 : Int32)).toNatClampNeg), .int (X.2 (x3 + (2 : Int32)).toNatClampNeg), .int (X.2 (x3 + (3 : Int32)).toNatClampNeg)] σ556 (some (.int v569)) σ565 ∧ (if v560 = v569 then W_L_law_2038 X l D x3 σ565 r σ' else (r = some (.int (0 : Int32)) ∧ σ' = σ565))
set_option maxRecDepth 100000 in
theorem w_L_law_1483 {X : Sx} {l : Launch} {D : Nat} {x3 : Int32} {σ : AH} {r : Option Value} {σ' : AH} (hs : Sh σ) (h : W_L_law_1483 X l D x3 σ r σ') : E X l m_LW D 1483 [(0, .ref 1000000), (1, .ref 0), (2, .ref 124), (3, .int x3)] [] σ r σ' := by
  unfold W_L_law_1483 at h
  refine E_aload_n 1 dL_law_1483 rfl rfl ?_
  refine E_aload_n 0 dL_law_1484 rfl rfl ?_
  refine E_iload_n 3 dL_law_1485 rfl rfl ?_
  refine E_iconst (1 : Int32) dL_law_1486 (by decide) ?_
  refine E_iadd dL_law_1487 ?_
  obtain ⟨g552, h⟩ := h
  refine E_sld dL_law_1488 g552 ?_
  refine E_aload_n 0 dL_law_1489 rfl rfl ?_
  refine E_iload_n 3 dL_law_1490 rfl rfl ?_
  refine E_iconst (2 : Int32) dL_law_1491 (by decide) ?_
  refine E_iadd dL_law_1492 ?_
  obtain ⟨g553, h⟩ := h
  refine E_sld dL_law_1493 g553 ?_
  refine E_aload_n 0 dL_law_1494 rfl rfl ?_
  refine E_iload_n 3 dL_law_1495 rfl rfl ?_
  refine E_iconst (3 : Int32) dL_law_1496 (by decide) ?_
  refine E_iadd dL_law_1497 ?_
  obtain ⟨g554, h⟩ := h
  refine E_sld dL_law_1498 g554 ?_
  obtain ⟨d555, v560, σ556, hD557, hC558, h⟩ := h
  have hs559 := hC558.1.2.2.2.1 hs
  refine E_callV (As := [.int (X.2 (x3 + (1 : Int32)).toNatClampNeg), .int (X.2 (x3 + (2 : Int32)).toNatClampNeg), .int (X.2 (x3 + (3 : Int32)).toNatClampNeg)]) (rest := []) (r1 := (some (.int v560))) (b := 0) dL_law_1499 ok_X11_lives in_X11_lives se_X11_lives ml_L_138 hD557 rfl rfl (Nat.le_of_ble_eq_true rfl) (sk_0 hs) (sn hs (by decide)) (by decide) rfl (by decide +kernel) hC558 ?_
  refine E_aload_n 2 dL_law_1502 rfl rfl ?_
  refine E_aload_n 0 dL_law_1503 rfl rfl ?_
  refine E_iload_n 3 dL_law_1504 rfl rfl ?_
  refine E_iconst (1 : Int32) dL_law_1505 (by decide) ?_
  refine E_iadd dL_law_1506 ?_
  obtain ⟨g561, h⟩ := h
  refine E_sld dL_law_1507 g561 ?_
  refine E_aload_n 0 dL_law_1508 rfl rfl ?_
  refine E_iload_n 3 dL_law_1509 rfl rfl ?_
  refine E_iconst (2 : Int32) dL_law_1510 (by decide) ?_
  refine E_iadd dL_law_1511 ?_
  obtain ⟨g562, h⟩ := h
  refine E_sld dL_law_1512 g562 ?_
  refine E_aload_n 0 dL_law_1513 rfl rfl ?_
  refine E_iload_n 3 dL_law_1514 rfl rfl ?_
  refine E_iconst (3 : Int32) dL_law_1515 (by decide) ?_
  refine E_iadd dL_law_1516 ?_
  obtain ⟨g563, h⟩ := h
  refine E_sld dL_law_1517 g563 ?_
  obtain ⟨d564, v569, σ565, hD566, hC567, h⟩ := h
  have hs568 := hC567.1.2.2.2.1 hs559
  refine E_callV (As := [.int (X.2 (x3 + (1 : Int32)).toNatClampNeg), .int (X.2 (x3 + (2 : Int32)).toNatClampNeg), .int (X.2 (x3 + (3 : Int32)).toNatClampNeg)]) (rest := [.int v560]) (r1 := (some (.int v569))) (b := 124) dL_law_1518 ok_X12_lives in_X12_lives se_X12_lives ml_L_141 hD566 rfl rfl (Nat.le_of_ble_eq_true rfl) (sk_124 hs559) (sn hs559 (by decide)) (by decide) rfl (by decide +kernel) hC567 ?_
  refine E_icmp_eq 2038 dL_law_1521 (by decide) (fun c => ?_) (fun c => ?_)
  · rw [if_pos c] at h
    exact E_lv [0, 1, 2, 3] rfl (w_L_law_2038 hs568 h)
  · rw [if_neg c] at h
    refine E_iconst (0 : Int32) dL_law_1524 (by decide) ?_
    obtain ⟨rfl, rfl⟩ := h
    exact E_zret dL_law_1525 rfl (Or.inl rfl)
def W_L_law_1526 (X : Sx) (l : Launch) (D : Nat) (x3 : Int32) (σ : AH) (r : Option Value) (σ' : AH) : Prop := vp_in (x3 + (1 : Int32)) X.1 ∧ vp_in (x3 + (2 : Int32)) X.1 ∧ ∃ d572 : Nat, ∃ v577 : Int32, ∃ σ573 : AH, d572 + 1 ≤ D ∧ Call X l m_X11_roof d572 [.ref 0, .int (X.2 (x3 + (1 : Int32)).toNatClampNeg), .int (X.2 (x3 + (2 : Int32)).toNatClampNeg)] σ (some (.int v577)) σ573 ∧ vp_in (x3 + (1 : Int32)) X.1 ∧ vp_in (x3 + (2 : Int32)) X.1 ∧ ∃ d580 : Nat, ∃ v585 : Int32, ∃ σ581 : AH, d580 + 1 ≤ D ∧ Call X l m_X12_roof d580 [.ref 124, .int (X.2 (x3 + (1 : Int32)).toNatClampNeg), .int (X.2 (x3 + (2 : Int32)).toNatClampNeg)] σ573 (some (.int v585)) σ581 ∧ (if v577 = v585 then W_L_law_2038 X l D x3 σ581 r σ' else (r = some (.int (0 : Int32)) ∧ σ' = σ581))
set_option maxRecDepth 100000 in
theorem w_L_law_1526 {X : Sx} {l : Launch} {D : Nat} {x3 : Int32} {σ : AH} {r : Option Value} {σ' : AH} (hs : Sh σ) (h : W_L_law_1526 X l D x3 σ r σ') : E X l m_LW D 1526 [(0, .ref 1000000), (1, .ref 0), (2, .ref 124), (3, .int x3)] [] σ r σ' := by
  unfold W_L_law_1526 at h
  refine E_aload_n 1 dL_law_1526 rfl rfl ?_
  refine E_aload_n 0 dL_law_1527 rfl rfl ?_
  refine E_iload_n 3 dL_law_1528 rfl rfl ?_
  refine E_iconst (1 : Int32) dL_law_1529 (by decide) ?_
  refine E_iadd dL_law_1530 ?_
  obtain ⟨g570, h⟩ := h
  refine E_sld dL_law_1531 g570 ?_
  refine E_aload_n 0 dL_law_1532 rfl rfl ?_
  refine E_iload_n 3 dL_law_1533 rfl rfl ?_
  refine E_iconst (2 : Int32) dL_law_1534 (by decide) ?_
  refine E_iadd dL_law_1535 ?_
  obtain ⟨g571, h⟩ := h
  refine E_sld dL_law_1536 g571 ?_
  obtain ⟨d572, v577, σ573, hD574, hC575, h⟩ := h
  have hs576 := hC575.1.2.2.2.1 hs
  refine E_callV (As := [.int (X.2 (x3 + (1 : Int32)).toNatClampNeg), .int (X.2 (x3 + (2 : Int32)).toNatClampNeg)]) (rest := []) (r1 := (some (.int v577))) (b := 0) dL_law_1537 ok_X11_roof in_X11_roof se_X11_roof ml_L_142 hD574 rfl rfl (Nat.le_of_ble_eq_true rfl) (sk_0 hs) (sn hs (by decide)) (by decide) rfl (by decide +kernel) hC575 ?_
  refine E_aload_n 2 dL_law_1540 rfl rfl ?_
  refine E_aload_n 0 dL_law_1541 rfl rfl ?_
  refine E_iload_n 3 dL_law_1542 rfl rfl ?_
  refine E_iconst (1 : Int32) dL_law_1543 (by decide) ?_
  refine E_iadd dL_law_1544 ?_
  obtain ⟨g578, h⟩ := h
  refine E_sld dL_law_1545 g578 ?_
  refine E_aload_n 0 dL_law_1546 rfl rfl ?_
  refine E_iload_n 3 dL_law_1547 rfl rfl ?_
  refine E_iconst (2 : Int32) dL_law_1548 (by decide) ?_
  refine E_iadd dL_law_1549 ?_
  obtain ⟨g579, h⟩ := h
  refine E_sld dL_law_1550 g579 ?_
  obtain ⟨d580, v585, σ581, hD582, hC583, h⟩ := h
  have hs584 := hC583.1.2.2.2.1 hs576
  refine E_callV (As := [.int (X.2 (x3 + (1 : Int32)).toNatClampNeg), .int (X.2 (x3 + (2 : Int32)).toNatClampNeg)]) (rest := [.int v577]) (r1 := (some (.int v585))) (b := 124) dL_law_1551 ok_X12_roof in_X12_roof se_X12_roof ml_L_145 hD582 rfl rfl (Nat.le_of_ble_eq_true rfl) (sk_124 hs576) (sn hs576 (by decide)) (by decide) rfl (by decide +kernel) hC583 ?_
  refine E_icmp_eq 2038 dL_law_1554 (by decide) (fun c => ?_) (fun c => ?_)
  · rw [if_pos c] at h
    exact E_lv [0, 1, 2, 3] rfl (w_L_law_2038 hs584 h)
  · rw [if_neg c] at h
    refine E_iconst (0 : Int32) dL_law_1557 (by decide) ?_
    obtain ⟨rfl, rfl⟩ := h
    exact E_zret dL_law_1558 rfl (Or.inl rfl)
def W_L_law_1559 (X : Sx) (l : Launch) (D : Nat) (x3 : Int32) (σ : AH) (r : Option Value) (σ' : AH) : Prop := vp_in (x3 + (1 : Int32)) X.1 ∧ vp_in (x3 + (2 : Int32)) X.1 ∧ vp_in (x3 + (3 : Int32)) X.1 ∧ ∃ d589 : Nat, ∃ v594 : Int32, ∃ σ590 : AH, d589 + 1 ≤ D ∧ Call X l m_X11_squat d589 [.ref 0, .int (X.2 (x3 + (1 : Int32)).toNatClampNeg), .int (X.2 (x3 + (2 : Int32)).toNatClampNeg), .int (X.2 (x3 + (3 : Int32)).toNatClampNeg)] σ (some (.int v594)) σ590 ∧ vp_in (x3 + (1 : Int32)) X.1 ∧ vp_in (x3 + (2 : Int32)) X.1 ∧ vp_in (x3 + (3 : Int32)) X.1 ∧ ∃ d598 : Nat, ∃ v603 : Int32, ∃ σ599 : AH, d598 + 1 ≤ D ∧ Call X l m_X12_squat d598 [.ref 124, .int (X.2 (x3 + (1 : Int32)).toNatClampNeg), .int (X.2 (x3 + (2 : Int32)).toNatClampNeg), .int (X.2 (x3 + (3 : Int32)).toNatClampNeg)] σ590 (some (.int v603)) σ599 ∧ (if v594 = v603 then W_L_law_2038 X l D x3 σ599 r σ' else (r = some (.int (0 : Int32)) ∧ σ' = σ599))
set_option maxRecDepth 100000 in
theorem w_L_law_1559 {X : Sx} {l : Launch} {D : Nat} {x3 : Int32} {σ : AH} {r : Option Value} {σ' : AH} (hs : Sh σ) (h : W_L_law_1559 X l D x3 σ r σ') : E X l m_LW D 1559 [(0, .ref 1000000), (1, .ref 0), (2, .ref 124), (3, .int x3)] [] σ r σ' := by
  unfold W_L_law_1559 at h
  refine E_aload_n 1 dL_law_1559 rfl rfl ?_
  refine E_aload_n 0 dL_law_1560 rfl rfl ?_
  refine E_iload_n 3 dL_law_1561 rfl rfl ?_
  refine E_iconst (1 : Int32) dL_law_1562 (by decide) ?_
  refine E_iadd dL_law_1563 ?_
  obtain ⟨g586, h⟩ := h
  refine E_sld dL_law_1564 g586 ?_
  refine E_aload_n 0 dL_law_1565 rfl rfl ?_
  refine E_iload_n 3 dL_law_1566 rfl rfl ?_
  refine E_iconst (2 : Int32) dL_law_1567 (by decide) ?_
  refine E_iadd dL_law_1568 ?_
  obtain ⟨g587, h⟩ := h
  refine E_sld dL_law_1569 g587 ?_
  refine E_aload_n 0 dL_law_1570 rfl rfl ?_
  refine E_iload_n 3 dL_law_1571 rfl rfl ?_
  refine E_iconst (3 : Int32) dL_law_1572 (by decide) ?_
  refine E_iadd dL_law_1573 ?_
  obtain ⟨g588, h⟩ := h
  refine E_sld dL_law_1574 g588 ?_
  obtain ⟨d589, v594, σ590, hD591, hC592, h⟩ := h
  have hs593 := hC592.1.2.2.2.1 hs
  refine E_callV (As := [.int (X.2 (x3 + (1 : Int32)).toNatClampNeg), .int (X.2 (x3 + (2 : Int32)).toNatClampNeg), .int (X.2 (x3 + (3 : Int32)).toNatClampNeg)]) (rest := []) (r1 := (some (.int v594))) (b := 0) dL_law_1575 ok_X11_squat in_X11_squat se_X11_squat ml_L_146 hD591 rfl rfl (Nat.le_of_ble_eq_true rfl) (sk_0 hs) (sn hs (by decide)) (by decide) rfl (by decide +kernel) hC592 ?_
  refine E_aload_n 2 dL_law_1578 rfl rfl ?_
  refine E_aload_n 0 dL_law_1579 rfl rfl ?_
  refine E_iload_n 3 dL_law_1580 rfl rfl ?_
  refine E_iconst (1 : Int32) dL_law_1581 (by decide) ?_
  refine E_iadd dL_law_1582 ?_
  obtain ⟨g595, h⟩ := h
  refine E_sld dL_law_1583 g595 ?_
  refine E_aload_n 0 dL_law_1584 rfl rfl ?_
  refine E_iload_n 3 dL_law_1585 rfl rfl ?_
  refine E_iconst (2 : Int32) dL_law_1586 (by decide) ?_
  refine E_iadd dL_law_1587 ?_
  obtain ⟨g596, h⟩ := h
  refine E_sld dL_law_1588 g596 ?_
  refine E_aload_n 0 dL_law_1589 rfl rfl ?_
  refine E_iload_n 3 dL_law_1590 rfl rfl ?_
  refine E_iconst (3 : Int32) dL_law_1591 (by decide) ?_
  refine E_iadd dL_law_1592 ?_
  obtain ⟨g597, h⟩ := h
  refine E_sld dL_law_1593 g597 ?_
  obtain ⟨d598, v603, σ599, hD600, hC601, h⟩ := h
  have hs602 := hC601.1.2.2.2.1 hs593
  refine E_callV (As := [.int (X.2 (x3 + (1 : Int32)).toNatClampNeg), .int (X.2 (x3 + (2 : Int32)).toNatClampNeg), .int (X.2 (x3 + (3 : Int32)).toNatClampNeg)]) (rest := [.int v594]) (r1 := (some (.int v603))) (b := 124) dL_law_1594 ok_X12_squat in_X12_squat se_X12_squat ml_L_149 hD600 rfl rfl (Nat.le_of_ble_eq_true rfl) (sk_124 hs593) (sn hs593 (by decide)) (by decide) rfl (by decide +kernel) hC601 ?_
  refine E_icmp_eq 2038 dL_law_1597 (by decide) (fun c => ?_) (fun c => ?_)
  · rw [if_pos c] at h
    exact E_lv [0, 1, 2, 3] rfl (w_L_law_2038 hs602 h)
  · rw [if_neg c] at h
    refine E_iconst (0 : Int32) dL_law_1600 (by decide) ?_
    obtain ⟨rfl, rfl⟩ := h
    exact E_zret dL_law_1601 rfl (Or.inl rfl)
def W_L_law_1602 (X : Sx) (l : Launch) (D : Nat) (x3 : Int32) (σ : AH) (r : Option Value) (σ' : AH) : Prop := vp_in (x3 + (1 : Int32)) X.1 ∧ vp_in (x3 + (2 : Int32)) X.1 ∧ ∃ d606 : Nat, ∃ v611 : Int32, ∃ σ607 : AH, d606 + 1 ≤ D ∧ Call X l m_X11_out d606 [.ref 0, .int (X.2 (x3 + (1 : Int32)).toNatClampNeg), .int (X.2 (x3 + (2 : Int32)).toNatClampNeg)] σ (some (.int v611)) σ607 ∧ vp_in (x3 + (1 : Int32)) X.1 ∧ vp_in (x3 + (2 : Int32)) X.1 ∧ ∃ d614 : Nat, ∃ v619 : Int32, ∃ σ615 : AH, d614 + 1 ≤ D ∧ Call X l m_X12_out d614 [.ref 124, .int (X.2 (x3 + (1 : Int32)).toNatClampNeg), .int (X.2 (x3 + (2 : Int32)).toNatClampNeg)] σ607 (some (.int v619)) σ615 ∧ (if v611 = v619 then W_L_law_2038 X l D x3 σ615 r σ' else (r = some (.int (0 : Int32)) ∧ σ' = σ615))
set_option maxRecDepth 100000 in
theorem w_L_law_1602 {X : Sx} {l : Launch} {D : Nat} {x3 : Int32} {σ : AH} {r : Option Value} {σ' : AH} (hs : Sh σ) (h : W_L_law_1602 X l D x3 σ r σ') : E X l m_LW D 1602 [(0, .ref 1000000), (1, .ref 0), (2, .ref 124), (3, .int x3)] [] σ r σ' := by
  unfold W_L_law_1602 at h
  refine E_aload_n 1 dL_law_1602 rfl rfl ?_
  refine E_aload_n 0 dL_law_1603 rfl rfl ?_
  refine E_iload_n 3 dL_law_1604 rfl rfl ?_
  refine E_iconst (1 : Int32) dL_law_1605 (by decide) ?_
  refine E_iadd dL_law_1606 ?_
  obtain ⟨g604, h⟩ := h
  refine E_sld dL_law_1607 g604 ?_
  refine E_aload_n 0 dL_law_1608 rfl rfl ?_
  refine E_iload_n 3 dL_law_1609 rfl rfl ?_
  refine E_iconst (2 : Int32) dL_law_1610 (by decide) ?_
  refine E_iadd dL_law_1611 ?_
  obtain ⟨g605, h⟩ := h
  refine E_sld dL_law_1612 g605 ?_
  obtain ⟨d606, v611, σ607, hD608, hC609, h⟩ := h
  have hs610 := hC609.1.2.2.2.1 hs
  refine E_callV (As := [.int (X.2 (x3 + (1 : Int32)).toNatClampNeg), .int (X.2 (x3 + (2 : Int32)).toNatClampNeg)]) (rest := []) (r1 := (some (.int v611))) (b := 0) dL_law_1613 ok_X11_out in_X11_out se_X11_out ml_L_150 hD608 rfl rfl (Nat.le_of_ble_eq_true rfl) (sk_0 hs) (sn hs (by decide)) (by decide) rfl (by decide +kernel) hC609 ?_
  refine E_aload_n 2 dL_law_1616 rfl rfl ?_
  refine E_aload_n 0 dL_law_1617 rfl rfl ?_
  refine E_iload_n 3 dL_law_1618 rfl rfl ?_
  refine E_iconst (1 : Int32) dL_law_1619 (by decide) ?_
  refine E_iadd dL_law_1620 ?_
  obtain ⟨g612, h⟩ := h
  refine E_sld dL_law_1621 g612 ?_
  refine E_aload_n 0 dL_law_1622 rfl rfl ?_
  refine E_iload_n 3 dL_law_1623 rfl rfl ?_
  refine E_iconst (2 : Int32) dL_law_1624 (by decide) ?_
  refine E_iadd dL_law_1625 ?_
  obtain ⟨g613, h⟩ := h
  refine E_sld dL_law_1626 g613 ?_
  obtain ⟨d614, v619, σ615, hD616, hC617, h⟩ := h
  have hs618 := hC617.1.2.2.2.1 hs610
  refine E_callV (As := [.int (X.2 (x3 + (1 : Int32)).toNatClampNeg), .int (X.2 (x3 + (2 : Int32)).toNatClampNeg)]) (rest := [.int v611]) (r1 := (some (.int v619))) (b := 124) dL_law_1627 ok_X12_out in_X12_out se_X12_out ml_L_153 hD616 rfl rfl (Nat.le_of_ble_eq_true rfl) (sk_124 hs610) (sn hs610 (by decide)) (by decide) rfl (by decide +kernel) hC617 ?_
  refine E_icmp_eq 2038 dL_law_1630 (by decide) (fun c => ?_) (fun c => ?_)
  · rw [if_pos c] at h
    exact E_lv [0, 1, 2, 3] rfl (w_L_law_2038 hs618 h)
  · rw [if_neg c] at h
    refine E_iconst (0 : Int32) dL_law_1633 (by decide) ?_
    obtain ⟨rfl, rfl⟩ := h
    exact E_zret dL_law_1634 rfl (Or.inl rfl)
def W_L_law_1635 (X : Sx) (l : Launch) (D : Nat) (x3 : Int32) (σ : AH) (r : Option Value) (σ' : AH) : Prop := vp_in (x3 + (1 : Int32)) X.1 ∧ vp_in (x3 + (2 : Int32)) X.1 ∧ vp_in (x3 + (3 : Int32)) X.1 ∧ ∃ d623 : Nat, ∃ v628 : Int32, ∃ σ624 : AH, d623 + 1 ≤ D ∧ Call X l m_X11_rent d623 [.ref 0, .int (X.2 (x3 + (1 : Int32)).toNatClampNeg), .int (X.2 (x3 + (2 : Int32)).toNatClampNeg), .int (X.2 (x3 + (3 : Int32)).toNatClampNeg)] σ (some (.int v628)) σ624 ∧ vp_in (x3 + (1 : Int32)) X.1 ∧ vp_in (x3 + (2 : Int32)) X.1 ∧ vp_in (x3 + (3 : Int32)) X.1 ∧ ∃ d632 : Nat, ∃ v637 : Int32, ∃ σ633 : AH, d632 + 1 ≤ D ∧ Call X l m_X12_rent d632 [.ref 124, .int (X.2 (x3 + (1 : Int32)).toNatClampNeg), .int (X.2 (x3 + (2 : Int32)).toNatClampNeg), .int (X.2 (x3 + (3 : Int32)).toNatClampNeg)] σ624 (some (.int v637)) σ633 ∧ (if v628 = v637 then W_L_law_2038 X l D x3 σ633 r σ' else (r = some (.int (0 : Int32)) ∧ σ' = σ633))
set_option maxRecDepth 100000 in
theorem w_L_law_1635 {X : Sx} {l : Launch} {D : Nat} {x3 : Int32} {σ : AH} {r : Option Value} {σ' : AH} (hs : Sh σ) (h : W_L_law_1635 X l D x3 σ r σ') : E X l m_LW D 1635 [(0, .ref 1000000), (1, .ref 0), (2, .ref 124), (3, .int x3)] [] σ r σ' := by
  unfold W_L_law_1635 at h
  refine E_aload_n 1 dL_law_1635 rfl rfl ?_
  refine E_aload_n 0 dL_law_1636 rfl rfl ?_
  refine E_iload_n 3 dL_law_1637 rfl rfl ?_
  refine E_iconst (1 : Int32) dL_law_1638 (by decide) ?_
  refine E_iadd dL_law_1639 ?_
  obtain ⟨g620, h⟩ := h
  refine E_sld dL_law_1640 g620 ?_
  refine E_aload_n 0 dL_law_1641 rfl rfl ?_
  refine E_iload_n 3 dL_law_1642 rfl rfl ?_
  refine E_iconst (2 : Int32) dL_law_1643 (by decide) ?_
  refine E_iadd dL_law_1644 ?_
  obtain ⟨g621, h⟩ := h
  refine E_sld dL_law_1645 g621 ?_
  refine E_aload_n 0 dL_law_1646 rfl rfl ?_
  refine E_iload_n 3 dL_law_1647 rfl rfl ?_
  refine E_iconst (3 : Int32) dL_law_1648 (by decide) ?_
  refine E_iadd dL_law_1649 ?_
  obtain ⟨g622, h⟩ := h
  refine E_sld dL_law_1650 g622 ?_
  obtain ⟨d623, v628, σ624, hD625, hC626, h⟩ := h
  have hs627 := hC626.1.2.2.2.1 hs
  refine E_callV (As := [.int (X.2 (x3 + (1 : Int32)).toNatClampNeg), .int (X.2 (x3 + (2 : Int32)).toNatClampNeg), .int (X.2 (x3 + (3 : Int32)).toNatClampNeg)]) (rest := []) (r1 := (some (.int v628))) (b := 0) dL_law_1651 ok_X11_rent in_X11_rent se_X11_rent ml_L_154 hD625 rfl rfl (Nat.le_of_ble_eq_true rfl) (sk_0 hs) (sn hs (by decide)) (by decide) rfl (by decide +kernel) hC626 ?_
  refine E_aload_n 2 dL_law_1654 rfl rfl ?_
  refine E_aload_n 0 dL_law_1655 rfl rfl ?_
  refine E_iload_n 3 dL_law_1656 rfl rfl ?_
  refine E_iconst (1 : Int32) dL_law_1657 (by decide) ?_
  refine E_iadd dL_law_1658 ?_
  obtain ⟨g629, h⟩ := h
  refine E_sld dL_law_1659 g629 ?_
  refine E_aload_n 0 dL_law_1660 rfl rfl ?_
  refine E_iload_n 3 dL_law_1661 rfl rfl ?_
  refine E_iconst (2 : Int32) dL_law_1662 (by decide) ?_
  refine E_iadd dL_law_1663 ?_
  obtain ⟨g630, h⟩ := h
  refine E_sld dL_law_1664 g630 ?_
  refine E_aload_n 0 dL_law_1665 rfl rfl ?_
  refine E_iload_n 3 dL_law_1666 rfl rfl ?_
  refine E_iconst (3 : Int32) dL_law_1667 (by decide) ?_
  refine E_iadd dL_law_1668 ?_
  obtain ⟨g631, h⟩ := h
  refine E_sld dL_law_1669 g631 ?_
  obtain ⟨d632, v637, σ633, hD634, hC635, h⟩ := h
  have hs636 := hC635.1.2.2.2.1 hs627
  refine E_callV (As := [.int (X.2 (x3 + (1 : Int32)).toNatClampNeg), .int (X.2 (x3 + (2 : Int32)).toNatClampNeg), .int (X.2 (x3 + (3 : Int32)).toNatClampNeg)]) (rest := [.int v628]) (r1 := (some (.int v637))) (b := 124) dL_law_1670 ok_X12_rent in_X12_rent se_X12_rent ml_L_157 hD634 rfl rfl (Nat.le_of_ble_eq_true rfl) (sk_124 hs627) (sn hs627 (by decide)) (by decide) rfl (by decide +kernel) hC635 ?_
  refine E_icmp_eq 2038 dL_law_1673 (by decide) (fun c => ?_) (fun c => ?_)
  · rw [if_pos c] at h
    exact E_lv [0, 1, 2, 3] rfl (w_L_law_2038 hs636 h)
  · rw [if_neg c] at h
    refine E_iconst (0 : Int32) dL_law_1676 (by decide) ?_
    obtain ⟨rfl, rfl⟩ := h
    exact E_zret dL_law_1677 rfl (Or.inl rfl)
def W_L_law_1678 (X : Sx) (l : Launch) (D : Nat) (x3 : Int32) (σ : AH) (r : Option Value) (σ' : AH) : Prop := vp_in (x3 + (1 : Int32)) X.1 ∧ vp_in (x3 + (2 : Int32)) X.1 ∧ vp_in (x3 + (3 : Int32)) X.1 ∧ vp_in (x3 + (4 : Int32)) X.1 ∧ ∃ d642 : Nat, ∃ v647 : Int32, ∃ σ643 : AH, d642 + 1 ≤ D ∧ Call X l m_X11_lodge d642 [.ref 0, .int (X.2 (x3 + (1 : Int32)).toNatClampNeg), .int (X.2 (x3 + (2 : Int32)).toNatClampNeg), .int (X.2 (x3 + (3 : Int32)).toNatClampNeg), .int (X.2 (x3 + (4 : Int32)).toNatClampNeg)] σ (some (.int v647)) σ643 ∧ vp_in (x3 + (1 : Int32)) X.1 ∧ vp_in (x3 + (2 : Int32)) X.1 ∧ vp_in (x3 + (3 : Int32)) X.1 ∧ vp_in (x3 + (4 : Int32)) X.1 ∧ ∃ d652 : Nat, ∃ v657 : Int32, ∃ σ653 : AH, d652 + 1 ≤ D ∧ Call X l m_X12_lodge d652 [.ref 124, .int (X.2 (x3 + (1 : Int32)).toNatClampNeg), .int (X.2 (x3 + (2 : Int32)).toNatClampNeg), .int (X.2 (x3 + (3 : Int32)).toNatClampNeg), .int (X.2 (x3 + (4 : Int32)).toNatClampNeg)] σ643 (some (.int v657)) σ653 ∧ (if v647 = v657 then W_L_law_2038 X l D x3 σ653 r σ' else (r = some (.int (0 : Int32)) ∧ σ' = σ653))
set_option maxRecDepth 100000 in
theorem w_L_law_1678 {X : Sx} {l : Launch} {D : Nat} {x3 : Int32} {σ : AH} {r : Option Value} {σ' : AH} (hs : Sh σ) (h : W_L_law_1678 X l D x3 σ r σ') : E X l m_LW D 1678 [(0, .ref 1000000), (1, .ref 0), (2, .ref 124), (3, .int x3)] [] σ r σ' := by
  unfold W_L_law_1678 at h
  refine E_aload_n 1 dL_law_1678 rfl rfl ?_
  refine E_aload_n 0 dL_law_1679 rfl rfl ?_
  refine E_iload_n 3 dL_law_1680 rfl rfl ?_
  refine E_iconst (1 : Int32) dL_law_1681 (by decide) ?_
  refine E_iadd dL_law_1682 ?_
  obtain ⟨g638, h⟩ := h
  refine E_sld dL_law_1683 g638 ?_
  refine E_aload_n 0 dL_law_1684 rfl rfl ?_
  refine E_iload_n 3 dL_law_1685 rfl rfl ?_
  refine E_iconst (2 : Int32) dL_law_1686 (by decide) ?_
  refine E_iadd dL_law_1687 ?_
  obtain ⟨g639, h⟩ := h
  refine E_sld dL_law_1688 g639 ?_
  refine E_aload_n 0 dL_law_1689 rfl rfl ?_
  refine E_iload_n 3 dL_law_1690 rfl rfl ?_
  refine E_iconst (3 : Int32) dL_law_1691 (by decide) ?_
  refine E_iadd dL_law_1692 ?_
  obtain ⟨g640, h⟩ := h
  refine E_sld dL_law_1693 g640 ?_
  refine E_aload_n 0 dL_law_1694 rfl rfl ?_
  refine E_iload_n 3 dL_law_1695 rfl rfl ?_
  refine E_iconst (4 : Int32) dL_law_1696 (by decide) ?_
  refine E_iadd dL_law_1697 ?_
  obtain ⟨g641, h⟩ := h
  refine E_sld dL_law_1698 g641 ?_
  obtain ⟨d642, v647, σ643, hD644, hC645, h⟩ := h
  have hs646 := hC645.1.2.2.2.1 hs
  refine E_callV (As := [.int (X.2 (x3 + (1 : Int32)).toNatClampNeg), .int (X.2 (x3 + (2 : Int32)).toNatClampNeg), .int (X.2 (x3 + (3 : Int32)).toNatClampNeg), .int (X.2 (x3 + (4 : Int32)).toNatClampNeg)]) (rest := []) (r1 := (some (.int v647))) (b := 0) dL_law_1699 ok_X11_lodge in_X11_lodge se_X11_lodge ml_L_158 hD644 rfl rfl (Nat.le_of_ble_eq_true rfl) (sk_0 hs) (sn hs (by decide)) (by decide) rfl (by decide +kernel) hC645 ?_
  refine E_aload_n 2 dL_law_1702 rfl rfl ?_
  refine E_aload_n 0 dL_law_1703 rfl rfl ?_
  refine E_iload_n 3 dL_law_1704 rfl rfl ?_
  refine E_iconst (1 : Int32) dL_law_1705 (by decide) ?_
  refine E_iadd dL_law_1706 ?_
  obtain ⟨g648, h⟩ := h
  refine E_sld dL_law_1707 g648 ?_
  refine E_aload_n 0 dL_law_1708 rfl rfl ?_
  refine E_iload_n 3 dL_law_1709 rfl rfl ?_
  refine E_iconst (2 : Int32) dL_law_1710 (by decide) ?_
  refine E_iadd dL_law_1711 ?_
  obtain ⟨g649, h⟩ := h
  refine E_sld dL_law_1712 g649 ?_
  refine E_aload_n 0 dL_law_1713 rfl rfl ?_
  refine E_iload_n 3 dL_law_1714 rfl rfl ?_
  refine E_iconst (3 : Int32) dL_law_1715 (by decide) ?_
  refine E_iadd dL_law_1716 ?_
  obtain ⟨g650, h⟩ := h
  refine E_sld dL_law_1717 g650 ?_
  refine E_aload_n 0 dL_law_1718 rfl rfl ?_
  refine E_iload_n 3 dL_law_1719 rfl rfl ?_
  refine E_iconst (4 : Int32) dL_law_1720 (by decide) ?_
  refine E_iadd dL_law_1721 ?_
  obtain ⟨g651, h⟩ := h
  refine E_sld dL_law_1722 g651 ?_
  obtain ⟨d652, v657, σ653, hD654, hC655, h⟩ := h
  have hs656 := hC655.1.2.2.2.1 hs646
  refine E_callV (As := [.int (X.2 (x3 + (1 : Int32)).toNatClampNeg), .int (X.2 (x3 + (2 : Int32)).toNatClampNeg), .int (X.2 (x3 + (3 : Int32)).toNatClampNeg), .int (X.2 (x3 + (4 : Int32)).toNatClampNeg)]) (rest := [.int v647]) (r1 := (some (.int v657))) (b := 124) dL_law_1723 ok_X12_lodge in_X12_lodge se_X12_lodge ml_L_161 hD654 rfl rfl (Nat.le_of_ble_eq_true rfl) (sk_124 hs646) (sn hs646 (by decide)) (by decide) rfl (by decide +kernel) hC655 ?_
  refine E_icmp_eq 2038 dL_law_1726 (by decide) (fun c => ?_) (fun c => ?_)
  · rw [if_pos c] at h
    exact E_lv [0, 1, 2, 3] rfl (w_L_law_2038 hs656 h)
  · rw [if_neg c] at h
    refine E_iconst (0 : Int32) dL_law_1729 (by decide) ?_
    obtain ⟨rfl, rfl⟩ := h
    exact E_zret dL_law_1730 rfl (Or.inl rfl)
def W_L_law_1731 (X : Sx) (l : Launch) (D : Nat) (x3 : Int32) (σ : AH) (r : Option Value) (σ' : AH) : Prop := vp_in (x3 + (1 : Int32)) X.1 ∧ vp_in (x3 + (2 : Int32)) X.1 ∧ ∃ d660 : Nat, ∃ v665 : Int32, ∃ σ661 : AH, d660 + 1 ≤ D ∧ Call X l m_X11_under d660 [.ref 0, .int (X.2 (x3 + (1 : Int32)).toNatClampNeg), .int (X.2 (x3 + (2 : Int32)).toNatClampNeg)] σ (some (.int v665)) σ661 ∧ vp_in (x3 + (1 : Int32)) X.1 ∧ vp_in (x3 + (2 : Int32)) X.1 ∧ ∃ d668 : Nat, ∃ v673 : Int32, ∃ σ669 : AH, d668 + 1 ≤ D ∧ Call X l m_X12_under d668 [.ref 124, .int (X.2 (x3 + (1 : Int32)).toNatClampNeg), .int (X.2 (x3 + (2 : Int32)).toNatClampNeg)] σ661 (some (.int v673)) σ669 ∧ (if v665 = v673 then W_L_law_2038 X l D x3 σ669 r σ' else (r = some (.int (0 : Int32)) ∧ σ' = σ669))
set_option maxRecDepth 100000 in
theorem w_L_law_1731 {X : Sx} {l : Launch} {D : Nat} {x3 : Int32} {σ : AH} {r : Option Value} {σ' : AH} (hs : Sh σ) (h : W_L_law_1731 X l D x3 σ r σ') : E X l m_LW D 1731 [(0, .ref 1000000), (1, .ref 0), (2, .ref 124), (3, .int x3)] [] σ r σ' := by
  unfold W_L_law_1731 at h
  refine E_aload_n 1 dL_law_1731 rfl rfl ?_
  refine E_aload_n 0 dL_law_1732 rfl rfl ?_
  refine E_iload_n 3 dL_law_1733 rfl rfl ?_
  refine E_iconst (1 : Int32) dL_law_1734 (by decide) ?_
  refine E_iadd dL_law_1735 ?_
  obtain ⟨g658, h⟩ := h
  refine E_sld dL_law_1736 g658 ?_
  refine E_aload_n 0 dL_law_1737 rfl rfl ?_
  refine E_iload_n 3 dL_law_1738 rfl rfl ?_
  refine E_iconst (2 : Int32) dL_law_1739 (by decide) ?_
  refine E_iadd dL_law_1740 ?_
  obtain ⟨g659, h⟩ := h
  refine E_sld dL_law_1741 g659 ?_
  obtain ⟨d660, v665, σ661, hD662, hC663, h⟩ := h
  have hs664 := hC663.1.2.2.2.1 hs
  refine E_callV (As := [.int (X.2 (x3 + (1 : Int32)).toNatClampNeg), .int (X.2 (x3 + (2 : Int32)).toNatClampNeg)]) (rest := []) (r1 := (some (.int v665))) (b := 0) dL_law_1742 ok_X11_under in_X11_under se_X11_under ml_L_162 hD662 rfl rfl (Nat.le_of_ble_eq_true rfl) (sk_0 hs) (sn hs (by decide)) (by decide) rfl (by decide +kernel) hC663 ?_
  refine E_aload_n 2 dL_law_1745 rfl rfl ?_
  refine E_aload_n 0 dL_law_1746 rfl rfl ?_
  refine E_iload_n 3 dL_law_1747 rfl rfl ?_
  refine E_iconst (1 : Int32) dL_law_1748 (by decide) ?_
  refine E_iadd dL_law_1749 ?_
  obtain ⟨g666, h⟩ := h
  refine E_sld dL_law_1750 g666 ?_
  refine E_aload_n 0 dL_law_1751 rfl rfl ?_
  refine E_iload_n 3 dL_law_1752 rfl rfl ?_
  refine E_iconst (2 : Int32) dL_law_1753 (by decide) ?_
  refine E_iadd dL_law_1754 ?_
  obtain ⟨g667, h⟩ := h
  refine E_sld dL_law_1755 g667 ?_
  obtain ⟨d668, v673, σ669, hD670, hC671, h⟩ := h
  have hs672 := hC671.1.2.2.2.1 hs664
  refine E_callV (As := [.int (X.2 (x3 + (1 : Int32)).toNatClampNeg), .int (X.2 (x3 + (2 : Int32)).toNatClampNeg)]) (rest := [.int v665]) (r1 := (some (.int v673))) (b := 124) dL_law_1756 ok_X12_under in_X12_under se_X12_under ml_L_165 hD670 rfl rfl (Nat.le_of_ble_eq_true rfl) (sk_124 hs664) (sn hs664 (by decide)) (by decide) rfl (by decide +kernel) hC671 ?_
  refine E_icmp_eq 2038 dL_law_1759 (by decide) (fun c => ?_) (fun c => ?_)
  · rw [if_pos c] at h
    exact E_lv [0, 1, 2, 3] rfl (w_L_law_2038 hs672 h)
  · rw [if_neg c] at h
    refine E_iconst (0 : Int32) dL_law_1762 (by decide) ?_
    obtain ⟨rfl, rfl⟩ := h
    exact E_zret dL_law_1763 rfl (Or.inl rfl)
def W_L_law_1764 (X : Sx) (l : Launch) (D : Nat) (x3 : Int32) (σ : AH) (r : Option Value) (σ' : AH) : Prop := vp_in (x3 + (1 : Int32)) X.1 ∧ vp_in (x3 + (2 : Int32)) X.1 ∧ vp_in (x3 + (3 : Int32)) X.1 ∧ ∃ d677 : Nat, ∃ v682 : Int32, ∃ σ678 : AH, d677 + 1 ≤ D ∧ Call X l m_X11_target d677 [.ref 0, .int (X.2 (x3 + (1 : Int32)).toNatClampNeg), .int (X.2 (x3 + (2 : Int32)).toNatClampNeg), .int (X.2 (x3 + (3 : Int32)).toNatClampNeg)] σ (some (.int v682)) σ678 ∧ vp_in (x3 + (1 : Int32)) X.1 ∧ vp_in (x3 + (2 : Int32)) X.1 ∧ vp_in (x3 + (3 : Int32)) X.1 ∧ ∃ d686 : Nat, ∃ v691 : Int32, ∃ σ687 : AH, d686 + 1 ≤ D ∧ Call X l m_X12_target d686 [.ref 124, .int (X.2 (x3 + (1 : Int32)).toNatClampNeg), .int (X.2 (x3 + (2 : Int32)).toNatClampNeg), .int (X.2 (x3 + (3 : Int32)).toNatClampNeg)] σ678 (some (.int v691)) σ687 ∧ (if v682 = v691 then W_L_law_2038 X l D x3 σ687 r σ' else (r = some (.int (0 : Int32)) ∧ σ' = σ687))
set_option maxRecDepth 100000 in
theorem w_L_law_1764 {X : Sx} {l : Launch} {D : Nat} {x3 : Int32} {σ : AH} {r : Option Value} {σ' : AH} (hs : Sh σ) (h : W_L_law_1764 X l D x3 σ r σ') : E X l m_LW D 1764 [(0, .ref 1000000), (1, .ref 0), (2, .ref 124), (3, .int x3)] [] σ r σ' := by
  unfold W_L_law_1764 at h
  refine E_aload_n 1 dL_law_1764 rfl rfl ?_
  refine E_aload_n 0 dL_law_1765 rfl rfl ?_
  refine E_iload_n 3 dL_law_1766 rfl rfl ?_
  refine E_iconst (1 : Int32) dL_law_1767 (by decide) ?_
  refine E_iadd dL_law_1768 ?_
  obtain ⟨g674, h⟩ := h
  refine E_sld dL_law_1769 g674 ?_
  refine E_aload_n 0 dL_law_1770 rfl rfl ?_
  refine E_iload_n 3 dL_law_1771 rfl rfl ?_
  refine E_iconst (2 : Int32) dL_law_1772 (by decide) ?_
  refine E_iadd dL_law_1773 ?_
  obtain ⟨g675, h⟩ := h
  refine E_sld dL_law_1774 g675 ?_
  refine E_aload_n 0 dL_law_1775 rfl rfl ?_
  refine E_iload_n 3 dL_law_1776 rfl rfl ?_
  refine E_iconst (3 : Int32) dL_law_1777 (by decide) ?_
  refine E_iadd dL_law_1778 ?_
  obtain ⟨g676, h⟩ := h
  refine E_sld dL_law_1779 g676 ?_
  obtain ⟨d677, v682, σ678, hD679, hC680, h⟩ := h
  have hs681 := hC680.1.2.2.2.1 hs
  refine E_callV (As := [.int (X.2 (x3 + (1 : Int32)).toNatClampNeg), .int (X.2 (x3 + (2 : Int32)).toNatClampNeg), .int (X.2 (x3 + (3 : Int32)).toNatClampNeg)]) (rest := []) (r1 := (some (.int v682))) (b := 0) dL_law_1780 ok_X11_target in_X11_target se_X11_target ml_L_166 hD679 rfl rfl (Nat.le_of_ble_eq_true rfl) (sk_0 hs) (sn hs (by decide)) (by decide) rfl (by decide +kernel) hC680 ?_
  refine E_aload_n 2 dL_law_1783 rfl rfl ?_
  refine E_aload_n 0 dL_law_1784 rfl rfl ?_
  refine E_iload_n 3 dL_law_1785 rfl rfl ?_
  refine E_iconst (1 : Int32) dL_law_1786 (by decide) ?_
  refine E_iadd dL_law_1787 ?_
  obtain ⟨g683, h⟩ := h
  refine E_sld dL_law_1788 g683 ?_
  refine E_aload_n 0 dL_law_1789 rfl rfl ?_
  refine E_iload_n 3 dL_law_1790 rfl rfl ?_
  refine E_iconst (2 : Int32) dL_law_1791 (by decide) ?_
  refine E_iadd dL_law_1792 ?_
  obtain ⟨g684, h⟩ := h
  refine E_sld dL_law_1793 g684 ?_
  refine E_aload_n 0 dL_law_1794 rfl rfl ?_
  refine E_iload_n 3 dL_law_1795 rfl rfl ?_
  refine E_iconst (3 : Int32) dL_law_1796 (by decide) ?_
  refine E_iadd dL_law_1797 ?_
  obtain ⟨g685, h⟩ := h
  refine E_sld dL_law_1798 g685 ?_
  obtain ⟨d686, v691, σ687, hD688, hC689, h⟩ := h
  have hs690 := hC689.1.2.2.2.1 hs681
  refine E_callV (As := [.int (X.2 (x3 + (1 : Int32)).toNatClampNeg), .int (X.2 (x3 + (2 : Int32)).toNatClampNeg), .int (X.2 (x3 + (3 : Int32)).toNatClampNeg)]) (rest := [.int v682]) (r1 := (some (.int v691))) (b := 124) dL_law_1799 ok_X12_target in_X12_target se_X12_target ml_L_169 hD688 rfl rfl (Nat.le_of_ble_eq_true rfl) (sk_124 hs681) (sn hs681 (by decide)) (by decide) rfl (by decide +kernel) hC689 ?_
  refine E_icmp_eq 2038 dL_law_1802 (by decide) (fun c => ?_) (fun c => ?_)
  · rw [if_pos c] at h
    exact E_lv [0, 1, 2, 3] rfl (w_L_law_2038 hs690 h)
  · rw [if_neg c] at h
    refine E_iconst (0 : Int32) dL_law_1805 (by decide) ?_
    obtain ⟨rfl, rfl⟩ := h
    exact E_zret dL_law_1806 rfl (Or.inl rfl)
def W_L_law_1807 (X : Sx) (l : Launch) (D : Nat) (x3 : Int32) (σ : AH) (r : Option Value) (σ' : AH) : Prop := vp_in (x3 + (1 : Int32)) X.1 ∧ vp_in (x3 + (2 : Int32)) X.1 ∧ vp_in (x3 + (3 : Int32)) X.1 ∧ vp_in (x3 + (4 : Int32)) X.1 ∧ ∃ d696 : Nat, ∃ v701 : Int32, ∃ σ697 : AH, d696 + 1 ≤ D ∧ Call X l m_X11_claim d696 [.ref 0, .int (X.2 (x3 + (1 : Int32)).toNatClampNeg), .int (X.2 (x3 + (2 : Int32)).toNatClampNeg), .int (X.2 (x3 + (3 : Int32)).toNatClampNeg), .int (X.2 (x3 + (4 : Int32)).toNatClampNeg)] σ (some (.int v701)) σ697 ∧ vp_in (x3 + (1 : Int32)) X.1 ∧ vp_in (x3 + (2 : Int32)) X.1 ∧ vp_in (x3 + (3 : Int32)) X.1 ∧ vp_in (x3 + (4 : Int32)) X.1 ∧ ∃ d706 : Nat, ∃ v711 : Int32, ∃ σ707 : AH, d706 + 1 ≤ D ∧ Call X l m_X12_claim d706 [.ref 124, .int (X.2 (x3 + (1 : Int32)).toNatClampNeg), .int (X.2 (x3 + (2 : Int32)).toNatClampNeg), .int (X.2 (x3 + (3 : Int32)).toNatClampNeg), .int (X.2 (x3 + (4 : Int32)).toNatClampNeg)] σ697 (some (.int v711)) σ707 ∧ (if v701 = v711 then W_L_law_2038 X l D x3 σ707 r σ' else (r = some (.int (0 : Int32)) ∧ σ' = σ707))
set_option maxRecDepth 100000 in
theorem w_L_law_1807 {X : Sx} {l : Launch} {D : Nat} {x3 : Int32} {σ : AH} {r : Option Value} {σ' : AH} (hs : Sh σ) (h : W_L_law_1807 X l D x3 σ r σ') : E X l m_LW D 1807 [(0, .ref 1000000), (1, .ref 0), (2, .ref 124), (3, .int x3)] [] σ r σ' := by
  unfold W_L_law_1807 at h
  refine E_aload_n 1 dL_law_1807 rfl rfl ?_
  refine E_aload_n 0 dL_law_1808 rfl rfl ?_
  refine E_iload_n 3 dL_law_1809 rfl rfl ?_
  refine E_iconst (1 : Int32) dL_law_1810 (by decide) ?_
  refine E_iadd dL_law_1811 ?_
  obtain ⟨g692, h⟩ := h
  refine E_sld dL_law_1812 g692 ?_
  refine E_aload_n 0 dL_law_1813 rfl rfl ?_
  refine E_iload_n 3 dL_law_1814 rfl rfl ?_
  refine E_iconst (2 : Int32) dL_law_1815 (by decide) ?_
  refine E_iadd dL_law_1816 ?_
  obtain ⟨g693, h⟩ := h
  refine E_sld dL_law_1817 g693 ?_
  refine E_aload_n 0 dL_law_1818 rfl rfl ?_
  refine E_iload_n 3 dL_law_1819 rfl rfl ?_
  refine E_iconst (3 : Int32) dL_law_1820 (by decide) ?_
  refine E_iadd dL_law_1821 ?_
  obtain ⟨g694, h⟩ := h
  refine E_sld dL_law_1822 g694 ?_
  refine E_aload_n 0 dL_law_1823 rfl rfl ?_
  refine E_iload_n 3 dL_law_1824 rfl rfl ?_
  refine E_iconst (4 : Int32) dL_law_1825 (by decide) ?_
  refine E_iadd dL_law_1826 ?_
  obtain ⟨g695, h⟩ := h
  refine E_sld dL_law_1827 g695 ?_
  obtain ⟨d696, v701, σ697, hD698, hC699, h⟩ := h
  have hs700 := hC699.1.2.2.2.1 hs
  refine E_callV (As := [.int (X.2 (x3 + (1 : Int32)).toNatClampNeg), .int (X.2 (x3 + (2 : Int32)).toNatClampNeg), .int (X.2 (x3 + (3 : Int32)).toNatClampNeg), .int (X.2 (x3 + (4 : Int32)).toNatClampNeg)]) (rest := []) (r1 := (some (.int v701))) (b := 0) dL_law_1828 ok_X11_claim in_X11_claim se_X11_claim ml_L_170 hD698 rfl rfl (Nat.le_of_ble_eq_true rfl) (sk_0 hs) (sn hs (by decide)) (by decide) rfl (by decide +kernel) hC699 ?_
  refine E_aload_n 2 dL_law_1831 rfl rfl ?_
  refine E_aload_n 0 dL_law_1832 rfl rfl ?_
  refine E_iload_n 3 dL_law_1833 rfl rfl ?_
  refine E_iconst (1 : Int32) dL_law_1834 (by decide) ?_
  refine E_iadd dL_law_1835 ?_
  obtain ⟨g702, h⟩ := h
  refine E_sld dL_law_1836 g702 ?_
  refine E_aload_n 0 dL_law_1837 rfl rfl ?_
  refine E_iload_n 3 dL_law_1838 rfl rfl ?_
  refine E_iconst (2 : Int32) dL_law_1839 (by decide) ?_
  refine E_iadd dL_law_1840 ?_
  obtain ⟨g703, h⟩ := h
  refine E_sld dL_law_1841 g703 ?_
  refine E_aload_n 0 dL_law_1842 rfl rfl ?_
  refine E_iload_n 3 dL_law_1843 rfl rfl ?_
  refine E_iconst (3 : Int32) dL_law_1844 (by decide) ?_
  refine E_iadd dL_law_1845 ?_
  obtain ⟨g704, h⟩ := h
  refine E_sld dL_law_1846 g704 ?_
  refine E_aload_n 0 dL_law_1847 rfl rfl ?_
  refine E_iload_n 3 dL_law_1848 rfl rfl ?_
  refine E_iconst (4 : Int32) dL_law_1849 (by decide) ?_
  refine E_iadd dL_law_1850 ?_
  obtain ⟨g705, h⟩ := h
  refine E_sld dL_law_1851 g705 ?_
  obtain ⟨d706, v711, σ707, hD708, hC709, h⟩ := h
  have hs710 := hC709.1.2.2.2.1 hs700
  refine E_callV (As := [.int (X.2 (x3 + (1 : Int32)).toNatClampNeg), .int (X.2 (x3 + (2 : Int32)).toNatClampNeg), .int (X.2 (x3 + (3 : Int32)).toNatClampNeg), .int (X.2 (x3 + (4 : Int32)).toNatClampNeg)]) (rest := [.int v701]) (r1 := (some (.int v711))) (b := 124) dL_law_1852 ok_X12_claim in_X12_claim se_X12_claim ml_L_173 hD708 rfl rfl (Nat.le_of_ble_eq_true rfl) (sk_124 hs700) (sn hs700 (by decide)) (by decide) rfl (by decide +kernel) hC709 ?_
  refine E_icmp_eq 2038 dL_law_1855 (by decide) (fun c => ?_) (fun c => ?_)
  · rw [if_pos c] at h
    exact E_lv [0, 1, 2, 3] rfl (w_L_law_2038 hs710 h)
  · rw [if_neg c] at h
    refine E_iconst (0 : Int32) dL_law_1858 (by decide) ?_
    obtain ⟨rfl, rfl⟩ := h
    exact E_zret dL_law_1859 rfl (Or.inl rfl)
def W_L_law_1860 (X : Sx) (l : Launch) (D : Nat) (x3 : Int32) (σ : AH) (r : Option Value) (σ' : AH) : Prop := vp_in (x3 + (1 : Int32)) X.1 ∧ vp_in (x3 + (2 : Int32)) X.1 ∧ vp_in (x3 + (3 : Int32)) X.1 ∧ vp_in (x3 + (4 : Int32)) X.1 ∧ ∃ d716 : Nat, ∃ v721 : Int32, ∃ σ717 : AH, d716 + 1 ≤ D ∧ Call X l m_X11_look d716 [.ref 0, .int (X.2 (x3 + (1 : Int32)).toNatClampNeg), .int (X.2 (x3 + (2 : Int32)).toNatClampNeg), .int (X.2 (x3 + (3 : Int32)).toNatClampNeg), .int (X.2 (x3 + (4 : Int32)).toNatClampNeg)] σ (some (.int v721)) σ717 ∧ vp_in (x3 + (1 : Int32)) X.1 ∧ vp_in (x3 + (2 : Int32)) X.1 ∧ vp_in (x3 + (3 : Int32)) X.1 ∧ vp_in (x3 + (4 : Int32)) X.1 ∧ ∃ d726 : Nat, ∃ v731 : Int32, ∃ σ727 : AH, d726 + 1 ≤ D ∧ Call X l m_X12_look d726 [.ref 124, .int (X.2 (x3 + (1 : Int32)).toNatClampNeg), .int (X.2 (x3 + (2 : Int32)).toNatClampNeg), .int (X.2 (x3 + (3 : Int32)).toNatClampNeg), .int (X.2 (x3 + (4 : Int32)).toNatClampNeg)] σ717 (some (.int v731)) σ727 ∧ (if v721 = v731 then W_L_law_2038 X l D x3 σ727 r σ' else (r = some (.int (0 : Int32)) ∧ σ' = σ727))
set_option maxRecDepth 100000 in
theorem w_L_law_1860 {X : Sx} {l : Launch} {D : Nat} {x3 : Int32} {σ : AH} {r : Option Value} {σ' : AH} (hs : Sh σ) (h : W_L_law_1860 X l D x3 σ r σ') : E X l m_LW D 1860 [(0, .ref 1000000), (1, .ref 0), (2, .ref 124), (3, .int x3)] [] σ r σ' := by
  unfold W_L_law_1860 at h
  refine E_aload_n 1 dL_law_1860 rfl rfl ?_
  refine E_aload_n 0 dL_law_1861 rfl rfl ?_
  refine E_iload_n 3 dL_law_1862 rfl rfl ?_
  refine E_iconst (1 : Int32) dL_law_1863 (by decide) ?_
  refine E_iadd dL_law_1864 ?_
  obtain ⟨g712, h⟩ := h
  refine E_sld dL_law_1865 g712 ?_
  refine E_aload_n 0 dL_law_1866 rfl rfl ?_
  refine E_iload_n 3 dL_law_1867 rfl rfl ?_
  refine E_iconst (2 : Int32) dL_law_1868 (by decide) ?_
  refine E_iadd dL_law_1869 ?_
  obtain ⟨g713, h⟩ := h
  refine E_sld dL_law_1870 g713 ?_
  refine E_aload_n 0 dL_law_1871 rfl rfl ?_
  refine E_iload_n 3 dL_law_1872 rfl rfl ?_
  refine E_iconst (3 : Int32) dL_law_1873 (by decide) ?_
  refine E_iadd dL_law_1874 ?_
  obtain ⟨g714, h⟩ := h
  refine E_sld dL_law_1875 g714 ?_
  refine E_aload_n 0 dL_law_1876 rfl rfl ?_
  refine E_iload_n 3 dL_law_1877 rfl rfl ?_
  refine E_iconst (4 : Int32) dL_law_1878 (by decide) ?_
  refine E_iadd dL_law_1879 ?_
  obtain ⟨g715, h⟩ := h
  refine E_sld dL_law_1880 g715 ?_
  obtain ⟨d716, v721, σ717, hD718, hC719, h⟩ := h
  have hs720 := hC719.1.2.2.2.1 hs
  refine E_callV (As := [.int (X.2 (x3 + (1 : Int32)).toNatClampNeg), .int (X.2 (x3 + (2 : Int32)).toNatClampNeg), .int (X.2 (x3 + (3 : Int32)).toNatClampNeg), .int (X.2 (x3 + (4 : Int32)).toNatClampNeg)]) (rest := []) (r1 := (some (.int v721))) (b := 0) dL_law_1881 ok_X11_look in_X11_look se_X11_look ml_L_174 hD718 rfl rfl (Nat.le_of_ble_eq_true rfl) (sk_0 hs) (sn hs (by decide)) (by decide) rfl (by decide +kernel) hC719 ?_
  refine E_aload_n 2 dL_law_1884 rfl rfl ?_
  refine E_aload_n 0 dL_law_1885 rfl rfl ?_
  refine E_iload_n 3 dL_law_1886 rfl rfl ?_
  refine E_iconst (1 : Int32) dL_law_1887 (by decide) ?_
  refine E_iadd dL_law_1888 ?_
  obtain ⟨g722, h⟩ := h
  refine E_sld dL_law_1889 g722 ?_
  refine E_aload_n 0 dL_law_1890 rfl rfl ?_
  refine E_iload_n 3 dL_law_1891 rfl rfl ?_
  refine E_iconst (2 : Int32) dL_law_1892 (by decide) ?_
  refine E_iadd dL_law_1893 ?_
  obtain ⟨g723, h⟩ := h
  refine E_sld dL_law_1894 g723 ?_
  refine E_aload_n 0 dL_law_1895 rfl rfl ?_
  refine E_iload_n 3 dL_law_1896 rfl rfl ?_
  refine E_iconst (3 : Int32) dL_law_1897 (by decide) ?_
  refine E_iadd dL_law_1898 ?_
  obtain ⟨g724, h⟩ := h
  refine E_sld dL_law_1899 g724 ?_
  refine E_aload_n 0 dL_law_1900 rfl rfl ?_
  refine E_iload_n 3 dL_law_1901 rfl rfl ?_
  refine E_iconst (4 : Int32) dL_law_1902 (by decide) ?_
  refine E_iadd dL_law_1903 ?_
  obtain ⟨g725, h⟩ := h
  refine E_sld dL_law_1904 g725 ?_
  obtain ⟨d726, v731, σ727, hD728, hC729, h⟩ := h
  have hs730 := hC729.1.2.2.2.1 hs720
  refine E_callV (As := [.int (X.2 (x3 + (1 : Int32)).toNatClampNeg), .int (X.2 (x3 + (2 : Int32)).toNatClampNeg), .int (X.2 (x3 + (3 : Int32)).toNatClampNeg), .int (X.2 (x3 + (4 : Int32)).toNatClampNeg)]) (rest := [.int v721]) (r1 := (some (.int v731))) (b := 124) dL_law_1905 ok_X12_look in_X12_look se_X12_look ml_L_177 hD728 rfl rfl (Nat.le_of_ble_eq_true rfl) (sk_124 hs720) (sn hs720 (by decide)) (by decide) rfl (by decide +kernel) hC729 ?_
  refine E_icmp_eq 2038 dL_law_1908 (by decide) (fun c => ?_) (fun c => ?_)
  · rw [if_pos c] at h
    exact E_lv [0, 1, 2, 3] rfl (w_L_law_2038 hs730 h)
  · rw [if_neg c] at h
    refine E_iconst (0 : Int32) dL_law_1911 (by decide) ?_
    obtain ⟨rfl, rfl⟩ := h
    exact E_zret dL_law_1912 rfl (Or.inl rfl)
def W_L_law_1913 (X : Sx) (l : Launch) (D : Nat) (x3 : Int32) (σ : AH) (r : Option Value) (σ' : AH) : Prop := vp_in (x3 + (1 : Int32)) X.1 ∧ vp_in (x3 + (2 : Int32)) X.1 ∧ vp_in (x3 + (3 : Int32)) X.1 ∧ ∃ d735 : Nat, ∃ v740 : Int32, ∃ σ736 : AH, d735 + 1 ≤ D ∧ Call X l m_X11_truth d735 [.ref 0, .int (X.2 (x3 + (1 : Int32)).toNatClampNeg), .int (X.2 (x3 + (2 : Int32)).toNatClampNeg), .int (X.2 (x3 + (3 : Int32)).toNatClampNeg)] σ (some (.int v740)) σ736 ∧ vp_in (x3 + (1 : Int32)) X.1 ∧ vp_in (x3 + (2 : Int32)) X.1 ∧ vp_in (x3 + (3 : Int32)) X.1 ∧ ∃ d744 : Nat, ∃ v749 : Int32, ∃ σ745 : AH, d744 + 1 ≤ D ∧ Call X l m_X12_truth d744 [.ref 124, .int (X.2 (x3 + (1 : Int32)).toNatClampNeg), .int (X.2 (x3 + (2 : Int32)).toNatClampNeg), .int (X.2 (x3 + (3 : Int32)).toNatClampNeg)] σ736 (some (.int v749)) σ745 ∧ (if v740 = v749 then W_L_law_2038 X l D x3 σ745 r σ' else (r = some (.int (0 : Int32)) ∧ σ' = σ745))
set_option maxRecDepth 100000 in
theorem w_L_law_1913 {X : Sx} {l : Launch} {D : Nat} {x3 : Int32} {σ : AH} {r : Option Value} {σ' : AH} (hs : Sh σ) (h : W_L_law_1913 X l D x3 σ r σ') : E X l m_LW D 1913 [(0, .ref 1000000), (1, .ref 0), (2, .ref 124), (3, .int x3)] [] σ r σ' := by
  unfold W_L_law_1913 at h
  refine E_aload_n 1 dL_law_1913 rfl rfl ?_
  refine E_aload_n 0 dL_law_1914 rfl rfl ?_
  refine E_iload_n 3 dL_law_1915 rfl rfl ?_
  refine E_iconst (1 : Int32) dL_law_1916 (by decide) ?_
  refine E_iadd dL_law_1917 ?_
  obtain ⟨g732, h⟩ := h
  refine E_sld dL_law_1918 g732 ?_
  refine E_aload_n 0 dL_law_1919 rfl rfl ?_
  refine E_iload_n 3 dL_law_1920 rfl rfl ?_
  refine E_iconst (2 : Int32) dL_law_1921 (by decide) ?_
  refine E_iadd dL_law_1922 ?_
  obtain ⟨g733, h⟩ := h
  refine E_sld dL_law_1923 g733 ?_
  refine E_aload_n 0 dL_law_1924 rfl rfl ?_
  refine E_iload_n 3 dL_law_1925 rfl rfl ?_
  refine E_iconst (3 : Int32) dL_law_1926 (by decide) ?_
  refine E_iadd dL_law_1927 ?_
  obtain ⟨g734, h⟩ := h
  refine E_sld dL_law_1928 g734 ?_
  obtain ⟨d735, v740, σ736, hD737, hC738, h⟩ := h
  have hs739 := hC738.1.2.2.2.1 hs
  refine E_callV (As := [.int (X.2 (x3 + (1 : Int32)).toNatClampNeg), .int (X.2 (x3 + (2 : Int32)).toNatClampNeg), .int (X.2 (x3 + (3 : Int32)).toNatClampNeg)]) (rest := []) (r1 := (some (.int v740))) (b := 0) dL_law_1929 ok_X11_truth in_X11_truth se_X11_truth ml_L_178 hD737 rfl rfl (Nat.le_of_ble_eq_true rfl) (sk_0 hs) (sn hs (by decide)) (by decide) rfl (by decide +kernel) hC738 ?_
  refine E_aload_n 2 dL_law_1932 rfl rfl ?_
  refine E_aload_n 0 dL_law_1933 rfl rfl ?_
  refine E_iload_n 3 dL_law_1934 rfl rfl ?_
  refine E_iconst (1 : Int32) dL_law_1935 (by decide) ?_
  refine E_iadd dL_law_1936 ?_
  obtain ⟨g741, h⟩ := h
  refine E_sld dL_law_1937 g741 ?_
  refine E_aload_n 0 dL_law_1938 rfl rfl ?_
  refine E_iload_n 3 dL_law_1939 rfl rfl ?_
  refine E_iconst (2 : Int32) dL_law_1940 (by decide) ?_
  refine E_iadd dL_law_1941 ?_
  obtain ⟨g742, h⟩ := h
  refine E_sld dL_law_1942 g742 ?_
  refine E_aload_n 0 dL_law_1943 rfl rfl ?_
  refine E_iload_n 3 dL_law_1944 rfl rfl ?_
  refine E_iconst (3 : Int32) dL_law_1945 (by decide) ?_
  refine E_iadd dL_law_1946 ?_
  obtain ⟨g743, h⟩ := h
  refine E_sld dL_law_1947 g743 ?_
  obtain ⟨d744, v749, σ745, hD746, hC747, h⟩ := h
  have hs748 := hC747.1.2.2.2.1 hs739
  refine E_callV (As := [.int (X.2 (x3 + (1 : Int32)).toNatClampNeg), .int (X.2 (x3 + (2 : Int32)).toNatClampNeg), .int (X.2 (x3 + (3 : Int32)).toNatClampNeg)]) (rest := [.int v740]) (r1 := (some (.int v749))) (b := 124) dL_law_1948 ok_X12_truth in_X12_truth se_X12_truth ml_L_181 hD746 rfl rfl (Nat.le_of_ble_eq_true rfl) (sk_124 hs739) (sn hs739 (by decide)) (by decide) rfl (by decide +kernel) hC747 ?_
  refine E_icmp_eq 2038 dL_law_1951 (by decide) (fun c => ?_) (fun c => ?_)
  · rw [if_pos c] at h
    exact E_lv [0, 1, 2, 3] rfl (w_L_law_2038 hs748 h)
  · rw [if_neg c] at h
    refine E_iconst (0 : Int32) dL_law_1954 (by decide) ?_
    obtain ⟨rfl, rfl⟩ := h
    exact E_zret dL_law_1955 rfl (Or.inl rfl)
def W_L_law_1956 (X : Sx) (l : Launch) (D : Nat) (x3 : Int32) (σ : AH) (r : Option Value) (σ' : AH) : Prop := vp_in (x3 + (1 : Int32)) X.1 ∧ ∃ d751 : Nat, ∃ v756 : Int32, ∃ σ752 : AH, d751 + 1 ≤ D ∧ Call X l m_X11_image d751 [.ref 0, .int (X.2 (x3 + (1 : Int32)).toNatClampNeg)] σ (some (.int v756)) σ752 ∧ vp_in (x3 + (1 : Int32)) X.1 ∧ ∃ d758 : Nat, ∃ v763 : Int32, ∃ σ759 : AH, d758 + 1 ≤ D ∧ Call X l m_X12_image d758 [.ref 124, .int (X.2 (x3 + (1 : Int32)).toNatClampNeg)] σ752 (some (.int v763)) σ759 ∧ (if v756 = v763 then W_L_law_2038 X l D x3 σ759 r σ' else (r = some (.int (0 : Int32)) ∧ σ' = σ759))
set_option maxRecDepth 100000 in
theorem w_L_law_1956 {X : Sx} {l : Launch} {D : Nat} {x3 : Int32} {σ : AH} {r : Option Value} {σ' : AH} (hs : Sh σ) (h : W_L_law_1956 X l D x3 σ r σ') : E X l m_LW D 1956 [(0, .ref 1000000), (1, .ref 0), (2, .ref 124), (3, .int x3)] [] σ r σ' := by
  unfold W_L_law_1956 at h
  refine E_aload_n 1 dL_law_1956 rfl rfl ?_
  refine E_aload_n 0 dL_law_1957 rfl rfl ?_
  refine E_iload_n 3 dL_law_1958 rfl rfl ?_
  refine E_iconst (1 : Int32) dL_law_1959 (by decide) ?_
  refine E_iadd dL_law_1960 ?_
  obtain ⟨g750, h⟩ := h
  refine E_sld dL_law_1961 g750 ?_
  obtain ⟨d751, v756, σ752, hD753, hC754, h⟩ := h
  have hs755 := hC754.1.2.2.2.1 hs
  refine E_callV (As := [.int (X.2 (x3 + (1 : Int32)).toNatClampNeg)]) (rest := []) (r1 := (some (.int v756))) (b := 0) dL_law_1962 ok_X11_image in_X11_image se_X11_image ml_L_182 hD753 rfl rfl (Nat.le_of_ble_eq_true rfl) (sk_0 hs) (sn hs (by decide)) (by decide) rfl (by decide +kernel) hC754 ?_
  refine E_aload_n 2 dL_law_1965 rfl rfl ?_
  refine E_aload_n 0 dL_law_1966 rfl rfl ?_
  refine E_iload_n 3 dL_law_1967 rfl rfl ?_
  refine E_iconst (1 : Int32) dL_law_1968 (by decide) ?_
  refine E_iadd dL_law_1969 ?_
  obtain ⟨g757, h⟩ := h
  refine E_sld dL_law_1970 g757 ?_
  obtain ⟨d758, v763, σ759, hD760, hC761, h⟩ := h
  have hs762 := hC761.1.2.2.2.1 hs755
  refine E_callV (As := [.int (X.2 (x3 + (1 : Int32)).toNatClampNeg)]) (rest := [.int v756]) (r1 := (some (.int v763))) (b := 124) dL_law_1971 ok_X12_image in_X12_image se_X12_image ml_L_185 hD760 rfl rfl (Nat.le_of_ble_eq_true rfl) (sk_124 hs755) (sn hs755 (by decide)) (by decide) rfl (by decide +kernel) hC761 ?_
  refine E_icmp_eq 2038 dL_law_1974 (by decide) (fun c => ?_) (fun c => ?_)
  · rw [if_pos c] at h
    exact E_lv [0, 1, 2, 3] rfl (w_L_law_2038 hs762 h)
  · rw [if_neg c] at h
    refine E_iconst (0 : Int32) dL_law_1977 (by decide) ?_
    obtain ⟨rfl, rfl⟩ := h
    exact E_zret dL_law_1978 rfl (Or.inl rfl)
def W_L_law_1979 (X : Sx) (l : Launch) (D : Nat) (x3 : Int32) (σ : AH) (r : Option Value) (σ' : AH) : Prop := vp_in (x3 + (1 : Int32)) X.1 ∧ ∃ d765 : Nat, ∃ v770 : Int32, ∃ σ766 : AH, d765 + 1 ≤ D ∧ Call X l m_X11_back d765 [.ref 0, .int (X.2 (x3 + (1 : Int32)).toNatClampNeg)] σ (some (.int v770)) σ766 ∧ vp_in (x3 + (1 : Int32)) X.1 ∧ ∃ d772 : Nat, ∃ v777 : Int32, ∃ σ773 : AH, d772 + 1 ≤ D ∧ Call X l m_X12_back d772 [.ref 124, .int (X.2 (x3 + (1 : Int32)).toNatClampNeg)] σ766 (some (.int v777)) σ773 ∧ (if v770 = v777 then W_L_law_2038 X l D x3 σ773 r σ' else (r = some (.int (0 : Int32)) ∧ σ' = σ773))
set_option maxRecDepth 100000 in
theorem w_L_law_1979 {X : Sx} {l : Launch} {D : Nat} {x3 : Int32} {σ : AH} {r : Option Value} {σ' : AH} (hs : Sh σ) (h : W_L_law_1979 X l D x3 σ r σ') : E X l m_LW D 1979 [(0, .ref 1000000), (1, .ref 0), (2, .ref 124), (3, .int x3)] [] σ r σ' := by
  unfold W_L_law_1979 at h
  refine E_aload_n 1 dL_law_1979 rfl rfl ?_
  refine E_aload_n 0 dL_law_1980 rfl rfl ?_
  refine E_iload_n 3 dL_law_1981 rfl rfl ?_
  refine E_iconst (1 : Int32) dL_law_1982 (by decide) ?_
  refine E_iadd dL_law_1983 ?_
  obtain ⟨g764, h⟩ := h
  refine E_sld dL_law_1984 g764 ?_
  obtain ⟨d765, v770, σ766, hD767, hC768, h⟩ := h
  have hs769 := hC768.1.2.2.2.1 hs
  refine E_callV (As := [.int (X.2 (x3 + (1 : Int32)).toNatClampNeg)]) (rest := []) (r1 := (some (.int v770))) (b := 0) dL_law_1985 ok_X11_back in_X11_back se_X11_back ml_L_186 hD767 rfl rfl (Nat.le_of_ble_eq_true rfl) (sk_0 hs) (sn hs (by decide)) (by decide) rfl (by decide +kernel) hC768 ?_
  refine E_aload_n 2 dL_law_1988 rfl rfl ?_
  refine E_aload_n 0 dL_law_1989 rfl rfl ?_
  refine E_iload_n 3 dL_law_1990 rfl rfl ?_
  refine E_iconst (1 : Int32) dL_law_1991 (by decide) ?_
  refine E_iadd dL_law_1992 ?_
  obtain ⟨g771, h⟩ := h
  refine E_sld dL_law_1993 g771 ?_
  obtain ⟨d772, v777, σ773, hD774, hC775, h⟩ := h
  have hs776 := hC775.1.2.2.2.1 hs769
  refine E_callV (As := [.int (X.2 (x3 + (1 : Int32)).toNatClampNeg)]) (rest := [.int v770]) (r1 := (some (.int v777))) (b := 124) dL_law_1994 ok_X12_back in_X12_back se_X12_back ml_L_189 hD774 rfl rfl (Nat.le_of_ble_eq_true rfl) (sk_124 hs769) (sn hs769 (by decide)) (by decide) rfl (by decide +kernel) hC775 ?_
  refine E_icmp_eq 2038 dL_law_1997 (by decide) (fun c => ?_) (fun c => ?_)
  · rw [if_pos c] at h
    exact E_lv [0, 1, 2, 3] rfl (w_L_law_2038 hs776 h)
  · rw [if_neg c] at h
    refine E_iconst (0 : Int32) dL_law_2000 (by decide) ?_
    obtain ⟨rfl, rfl⟩ := h
    exact E_zret dL_law_2001 rfl (Or.inl rfl)
def W_L_law_2002 (X : Sx) (l : Launch) (D : Nat) (x3 : Int32) (σ : AH) (r : Option Value) (σ' : AH) : Prop := vp_in (x3 + (1 : Int32)) X.1 ∧ ∃ d779 : Nat, ∃ v784 : Int32, ∃ σ780 : AH, d779 + 1 ≤ D ∧ Call X l m_X11_count d779 [.ref 0, .int (X.2 (x3 + (1 : Int32)).toNatClampNeg)] σ (some (.int v784)) σ780 ∧ vp_in (x3 + (1 : Int32)) X.1 ∧ ∃ d786 : Nat, ∃ v791 : Int32, ∃ σ787 : AH, d786 + 1 ≤ D ∧ Call X l m_X12_count d786 [.ref 124, .int (X.2 (x3 + (1 : Int32)).toNatClampNeg)] σ780 (some (.int v791)) σ787 ∧ (if v784 = v791 then W_L_law_2038 X l D x3 σ787 r σ' else (r = some (.int (0 : Int32)) ∧ σ' = σ787))
set_option maxRecDepth 100000 in
theorem w_L_law_2002 {X : Sx} {l : Launch} {D : Nat} {x3 : Int32} {σ : AH} {r : Option Value} {σ' : AH} (hs : Sh σ) (h : W_L_law_2002 X l D x3 σ r σ') : E X l m_LW D 2002 [(0, .ref 1000000), (1, .ref 0), (2, .ref 124), (3, .int x3)] [] σ r σ' := by
  unfold W_L_law_2002 at h
  refine E_aload_n 1 dL_law_2002 rfl rfl ?_
  refine E_aload_n 0 dL_law_2003 rfl rfl ?_
  refine E_iload_n 3 dL_law_2004 rfl rfl ?_
  refine E_iconst (1 : Int32) dL_law_2005 (by decide) ?_
  refine E_iadd dL_law_2006 ?_
  obtain ⟨g778, h⟩ := h
  refine E_sld dL_law_2007 g778 ?_
  obtain ⟨d779, v784, σ780, hD781, hC782, h⟩ := h
  have hs783 := hC782.1.2.2.2.1 hs
  refine E_callV (As := [.int (X.2 (x3 + (1 : Int32)).toNatClampNeg)]) (rest := []) (r1 := (some (.int v784))) (b := 0) dL_law_2008 ok_X11_count in_X11_count se_X11_count ml_L_190 hD781 rfl rfl (Nat.le_of_ble_eq_true rfl) (sk_0 hs) (sn hs (by decide)) (by decide) rfl (by decide +kernel) hC782 ?_
  refine E_aload_n 2 dL_law_2011 rfl rfl ?_
  refine E_aload_n 0 dL_law_2012 rfl rfl ?_
  refine E_iload_n 3 dL_law_2013 rfl rfl ?_
  refine E_iconst (1 : Int32) dL_law_2014 (by decide) ?_
  refine E_iadd dL_law_2015 ?_
  obtain ⟨g785, h⟩ := h
  refine E_sld dL_law_2016 g785 ?_
  obtain ⟨d786, v791, σ787, hD788, hC789, h⟩ := h
  have hs790 := hC789.1.2.2.2.1 hs783
  refine E_callV (As := [.int (X.2 (x3 + (1 : Int32)).toNatClampNeg)]) (rest := [.int v784]) (r1 := (some (.int v791))) (b := 124) dL_law_2017 ok_X12_count in_X12_count se_X12_count ml_L_193 hD788 rfl rfl (Nat.le_of_ble_eq_true rfl) (sk_124 hs783) (sn hs783 (by decide)) (by decide) rfl (by decide +kernel) hC789 ?_
  refine E_icmp_eq 2038 dL_law_2020 (by decide) (fun c => ?_) (fun c => ?_)
  · rw [if_pos c] at h
    exact E_lv [0, 1, 2, 3] rfl (w_L_law_2038 hs790 h)
  · rw [if_neg c] at h
    refine E_iconst (0 : Int32) dL_law_2023 (by decide) ?_
    obtain ⟨rfl, rfl⟩ := h
    exact E_zret dL_law_2024 rfl (Or.inl rfl)
def W_L_law_2025 (X : Sx) (l : Launch) (D : Nat) (x3 : Int32) (σ : AH) (r : Option Value) (σ' : AH) : Prop := ∃ d792 : Nat, ∃ v797 : Int32, ∃ σ793 : AH, d792 + 1 ≤ D ∧ Call X l m_X11_status d792 [.ref 0] σ (some (.int v797)) σ793 ∧ ∃ d798 : Nat, ∃ v803 : Int32, ∃ σ799 : AH, d798 + 1 ≤ D ∧ Call X l m_X12_status d798 [.ref 124] σ793 (some (.int v803)) σ799 ∧ (if v797 = v803 then W_L_law_2038 X l D x3 σ799 r σ' else (r = some (.int (0 : Int32)) ∧ σ' = σ799))
set_option maxRecDepth 100000 in
theorem w_L_law_2025 {X : Sx} {l : Launch} {D : Nat} {x3 : Int32} {σ : AH} {r : Option Value} {σ' : AH} (hs : Sh σ) (h : W_L_law_2025 X l D x3 σ r σ') : E X l m_LW D 2025 [(0, .ref 1000000), (1, .ref 0), (2, .ref 124), (3, .int x3)] [] σ r σ' := by
  unfold W_L_law_2025 at h
  refine E_aload_n 1 dL_law_2025 rfl rfl ?_
  obtain ⟨d792, v797, σ793, hD794, hC795, h⟩ := h
  have hs796 := hC795.1.2.2.2.1 hs
  refine E_callV (As := []) (rest := []) (r1 := (some (.int v797))) (b := 0) dL_law_2026 ok_X11_status in_X11_status se_X11_status ml_L_194 hD794 rfl rfl (Nat.le_of_ble_eq_true rfl) (sk_0 hs) (sn hs (by decide)) (by decide) rfl (by decide +kernel) hC795 ?_
  refine E_aload_n 2 dL_law_2029 rfl rfl ?_
  obtain ⟨d798, v803, σ799, hD800, hC801, h⟩ := h
  have hs802 := hC801.1.2.2.2.1 hs796
  refine E_callV (As := []) (rest := [.int v797]) (r1 := (some (.int v803))) (b := 124) dL_law_2030 ok_X12_status in_X12_status se_X12_status ml_L_197 hD800 rfl rfl (Nat.le_of_ble_eq_true rfl) (sk_124 hs796) (sn hs796 (by decide)) (by decide) rfl (by decide +kernel) hC801 ?_
  refine E_icmp_eq 2038 dL_law_2033 (by decide) (fun c => ?_) (fun c => ?_)
  · rw [if_pos c] at h
    exact E_lv [0, 1, 2, 3] rfl (w_L_law_2038 hs802 h)
  · rw [if_neg c] at h
    refine E_iconst (0 : Int32) dL_law_2036 (by decide) ?_
    obtain ⟨rfl, rfl⟩ := h
    exact E_zret dL_law_2037 rfl (Or.inl rfl)
def W_L_law_224 (X : Sx) (l : Launch) (D : Nat) (x3 : Int32) (σ : AH) (r : Option Value) (σ' : AH) : Prop := vp_in (x3 + (1 : Int32)) X.1 ∧ vp_in (x3 + (2 : Int32)) X.1 ∧ vp_in (x3 + (3 : Int32)) X.1 ∧ vp_in (x3 + (4 : Int32)) X.1 ∧ vp_in (x3 + (5 : Int32)) X.1 ∧ ∃ d35 : Nat, ∃ v40 : Int32, ∃ σ36 : AH, d35 + 1 ≤ D ∧ Call X l m_X11_feed d35 [.ref 0, .int (X.2 (x3 + (1 : Int32)).toNatClampNeg), .int (X.2 (x3 + (2 : Int32)).toNatClampNeg), .int (X.2 (x3 + (3 : Int32)).toNatClampNeg), .int (X.2 (x3 + (4 : Int32)).toNatClampNeg), .int (X.2 (x3 + (5 : Int32)).toNatClampNeg)] σ (some (.int v40)) σ36 ∧ vp_in (x3 + (1 : Int32)) X.1 ∧ vp_in (x3 + (2 : Int32)) X.1 ∧ vp_in (x3 + (3 : Int32)) X.1 ∧ vp_in (x3 + (4 : Int32)) X.1 ∧ vp_in (x3 + (5 : Int32)) X.1 ∧ ∃ d46 : Nat, ∃ v51 : Int32, ∃ σ47 : AH, d46 + 1 ≤ D ∧ Call X l m_X12_feed d46 [.ref 124, .int (X.2 (x3 + (1 : Int32)).toNatClampNeg), .int (X.2 (x3 + (2 : Int32)).toNatClampNeg), .int (X.2 (x3 + (3 : Int32)).toNatClampNeg), .int (X.2 (x3 + (4 : Int32)).toNatClampNeg), .int (X.2 (x3 + (5 : Int32)).toNatClampNeg)] σ36 (some (.int v51)) σ47 ∧ (if v40 = v51 then W_L_law_2038 X l D x3 σ47 r σ' else (r = some (.int (0 : Int32)) ∧ σ' = σ47))
set_option maxRecDepth 100000 in
theorem w_L_law_224 {X : Sx} {l : Launch} {D : Nat} {x3 : Int32} {σ : AH} {r : Option Value} {σ' : AH} (hs : Sh σ) (h : W_L_law_224 X l D x3 σ r σ') : E X l m_LW D 224 [(0, .ref 1000000), (1, .ref 0), (2, .ref 124), (3, .int x3)] [] σ r σ' := by
  unfold W_L_law_224 at h
  refine E_aload_n 1 dL_law_224 rfl rfl ?_
  refine E_aload_n 0 dL_law_225 rfl rfl ?_
  refine E_iload_n 3 dL_law_226 rfl rfl ?_
  refine E_iconst (1 : Int32) dL_law_227 (by decide) ?_
  refine E_iadd dL_law_228 ?_
  obtain ⟨g30, h⟩ := h
  refine E_sld dL_law_229 g30 ?_
  refine E_aload_n 0 dL_law_230 rfl rfl ?_
  refine E_iload_n 3 dL_law_231 rfl rfl ?_
  refine E_iconst (2 : Int32) dL_law_232 (by decide) ?_
  refine E_iadd dL_law_233 ?_
  obtain ⟨g31, h⟩ := h
  refine E_sld dL_law_234 g31 ?_
  refine E_aload_n 0 dL_law_235 rfl rfl ?_
  refine E_iload_n 3 dL_law_236 rfl rfl ?_
  refine E_iconst (3 : Int32) dL_law_237 (by decide) ?_
  refine E_iadd dL_law_238 ?_
  obtain ⟨g32, h⟩ := h
  refine E_sld dL_law_239 g32 ?_
  refine E_aload_n 0 dL_law_240 rfl rfl ?_
  refine E_iload_n 3 dL_law_241 rfl rfl ?_
  refine E_iconst (4 : Int32) dL_law_242 (by decide) ?_
  refine E_iadd dL_law_243 ?_
  obtain ⟨g33, h⟩ := h
  refine E_sld dL_law_244 g33 ?_
  refine E_aload_n 0 dL_law_245 rfl rfl ?_
  refine E_iload_n 3 dL_law_246 rfl rfl ?_
  refine E_iconst (5 : Int32) dL_law_247 (by decide) ?_
  refine E_iadd dL_law_248 ?_
  obtain ⟨g34, h⟩ := h
  refine E_sld dL_law_249 g34 ?_
  obtain ⟨d35, v40, σ36, hD37, hC38, h⟩ := h
  have hs39 := hC38.1.2.2.2.1 hs
  refine E_callV (As := [.int (X.2 (x3 + (1 : Int32)).toNatClampNeg), .int (X.2 (x3 + (2 : Int32)).toNatClampNeg), .int (X.2 (x3 + (3 : Int32)).toNatClampNeg), .int (X.2 (x3 + (4 : Int32)).toNatClampNeg), .int (X.2 (x3 + (5 : Int32)).toNatClampNeg)]) (rest := []) (r1 := (some (.int v40))) (b := 0) dL_law_250 ok_X11_feed in_X11_feed se_X11_feed ml_L_13 hD37 rfl rfl (Nat.le_of_ble_eq_true rfl) (sk_0 hs) (sn hs (by decide)) (by decide) rfl (by decide +kernel) hC38 ?_
  refine E_aload_n 2 dL_law_253 rfl rfl ?_
  refine E_aload_n 0 dL_law_254 rfl rfl ?_
  refine E_iload_n 3 dL_law_255 rfl rfl ?_
  refine E_iconst (1 : Int32) dL_law_256 (by decide) ?_
  refine E_iadd dL_law_257 ?_
  obtain ⟨g41, h⟩ := h
  refine E_sld dL_law_258 g41 ?_
  refine E_aload_n 0 dL_law_259 rfl rfl ?_
  refine E_iload_n 3 dL_law_260 rfl rfl ?_
  refine E_iconst (2 : Int32) dL_law_261 (by decide) ?_
  refine E_iadd dL_law_262 ?_
  obtain ⟨g42, h⟩ := h
  refine E_sld dL_law_263 g42 ?_
  refine E_aload_n 0 dL_law_264 rfl rfl ?_
  refine E_iload_n 3 dL_law_265 rfl rfl ?_
  refine E_iconst (3 : Int32) dL_law_266 (by decide) ?_
  refine E_iadd dL_law_267 ?_
  obtain ⟨g43, h⟩ := h
  refine E_sld dL_law_268 g43 ?_
  refine E_aload_n 0 dL_law_269 rfl rfl ?_
  refine E_iload_n 3 dL_law_270 rfl rfl ?_
  refine E_iconst (4 : Int32) dL_law_271 (by decide) ?_
  refine E_iadd dL_law_272 ?_
  obtain ⟨g44, h⟩ := h
  refine E_sld dL_law_273 g44 ?_
  refine E_aload_n 0 dL_law_274 rfl rfl ?_
  refine E_iload_n 3 dL_law_275 rfl rfl ?_
  refine E_iconst (5 : Int32) dL_law_276 (by decide) ?_
  refine E_iadd dL_law_277 ?_
  obtain ⟨g45, h⟩ := h
  refine E_sld dL_law_278 g45 ?_
  obtain ⟨d46, v51, σ47, hD48, hC49, h⟩ := h
  have hs50 := hC49.1.2.2.2.1 hs39
  refine E_callV (As := [.int (X.2 (x3 + (1 : Int32)).toNatClampNeg), .int (X.2 (x3 + (2 : Int32)).toNatClampNeg), .int (X.2 (x3 + (3 : Int32)).toNatClampNeg), .int (X.2 (x3 + (4 : Int32)).toNatClampNeg), .int (X.2 (x3 + (5 : Int32)).toNatClampNeg)]) (rest := [.int v40]) (r1 := (some (.int v51))) (b := 124) dL_law_279 ok_X12_feed in_X12_feed se_X12_feed ml_L_17 hD48 rfl rfl (Nat.le_of_ble_eq_true rfl) (sk_124 hs39) (sn hs39 (by decide)) (by decide) rfl (by decide +kernel) hC49 ?_
  refine E_icmp_eq 2038 dL_law_282 (by decide) (fun c => ?_) (fun c => ?_)
  · rw [if_pos c] at h
    exact E_lv [0, 1, 2, 3] rfl (w_L_law_2038 hs50 h)
  · rw [if_neg c] at h
    refine E_iconst (0 : Int32) dL_law_285 (by decide) ?_
    obtain ⟨rfl, rfl⟩ := h
    exact E_zret dL_law_286 rfl (Or.inl rfl)
def W_L_law_287 (X : Sx) (l : Launch) (D : Nat) (x3 : Int32) (σ : AH) (r : Option Value) (σ' : AH) : Prop := vp_in (x3 + (1 : Int32)) X.1 ∧ ∃ d53 : Nat, ∃ v58 : Int32, ∃ σ54 : AH, d53 + 1 ≤ D ∧ Call X l m_X11_end d53 [.ref 0, .int (X.2 (x3 + (1 : Int32)).toNatClampNeg)] σ (some (.int v58)) σ54 ∧ vp_in (x3 + (1 : Int32)) X.1 ∧ ∃ d60 : Nat, ∃ v65 : Int32, ∃ σ61 : AH, d60 + 1 ≤ D ∧ Call X l m_X12_end d60 [.ref 124, .int (X.2 (x3 + (1 : Int32)).toNatClampNeg)] σ54 (some (.int v65)) σ61 ∧ (if v58 = v65 then W_L_law_2038 X l D x3 σ61 r σ' else (r = some (.int (0 : Int32)) ∧ σ' = σ61))
set_option maxRecDepth 100000 in
theorem w_L_law_287 {X : Sx} {l : Launch} {D : Nat} {x3 : Int32} {σ : AH} {r : Option Value} {σ' : AH} (hs : Sh σ) (h : W_L_law_287 X l D x3 σ r σ') : E X l m_LW D 287 [(0, .ref 1000000), (1, .ref 0), (2, .ref 124), (3, .int x3)] [] σ r σ' := by
  unfold W_L_law_287 at h
  refine E_aload_n 1 dL_law_287 rfl rfl ?_
  refine E_aload_n 0 dL_law_288 rfl rfl ?_
  refine E_iload_n 3 dL_law_289 rfl rfl ?_
  refine E_iconst (1 : Int32) dL_law_290 (by decide) ?_
  refine E_iadd dL_law_291 ?_
  obtain ⟨g52, h⟩ := h
  refine E_sld dL_law_292 g52 ?_
  obtain ⟨d53, v58, σ54, hD55, hC56, h⟩ := h
  have hs57 := hC56.1.2.2.2.1 hs
  refine E_callV (As := [.int (X.2 (x3 + (1 : Int32)).toNatClampNeg)]) (rest := []) (r1 := (some (.int v58))) (b := 0) dL_law_293 ok_X11_end in_X11_end se_X11_end ml_L_18 hD55 rfl rfl (Nat.le_of_ble_eq_true rfl) (sk_0 hs) (sn hs (by decide)) (by decide) rfl (by decide +kernel) hC56 ?_
  refine E_aload_n 2 dL_law_296 rfl rfl ?_
  refine E_aload_n 0 dL_law_297 rfl rfl ?_
  refine E_iload_n 3 dL_law_298 rfl rfl ?_
  refine E_iconst (1 : Int32) dL_law_299 (by decide) ?_
  refine E_iadd dL_law_300 ?_
  obtain ⟨g59, h⟩ := h
  refine E_sld dL_law_301 g59 ?_
  obtain ⟨d60, v65, σ61, hD62, hC63, h⟩ := h
  have hs64 := hC63.1.2.2.2.1 hs57
  refine E_callV (As := [.int (X.2 (x3 + (1 : Int32)).toNatClampNeg)]) (rest := [.int v58]) (r1 := (some (.int v65))) (b := 124) dL_law_302 ok_X12_end in_X12_end se_X12_end ml_L_22 hD62 rfl rfl (Nat.le_of_ble_eq_true rfl) (sk_124 hs57) (sn hs57 (by decide)) (by decide) rfl (by decide +kernel) hC63 ?_
  refine E_icmp_eq 2038 dL_law_305 (by decide) (fun c => ?_) (fun c => ?_)
  · rw [if_pos c] at h
    exact E_lv [0, 1, 2, 3] rfl (w_L_law_2038 hs64 h)
  · rw [if_neg c] at h
    refine E_iconst (0 : Int32) dL_law_308 (by decide) ?_
    obtain ⟨rfl, rfl⟩ := h
    exact E_zret dL_law_309 rfl (Or.inl rfl)
def W_L_law_310 (X : Sx) (l : Launch) (D : Nat) (x3 : Int32) (σ : AH) (r : Option Value) (σ' : AH) : Prop := vp_in (x3 + (1 : Int32)) X.1 ∧ vp_in (x3 + (2 : Int32)) X.1 ∧ ∃ d68 : Nat, ∃ v73 : Int32, ∃ σ69 : AH, d68 + 1 ≤ D ∧ Call X l m_X11_act d68 [.ref 0, .int (X.2 (x3 + (1 : Int32)).toNatClampNeg), .int (X.2 (x3 + (2 : Int32)).toNatClampNeg)] σ (some (.int v73)) σ69 ∧ vp_in (x3 + (1 : Int32)) X.1 ∧ vp_in (x3 + (2 : Int32)) X.1 ∧ ∃ d76 : Nat, ∃ v81 : Int32, ∃ σ77 : AH, d76 + 1 ≤ D ∧ Call X l m_X12_act d76 [.ref 124, .int (X.2 (x3 + (1 : Int32)).toNatClampNeg), .int (X.2 (x3 + (2 : Int32)).toNatClampNeg)] σ69 (some (.int v81)) σ77 ∧ (if v73 = v81 then W_L_law_2038 X l D x3 σ77 r σ' else (r = some (.int (0 : Int32)) ∧ σ' = σ77))
set_option maxRecDepth 100000 in
theorem w_L_law_310 {X : Sx} {l : Launch} {D : Nat} {x3 : Int32} {σ : AH} {r : Option Value} {σ' : AH} (hs : Sh σ) (h : W_L_law_310 X l D x3 σ r σ') : E X l m_LW D 310 [(0, .ref 1000000), (1, .ref 0), (2, .ref 124), (3, .int x3)] [] σ r σ' := by
  unfold W_L_law_310 at h
  refine E_aload_n 1 dL_law_310 rfl rfl ?_
  refine E_aload_n 0 dL_law_311 rfl rfl ?_
  refine E_iload_n 3 dL_law_312 rfl rfl ?_
  refine E_iconst (1 : Int32) dL_law_313 (by decide) ?_
  refine E_iadd dL_law_314 ?_
  obtain ⟨g66, h⟩ := h
  refine E_sld dL_law_315 g66 ?_
  refine E_aload_n 0 dL_law_316 rfl rfl ?_
  refine E_iload_n 3 dL_law_317 rfl rfl ?_
  refine E_iconst (2 : Int32) dL_law_318 (by decide) ?_
  refine E_iadd dL_law_319 ?_
  obtain ⟨g67, h⟩ := h
  refine E_sld dL_law_320 g67 ?_
  obtain ⟨d68, v73, σ69, hD70, hC71, h⟩ := h
  have hs72 := hC71.1.2.2.2.1 hs
  refine E_callV (As := [.int (X.2 (x3 + (1 : Int32)).toNatClampNeg), .int (X.2 (x3 + (2 : Int32)).toNatClampNeg)]) (rest := []) (r1 := (some (.int v73))) (b := 0) dL_law_321 ok_X11_act in_X11_act se_X11_act ml_L_23 hD70 rfl rfl (Nat.le_of_ble_eq_true rfl) (sk_0 hs) (sn hs (by decide)) (by decide) rfl (by decide +kernel) hC71 ?_
  refine E_aload_n 2 dL_law_324 rfl rfl ?_
  refine E_aload_n 0 dL_law_325 rfl rfl ?_
  refine E_iload_n 3 dL_law_326 rfl rfl ?_
  refine E_iconst (1 : Int32) dL_law_327 (by decide) ?_
  refine E_iadd dL_law_328 ?_
  obtain ⟨g74, h⟩ := h
  refine E_sld dL_law_329 g74 ?_
  refine E_aload_n 0 dL_law_330 rfl rfl ?_
  refine E_iload_n 3 dL_law_331 rfl rfl ?_
  refine E_iconst (2 : Int32) dL_law_332 (by decide) ?_
  refine E_iadd dL_law_333 ?_
  obtain ⟨g75, h⟩ := h
  refine E_sld dL_law_334 g75 ?_
  obtain ⟨d76, v81, σ77, hD78, hC79, h⟩ := h
  have hs80 := hC79.1.2.2.2.1 hs72
  refine E_callV (As := [.int (X.2 (x3 + (1 : Int32)).toNatClampNeg), .int (X.2 (x3 + (2 : Int32)).toNatClampNeg)]) (rest := [.int v73]) (r1 := (some (.int v81))) (b := 124) dL_law_335 ok_X12_act in_X12_act se_X12_act ml_L_27 hD78 rfl rfl (Nat.le_of_ble_eq_true rfl) (sk_124 hs72) (sn hs72 (by decide)) (by decide) rfl (by decide +kernel) hC79 ?_
  refine E_icmp_eq 2038 dL_law_338 (by decide) (fun c => ?_) (fun c => ?_)
  · rw [if_pos c] at h
    exact E_lv [0, 1, 2, 3] rfl (w_L_law_2038 hs80 h)
  · rw [if_neg c] at h
    refine E_iconst (0 : Int32) dL_law_341 (by decide) ?_
    obtain ⟨rfl, rfl⟩ := h
    exact E_zret dL_law_342 rfl (Or.inl rfl)
def W_L_law_343 (X : Sx) (l : Launch) (D : Nat) (x3 : Int32) (σ : AH) (r : Option Value) (σ' : AH) : Prop := ∃ d82 : Nat, ∃ v87 : Int32, ∃ σ83 : AH, d82 + 1 ≤ D ∧ Call X l m_X11_fault d82 [.ref 0] σ (some (.int v87)) σ83 ∧ ∃ d88 : Nat, ∃ v93 : Int32, ∃ σ89 : AH, d88 + 1 ≤ D ∧ Call X l m_X12_fault d88 [.ref 124] σ83 (some (.int v93)) σ89 ∧ (if v87 = v93 then W_L_law_2038 X l D x3 σ89 r σ' else (r = some (.int (0 : Int32)) ∧ σ' = σ89))
set_option maxRecDepth 100000 in
theorem w_L_law_343 {X : Sx} {l : Launch} {D : Nat} {x3 : Int32} {σ : AH} {r : Option Value} {σ' : AH} (hs : Sh σ) (h : W_L_law_343 X l D x3 σ r σ') : E X l m_LW D 343 [(0, .ref 1000000), (1, .ref 0), (2, .ref 124), (3, .int x3)] [] σ r σ' := by
  unfold W_L_law_343 at h
  refine E_aload_n 1 dL_law_343 rfl rfl ?_
  obtain ⟨d82, v87, σ83, hD84, hC85, h⟩ := h
  have hs86 := hC85.1.2.2.2.1 hs
  refine E_callV (As := []) (rest := []) (r1 := (some (.int v87))) (b := 0) dL_law_344 ok_X11_fault in_X11_fault se_X11_fault ml_L_28 hD84 rfl rfl (Nat.le_of_ble_eq_true rfl) (sk_0 hs) (sn hs (by decide)) (by decide) rfl (by decide +kernel) hC85 ?_
  refine E_aload_n 2 dL_law_347 rfl rfl ?_
  obtain ⟨d88, v93, σ89, hD90, hC91, h⟩ := h
  have hs92 := hC91.1.2.2.2.1 hs86
  refine E_callV (As := []) (rest := [.int v87]) (r1 := (some (.int v93))) (b := 124) dL_law_348 ok_X12_fault in_X12_fault se_X12_fault ml_L_32 hD90 rfl rfl (Nat.le_of_ble_eq_true rfl) (sk_124 hs86) (sn hs86 (by decide)) (by decide) rfl (by decide +kernel) hC91 ?_
  refine E_icmp_eq 2038 dL_law_351 (by decide) (fun c => ?_) (fun c => ?_)
  · rw [if_pos c] at h
    exact E_lv [0, 1, 2, 3] rfl (w_L_law_2038 hs92 h)
  · rw [if_neg c] at h
    refine E_iconst (0 : Int32) dL_law_354 (by decide) ?_
    obtain ⟨rfl, rfl⟩ := h
    exact E_zret dL_law_355 rfl (Or.inl rfl)
def W_L_law_356 (X : Sx) (l : Launch) (D : Nat) (x3 : Int32) (σ : AH) (r : Option Value) (σ' : AH) : Prop := vp_in (x3 + (1 : Int32)) X.1 ∧ vp_in (x3 + (2 : Int32)) X.1 ∧ vp_in (x3 + (3 : Int32)) X.1 ∧ vp_in (x3 + (4 : Int32)) X.1 ∧ ∃ d98 : Nat, ∃ v103 : Int32, ∃ σ99 : AH, d98 + 1 ≤ D ∧ Call X l m_X11_force d98 [.ref 0, .int (X.2 (x3 + (1 : Int32)).toNatClampNeg), .int (X.2 (x3 + (2 : Int32)).toNatClampNeg), .int (X.2 (x3 + (3 : Int32)).toNatClampNeg), .int (X.2 (x3 + (4 : Int32)).toNatClampNeg)] σ (some (.int v103)) σ99 ∧ vp_in (x3 + (1 : Int32)) X.1 ∧ vp_in (x3 + (2 : Int32)) X.1 ∧ vp_in (x3 + (3 : Int32)) X.1 ∧ vp_in (x3 + (4 : Int32)) X.1 ∧ ∃ d108 : Nat, ∃ v113 : Int32, ∃ σ109 : AH, d108 + 1 ≤ D ∧ Call X l m_X12_force d108 [.ref 124, .int (X.2 (x3 + (1 : Int32)).toNatClampNeg), .int (X.2 (x3 + (2 : Int32)).toNatClampNeg), .int (X.2 (x3 + (3 : Int32)).toNatClampNeg), .int (X.2 (x3 + (4 : Int32)).toNatClampNeg)] σ99 (some (.int v113)) σ109 ∧ (if v103 = v113 then W_L_law_2038 X l D x3 σ109 r σ' else (r = some (.int (0 : Int32)) ∧ σ' = σ109))
set_option maxRecDepth 100000 in
theorem w_L_law_356 {X : Sx} {l : Launch} {D : Nat} {x3 : Int32} {σ : AH} {r : Option Value} {σ' : AH} (hs : Sh σ) (h : W_L_law_356 X l D x3 σ r σ') : E X l m_LW D 356 [(0, .ref 1000000), (1, .ref 0), (2, .ref 124), (3, .int x3)] [] σ r σ' := by
  unfold W_L_law_356 at h
  refine E_aload_n 1 dL_law_356 rfl rfl ?_
  refine E_aload_n 0 dL_law_357 rfl rfl ?_
  refine E_iload_n 3 dL_law_358 rfl rfl ?_
  refine E_iconst (1 : Int32) dL_law_359 (by decide) ?_
  refine E_iadd dL_law_360 ?_
  obtain ⟨g94, h⟩ := h
  refine E_sld dL_law_361 g94 ?_
  refine E_aload_n 0 dL_law_362 rfl rfl ?_
  refine E_iload_n 3 dL_law_363 rfl rfl ?_
  refine E_iconst (2 : Int32) dL_law_364 (by decide) ?_
  refine E_iadd dL_law_365 ?_
  obtain ⟨g95, h⟩ := h
  refine E_sld dL_law_366 g95 ?_
  refine E_aload_n 0 dL_law_367 rfl rfl ?_
  refine E_iload_n 3 dL_law_368 rfl rfl ?_
  refine E_iconst (3 : Int32) dL_law_369 (by decide) ?_
  refine E_iadd dL_law_370 ?_
  obtain ⟨g96, h⟩ := h
  refine E_sld dL_law_371 g96 ?_
  refine E_aload_n 0 dL_law_372 rfl rfl ?_
  refine E_iload_n 3 dL_law_373 rfl rfl ?_
  refine E_iconst (4 : Int32) dL_law_374 (by decide) ?_
  refine E_iadd dL_law_375 ?_
  obtain ⟨g97, h⟩ := h
  refine E_sld dL_law_376 g97 ?_
  obtain ⟨d98, v103, σ99, hD100, hC101, h⟩ := h
  have hs102 := hC101.1.2.2.2.1 hs
  refine E_callV (As := [.int (X.2 (x3 + (1 : Int32)).toNatClampNeg), .int (X.2 (x3 + (2 : Int32)).toNatClampNeg), .int (X.2 (x3 + (3 : Int32)).toNatClampNeg), .int (X.2 (x3 + (4 : Int32)).toNatClampNeg)]) (rest := []) (r1 := (some (.int v103))) (b := 0) dL_law_377 ok_X11_force in_X11_force se_X11_force ml_L_33 hD100 rfl rfl (Nat.le_of_ble_eq_true rfl) (sk_0 hs) (sn hs (by decide)) (by decide) rfl (by decide +kernel) hC101 ?_
  refine E_aload_n 2 dL_law_380 rfl rfl ?_
  refine E_aload_n 0 dL_law_381 rfl rfl ?_
  refine E_iload_n 3 dL_law_382 rfl rfl ?_
  refine E_iconst (1 : Int32) dL_law_383 (by decide) ?_
  refine E_iadd dL_law_384 ?_
  obtain ⟨g104, h⟩ := h
  refine E_sld dL_law_385 g104 ?_
  refine E_aload_n 0 dL_law_386 rfl rfl ?_
  refine E_iload_n 3 dL_law_387 rfl rfl ?_
  refine E_iconst (2 : Int32) dL_law_388 (by decide) ?_
  refine E_iadd dL_law_389 ?_
  obtain ⟨g105, h⟩ := h
  refine E_sld dL_law_390 g105 ?_
  refine E_aload_n 0 dL_law_391 rfl rfl ?_
  refine E_iload_n 3 dL_law_392 rfl rfl ?_
  refine E_iconst (3 : Int32) dL_law_393 (by decide) ?_
  refine E_iadd dL_law_394 ?_
  obtain ⟨g106, h⟩ := h
  refine E_sld dL_law_395 g106 ?_
  refine E_aload_n 0 dL_law_396 rfl rfl ?_
  refine E_iload_n 3 dL_law_397 rfl rfl ?_
  refine E_iconst (4 : Int32) dL_law_398 (by decide) ?_
  refine E_iadd dL_law_399 ?_
  obtain ⟨g107, h⟩ := h
  refine E_sld dL_law_400 g107 ?_
  obtain ⟨d108, v113, σ109, hD110, hC111, h⟩ := h
  have hs112 := hC111.1.2.2.2.1 hs102
  refine E_callV (As := [.int (X.2 (x3 + (1 : Int32)).toNatClampNeg), .int (X.2 (x3 + (2 : Int32)).toNatClampNeg), .int (X.2 (x3 + (3 : Int32)).toNatClampNeg), .int (X.2 (x3 + (4 : Int32)).toNatClampNeg)]) (rest := [.int v103]) (r1 := (some (.int v113))) (b := 124) dL_law_401 ok_X12_force in_X12_force se_X12_force ml_L_37 hD110 rfl rfl (Nat.le_of_ble_eq_true rfl) (sk_124 hs102) (sn hs102 (by decide)) (by decide) rfl (by decide +kernel) hC111 ?_
  refine E_icmp_eq 2038 dL_law_404 (by decide) (fun c => ?_) (fun c => ?_)
  · rw [if_pos c] at h
    exact E_lv [0, 1, 2, 3] rfl (w_L_law_2038 hs112 h)
  · rw [if_neg c] at h
    refine E_iconst (0 : Int32) dL_law_407 (by decide) ?_
    obtain ⟨rfl, rfl⟩ := h
    exact E_zret dL_law_408 rfl (Or.inl rfl)
def W_L_law_409 (X : Sx) (l : Launch) (D : Nat) (x3 : Int32) (σ : AH) (r : Option Value) (σ' : AH) : Prop := vp_in (x3 + (1 : Int32)) X.1 ∧ vp_in (x3 + (2 : Int32)) X.1 ∧ vp_in (x3 + (3 : Int32)) X.1 ∧ ∃ d117 : Nat, ∃ v122 : Int32, ∃ σ118 : AH, d117 + 1 ≤ D ∧ Call X l m_X11_counts d117 [.ref 0, .int (X.2 (x3 + (1 : Int32)).toNatClampNeg), .int (X.2 (x3 + (2 : Int32)).toNatClampNeg), .int (X.2 (x3 + (3 : Int32)).toNatClampNeg)] σ (some (.int v122)) σ118 ∧ vp_in (x3 + (1 : Int32)) X.1 ∧ vp_in (x3 + (2 : Int32)) X.1 ∧ vp_in (x3 + (3 : Int32)) X.1 ∧ ∃ d126 : Nat, ∃ v131 : Int32, ∃ σ127 : AH, d126 + 1 ≤ D ∧ Call X l m_X12_counts d126 [.ref 124, .int (X.2 (x3 + (1 : Int32)).toNatClampNeg), .int (X.2 (x3 + (2 : Int32)).toNatClampNeg), .int (X.2 (x3 + (3 : Int32)).toNatClampNeg)] σ118 (some (.int v131)) σ127 ∧ (if v122 = v131 then W_L_law_2038 X l D x3 σ127 r σ' else (r = some (.int (0 : Int32)) ∧ σ' = σ127))
set_option maxRecDepth 100000 in
theorem w_L_law_409 {X : Sx} {l : Launch} {D : Nat} {x3 : Int32} {σ : AH} {r : Option Value} {σ' : AH} (hs : Sh σ) (h : W_L_law_409 X l D x3 σ r σ') : E X l m_LW D 409 [(0, .ref 1000000), (1, .ref 0), (2, .ref 124), (3, .int x3)] [] σ r σ' := by
  unfold W_L_law_409 at h
  refine E_aload_n 1 dL_law_409 rfl rfl ?_
  refine E_aload_n 0 dL_law_410 rfl rfl ?_
  refine E_iload_n 3 dL_law_411 rfl rfl ?_
  refine E_iconst (1 : Int32) dL_law_412 (by decide) ?_
  refine E_iadd dL_law_413 ?_
  obtain ⟨g114, h⟩ := h
  refine E_sld dL_law_414 g114 ?_
  refine E_aload_n 0 dL_law_415 rfl rfl ?_
  refine E_iload_n 3 dL_law_416 rfl rfl ?_
  refine E_iconst (2 : Int32) dL_law_417 (by decide) ?_
  refine E_iadd dL_law_418 ?_
  obtain ⟨g115, h⟩ := h
  refine E_sld dL_law_419 g115 ?_
  refine E_aload_n 0 dL_law_420 rfl rfl ?_
  refine E_iload_n 3 dL_law_421 rfl rfl ?_
  refine E_iconst (3 : Int32) dL_law_422 (by decide) ?_
  refine E_iadd dL_law_423 ?_
  obtain ⟨g116, h⟩ := h
  refine E_sld dL_law_424 g116 ?_
  obtain ⟨d117, v122, σ118, hD119, hC120, h⟩ := h
  have hs121 := hC120.1.2.2.2.1 hs
  refine E_callV (As := [.int (X.2 (x3 + (1 : Int32)).toNatClampNeg), .int (X.2 (x3 + (2 : Int32)).toNatClampNeg), .int (X.2 (x3 + (3 : Int32)).toNatClampNeg)]) (rest := []) (r1 := (some (.int v122))) (b := 0) dL_law_425 ok_X11_counts in_X11_counts se_X11_counts ml_L_38 hD119 rfl rfl (Nat.le_of_ble_eq_true rfl) (sk_0 hs) (sn hs (by decide)) (by decide) rfl (by decide +kernel) hC120 ?_
  refine E_aload_n 2 dL_law_428 rfl rfl ?_
  refine E_aload_n 0 dL_law_429 rfl rfl ?_
  refine E_iload_n 3 dL_law_430 rfl rfl ?_
  refine E_iconst (1 : Int32) dL_law_431 (by decide) ?_
  refine E_iadd dL_law_432 ?_
  obtain ⟨g123, h⟩ := h
  refine E_sld dL_law_433 g123 ?_
  refine E_aload_n 0 dL_law_434 rfl rfl ?_
  refine E_iload_n 3 dL_law_435 rfl rfl ?_
  refine E_iconst (2 : Int32) dL_law_436 (by decide) ?_
  refine E_iadd dL_law_437 ?_
  obtain ⟨g124, h⟩ := h
  refine E_sld dL_law_438 g124 ?_
  refine E_aload_n 0 dL_law_439 rfl rfl ?_
  refine E_iload_n 3 dL_law_440 rfl rfl ?_
  refine E_iconst (3 : Int32) dL_law_441 (by decide) ?_
  refine E_iadd dL_law_442 ?_
  obtain ⟨g125, h⟩ := h
  refine E_sld dL_law_443 g125 ?_
  obtain ⟨d126, v131, σ127, hD128, hC129, h⟩ := h
  have hs130 := hC129.1.2.2.2.1 hs121
  refine E_callV (As := [.int (X.2 (x3 + (1 : Int32)).toNatClampNeg), .int (X.2 (x3 + (2 : Int32)).toNatClampNeg), .int (X.2 (x3 + (3 : Int32)).toNatClampNeg)]) (rest := [.int v122]) (r1 := (some (.int v131))) (b := 124) dL_law_444 ok_X12_counts in_X12_counts se_X12_counts ml_L_42 hD128 rfl rfl (Nat.le_of_ble_eq_true rfl) (sk_124 hs121) (sn hs121 (by decide)) (by decide) rfl (by decide +kernel) hC129 ?_
  refine E_icmp_eq 2038 dL_law_447 (by decide) (fun c => ?_) (fun c => ?_)
  · rw [if_pos c] at h
    exact E_lv [0, 1, 2, 3] rfl (w_L_law_2038 hs130 h)
  · rw [if_neg c] at h
    refine E_iconst (0 : Int32) dL_law_450 (by decide) ?_
    obtain ⟨rfl, rfl⟩ := h
    exact E_zret dL_law_451 rfl (Or.inl rfl)
def W_L_law_452 (X : Sx) (l : Launch) (D : Nat) (x3 : Int32) (σ : AH) (r : Option Value) (σ' : AH) : Prop := vp_in (x3 + (1 : Int32)) X.1 ∧ vp_in (x3 + (2 : Int32)) X.1 ∧ vp_in (x3 + (3 : Int32)) X.1 ∧ vp_in (x3 + (4 : Int32)) X.1 ∧ vp_in (x3 + (5 : Int32)) X.1 ∧ vp_in (x3 + (6 : Int32)) X.1 ∧ ∃ d138 : Nat, ∃ v143 : Int32, ∃ σ139 : AH, d138 + 1 ≤ D ∧ Call X l m_X11_need d138 [.ref 0, .int (X.2 (x3 + (1 : Int32)).toNatClampNeg), .int (X.2 (x3 + (2 : Int32)).toNatClampNeg), .int (X.2 (x3 + (3 : Int32)).toNatClampNeg), .int (X.2 (x3 + (4 : Int32)).toNatClampNeg), .int (X.2 (x3 + (5 : Int32)).toNatClampNeg), .int (X.2 (x3 + (6 : Int32)).toNatClampNeg)] σ (some (.int v143)) σ139 ∧ vp_in (x3 + (1 : Int32)) X.1 ∧ vp_in (x3 + (2 : Int32)) X.1 ∧ vp_in (x3 + (3 : Int32)) X.1 ∧ vp_in (x3 + (4 : Int32)) X.1 ∧ vp_in (x3 + (5 : Int32)) X.1 ∧ vp_in (x3 + (6 : Int32)) X.1 ∧ ∃ d150 : Nat, ∃ v155 : Int32, ∃ σ151 : AH, d150 + 1 ≤ D ∧ Call X l m_X12_need d150 [.ref 124, .int (X.2 (x3 + (1 : Int32)).toNatClampNeg), .int (X.2 (x3 + (2 : Int32)).toNatClampNeg), .int (X.2 (x3 + (3 : Int32)).toNatClampNeg), .int (X.2 (x3 + (4 : Int32)).toNatClampNeg), .int (X.2 (x3 + (5 : Int32)).toNatClampNeg), .int (X.2 (x3 + (6 : Int32)).toNatClampNeg)] σ139 (some (.int v155)) σ151 ∧ (if v143 = v155 then W_L_law_2038 X l D x3 σ151 r σ' else (r = some (.int (0 : Int32)) ∧ σ' = σ151))
set_option maxRecDepth 100000 in
theorem w_L_law_452 {X : Sx} {l : Launch} {D : Nat} {x3 : Int32} {σ : AH} {r : Option Value} {σ' : AH} (hs : Sh σ) (h : W_L_law_452 X l D x3 σ r σ') : E X l m_LW D 452 [(0, .ref 1000000), (1, .ref 0), (2, .ref 124), (3, .int x3)] [] σ r σ' := by
  unfold W_L_law_452 at h
  refine E_aload_n 1 dL_law_452 rfl rfl ?_
  refine E_aload_n 0 dL_law_453 rfl rfl ?_
  refine E_iload_n 3 dL_law_454 rfl rfl ?_
  refine E_iconst (1 : Int32) dL_law_455 (by decide) ?_
  refine E_iadd dL_law_456 ?_
  obtain ⟨g132, h⟩ := h
  refine E_sld dL_law_457 g132 ?_
  refine E_aload_n 0 dL_law_458 rfl rfl ?_
  refine E_iload_n 3 dL_law_459 rfl rfl ?_
  refine E_iconst (2 : Int32) dL_law_460 (by decide) ?_
  refine E_iadd dL_law_461 ?_
  obtain ⟨g133, h⟩ := h
  refine E_sld dL_law_462 g133 ?_
  refine E_aload_n 0 dL_law_463 rfl rfl ?_
  refine E_iload_n 3 dL_law_464 rfl rfl ?_
  refine E_iconst (3 : Int32) dL_law_465 (by decide) ?_
  refine E_iadd dL_law_466 ?_
  obtain ⟨g134, h⟩ := h
  refine E_sld dL_law_467 g134 ?_
  refine E_aload_n 0 dL_law_468 rfl rfl ?_
  refine E_iload_n 3 dL_law_469 rfl rfl ?_
  refine E_iconst (4 : Int32) dL_law_470 (by decide) ?_
  refine E_iadd dL_law_471 ?_
  obtain ⟨g135, h⟩ := h
  refine E_sld dL_law_472 g135 ?_
  refine E_aload_n 0 dL_law_473 rfl rfl ?_
  refine E_iload_n 3 dL_law_474 rfl rfl ?_
  refine E_iconst (5 : Int32) dL_law_475 (by decide) ?_
  refine E_iadd dL_law_476 ?_
  obtain ⟨g136, h⟩ := h
  refine E_sld dL_law_477 g136 ?_
  refine E_aload_n 0 dL_law_478 rfl rfl ?_
  refine E_iload_n 3 dL_law_479 rfl rfl ?_
  refine E_bipush (6 : Int32) dL_law_480 (by decide) ?_
  refine E_iadd dL_law_482 ?_
  obtain ⟨g137, h⟩ := h
  refine E_sld dL_law_483 g137 ?_
  obtain ⟨d138, v143, σ139, hD140, hC141, h⟩ := h
  have hs142 := hC141.1.2.2.2.1 hs
  refine E_callV (As := [.int (X.2 (x3 + (1 : Int32)).toNatClampNeg), .int (X.2 (x3 + (2 : Int32)).toNatClampNeg), .int (X.2 (x3 + (3 : Int32)).toNatClampNeg), .int (X.2 (x3 + (4 : Int32)).toNatClampNeg), .int (X.2 (x3 + (5 : Int32)).toNatClampNeg), .int (X.2 (x3 + (6 : Int32)).toNatClampNeg)]) (rest := []) (r1 := (some (.int v143))) (b := 0) dL_law_484 ok_X11_need in_X11_need se_X11_need ml_L_43 hD140 rfl rfl (Nat.le_of_ble_eq_true rfl) (sk_0 hs) (sn hs (by decide)) (by decide) rfl (by decide +kernel) hC141 ?_
  refine E_aload_n 2 dL_law_487 rfl rfl ?_
  refine E_aload_n 0 dL_law_488 rfl rfl ?_
  refine E_iload_n 3 dL_law_489 rfl rfl ?_
  refine E_iconst (1 : Int32) dL_law_490 (by decide) ?_
  refine E_iadd dL_law_491 ?_
  obtain ⟨g144, h⟩ := h
  refine E_sld dL_law_492 g144 ?_
  refine E_aload_n 0 dL_law_493 rfl rfl ?_
  refine E_iload_n 3 dL_law_494 rfl rfl ?_
  refine E_iconst (2 : Int32) dL_law_495 (by decide) ?_
  refine E_iadd dL_law_496 ?_
  obtain ⟨g145, h⟩ := h
  refine E_sld dL_law_497 g145 ?_
  refine E_aload_n 0 dL_law_498 rfl rfl ?_
  refine E_iload_n 3 dL_law_499 rfl rfl ?_
  refine E_iconst (3 : Int32) dL_law_500 (by decide) ?_
  refine E_iadd dL_law_501 ?_
  obtain ⟨g146, h⟩ := h
  refine E_sld dL_law_502 g146 ?_
  refine E_aload_n 0 dL_law_503 rfl rfl ?_
  refine E_iload_n 3 dL_law_504 rfl rfl ?_
  refine E_iconst (4 : Int32) dL_law_505 (by decide) ?_
  refine E_iadd dL_law_506 ?_
  obtain ⟨g147, h⟩ := h
  refine E_sld dL_law_507 g147 ?_
  refine E_aload_n 0 dL_law_508 rfl rfl ?_
  refine E_iload_n 3 dL_law_509 rfl rfl ?_
  refine E_iconst (5 : Int32) dL_law_510 (by decide) ?_
  refine E_iadd dL_law_511 ?_
  obtain ⟨g148, h⟩ := h
  refine E_sld dL_law_512 g148 ?_
  refine E_aload_n 0 dL_law_513 rfl rfl ?_
  refine E_iload_n 3 dL_law_514 rfl rfl ?_
  refine E_bipush (6 : Int32) dL_law_515 (by decide) ?_
  refine E_iadd dL_law_517 ?_
  obtain ⟨g149, h⟩ := h
  refine E_sld dL_law_518 g149 ?_
  obtain ⟨d150, v155, σ151, hD152, hC153, h⟩ := h
  have hs154 := hC153.1.2.2.2.1 hs142
  refine E_callV (As := [.int (X.2 (x3 + (1 : Int32)).toNatClampNeg), .int (X.2 (x3 + (2 : Int32)).toNatClampNeg), .int (X.2 (x3 + (3 : Int32)).toNatClampNeg), .int (X.2 (x3 + (4 : Int32)).toNatClampNeg), .int (X.2 (x3 + (5 : Int32)).toNatClampNeg), .int (X.2 (x3 + (6 : Int32)).toNatClampNeg)]) (rest := [.int v143]) (r1 := (some (.int v155))) (b := 124) dL_law_519 ok_X12_need in_X12_need se_X12_need ml_L_47 hD152 rfl rfl (Nat.le_of_ble_eq_true rfl) (sk_124 hs142) (sn hs142 (by decide)) (by decide) rfl (by decide +kernel) hC153 ?_
  refine E_icmp_eq 2038 dL_law_522 (by decide) (fun c => ?_) (fun c => ?_)
  · rw [if_pos c] at h
    exact E_lv [0, 1, 2, 3] rfl (w_L_law_2038 hs154 h)
  · rw [if_neg c] at h
    refine E_iconst (0 : Int32) dL_law_525 (by decide) ?_
    obtain ⟨rfl, rfl⟩ := h
    exact E_zret dL_law_526 rfl (Or.inl rfl)
def W_L_law_527 (X : Sx) (l : Launch) (D : Nat) (x3 : Int32) (σ : AH) (r : Option Value) (σ' : AH) : Prop := vp_in (x3 + (1 : Int32)) X.1 ∧ vp_in (x3 + (2 : Int32)) X.1 ∧ vp_in (x3 + (3 : Int32)) X.1 ∧ vp_in (x3 + (4 : Int32)) X.1 ∧ ∃ d160 : Nat, ∃ v165 : Int32, ∃ σ161 : AH, d160 + 1 ≤ D ∧ Call X l m_X11_deliver d160 [.ref 0, .int (X.2 (x3 + (1 : Int32)).toNatClampNeg), .int (X.2 (x3 + (2 : Int32)).toNatClampNeg), .int (X.2 (x3 + (3 : Int32)).toNatClampNeg), .int (X.2 (x3 + (4 : Int32)).toNatClampNeg)] σ (some (.int v165)) σ161 ∧ vp_in (x3 + (1 : Int32)) X.1 ∧ vp_in (x3 + (2 : Int32)) X.1 ∧ vp_in (x3 + (3 : Int32)) X.1 ∧ vp_in (x3 + (4 : Int32)) X.1 ∧ ∃ d170 : Nat, ∃ v175 : Int32, ∃ σ171 : AH, d170 + 1 ≤ D ∧ Call X l m_X12_deliver d170 [.ref 124, .int (X.2 (x3 + (1 : Int32)).toNatClampNeg), .int (X.2 (x3 + (2 : Int32)).toNatClampNeg), .int (X.2 (x3 + (3 : Int32)).toNatClampNeg), .int (X.2 (x3 + (4 : Int32)).toNatClampNeg)] σ161 (some (.int v175)) σ171 ∧ (if v165 = v175 then W_L_law_2038 X l D x3 σ171 r σ' else (r = some (.int (0 : Int32)) ∧ σ' = σ171))
set_option maxRecDepth 100000 in
theorem w_L_law_527 {X : Sx} {l : Launch} {D : Nat} {x3 : Int32} {σ : AH} {r : Option Value} {σ' : AH} (hs : Sh σ) (h : W_L_law_527 X l D x3 σ r σ') : E X l m_LW D 527 [(0, .ref 1000000), (1, .ref 0), (2, .ref 124), (3, .int x3)] [] σ r σ' := by
  unfold W_L_law_527 at h
  refine E_aload_n 1 dL_law_527 rfl rfl ?_
  refine E_aload_n 0 dL_law_528 rfl rfl ?_
  refine E_iload_n 3 dL_law_529 rfl rfl ?_
  refine E_iconst (1 : Int32) dL_law_530 (by decide) ?_
  refine E_iadd dL_law_531 ?_
  obtain ⟨g156, h⟩ := h
  refine E_sld dL_law_532 g156 ?_
  refine E_aload_n 0 dL_law_533 rfl rfl ?_
  refine E_iload_n 3 dL_law_534 rfl rfl ?_
  refine E_iconst (2 : Int32) dL_law_535 (by decide) ?_
  refine E_iadd dL_law_536 ?_
  obtain ⟨g157, h⟩ := h
  refine E_sld dL_law_537 g157 ?_
  refine E_aload_n 0 dL_law_538 rfl rfl ?_
  refine E_iload_n 3 dL_law_539 rfl rfl ?_
  refine E_iconst (3 : Int32) dL_law_540 (by decide) ?_
  refine E_iadd dL_law_541 ?_
  obtain ⟨g158, h⟩ := h
  refine E_sld dL_law_542 g158 ?_
  refine E_aload_n 0 dL_law_543 rfl rfl ?_
  refine E_iload_n 3 dL_law_544 rfl rfl ?_
  refine E_iconst (4 : Int32) dL_law_545 (by decide) ?_
  refine E_iadd dL_law_546 ?_
  obtain ⟨g159, h⟩ := h
  refine E_sld dL_law_547 g159 ?_
  obtain ⟨d160, v165, σ161, hD162, hC163, h⟩ := h
  have hs164 := hC163.1.2.2.2.1 hs
  refine E_callV (As := [.int (X.2 (x3 + (1 : Int32)).toNatClampNeg), .int (X.2 (x3 + (2 : Int32)).toNatClampNeg), .int (X.2 (x3 + (3 : Int32)).toNatClampNeg), .int (X.2 (x3 + (4 : Int32)).toNatClampNeg)]) (rest := []) (r1 := (some (.int v165))) (b := 0) dL_law_548 ok_X11_deliver in_X11_deliver se_X11_deliver ml_L_48 hD162 rfl rfl (Nat.le_of_ble_eq_true rfl) (sk_0 hs) (sn hs (by decide)) (by decide) rfl (by decide +kernel) hC163 ?_
  refine E_aload_n 2 dL_law_551 rfl rfl ?_
  refine E_aload_n 0 dL_law_552 rfl rfl ?_
  refine E_iload_n 3 dL_law_553 rfl rfl ?_
  refine E_iconst (1 : Int32) dL_law_554 (by decide) ?_
  refine E_iadd dL_law_555 ?_
  obtain ⟨g166, h⟩ := h
  refine E_sld dL_law_556 g166 ?_
  refine E_aload_n 0 dL_law_557 rfl rfl ?_
  refine E_iload_n 3 dL_law_558 rfl rfl ?_
  refine E_iconst (2 : Int32) dL_law_559 (by decide) ?_
  refine E_iadd dL_law_560 ?_
  obtain ⟨g167, h⟩ := h
  refine E_sld dL_law_561 g167 ?_
  refine E_aload_n 0 dL_law_562 rfl rfl ?_
  refine E_iload_n 3 dL_law_563 rfl rfl ?_
  refine E_iconst (3 : Int32) dL_law_564 (by decide) ?_
  refine E_iadd dL_law_565 ?_
  obtain ⟨g168, h⟩ := h
  refine E_sld dL_law_566 g168 ?_
  refine E_aload_n 0 dL_law_567 rfl rfl ?_
  refine E_iload_n 3 dL_law_568 rfl rfl ?_
  refine E_iconst (4 : Int32) dL_law_569 (by decide) ?_
  refine E_iadd dL_law_570 ?_
  obtain ⟨g169, h⟩ := h
  refine E_sld dL_law_571 g169 ?_
  obtain ⟨d170, v175, σ171, hD172, hC173, h⟩ := h
  have hs174 := hC173.1.2.2.2.1 hs164
  refine E_callV (As := [.int (X.2 (x3 + (1 : Int32)).toNatClampNeg), .int (X.2 (x3 + (2 : Int32)).toNatClampNeg), .int (X.2 (x3 + (3 : Int32)).toNatClampNeg), .int (X.2 (x3 + (4 : Int32)).toNatClampNeg)]) (rest := [.int v165]) (r1 := (some (.int v175))) (b := 124) dL_law_572 ok_X12_deliver in_X12_deliver se_X12_deliver ml_L_51 hD172 rfl rfl (Nat.le_of_ble_eq_true rfl) (sk_124 hs164) (sn hs164 (by decide)) (by decide) rfl (by decide +kernel) hC173 ?_
  refine E_icmp_eq 2038 dL_law_575 (by decide) (fun c => ?_) (fun c => ?_)
  · rw [if_pos c] at h
    exact E_lv [0, 1, 2, 3] rfl (w_L_law_2038 hs174 h)
  · rw [if_neg c] at h
    refine E_iconst (0 : Int32) dL_law_578 (by decide) ?_
    obtain ⟨rfl, rfl⟩ := h
    exact E_zret dL_law_579 rfl (Or.inl rfl)
def W_L_law_580 (X : Sx) (l : Launch) (D : Nat) (x3 : Int32) (σ : AH) (r : Option Value) (σ' : AH) : Prop := vp_in (x3 + (1 : Int32)) X.1 ∧ vp_in (x3 + (2 : Int32)) X.1 ∧ vp_in (x3 + (3 : Int32)) X.1 ∧ vp_in (x3 + (4 : Int32)) X.1 ∧ vp_in (x3 + (5 : Int32)) X.1 ∧ vp_in (x3 + (6 : Int32)) X.1 ∧ vp_in (x3 + (7 : Int32)) X.1 ∧ vp_in (x3 + (8 : Int32)) X.1 ∧ ∃ d184 : Nat, ∃ v189 : Int32, ∃ σ185 : AH, d184 + 1 ≤ D ∧ Call X l m_X11_works d184 [.ref 0, .int (X.2 (x3 + (1 : Int32)).toNatClampNeg), .int (X.2 (x3 + (2 : Int32)).toNatClampNeg), .int (X.2 (x3 + (3 : Int32)).toNatClampNeg), .int (X.2 (x3 + (4 : Int32)).toNatClampNeg), .int (X.2 (x3 + (5 : Int32)).toNatClampNeg), .int (X.2 (x3 + (6 : Int32)).toNatClampNeg), .int (X.2 (x3 + (7 : Int32)).toNatClampNeg), .int (X.2 (x3 + (8 : Int32)).toNatClampNeg)] σ (some (.int v189)) σ185 ∧ vp_in (x3 + (1 : Int32)) X.1 ∧ vp_in (x3 + (2 : Int32)) X.1 ∧ vp_in (x3 + (3 : Int32)) X.1 ∧ vp_in (x3 + (4 : Int32)) X.1 ∧ vp_in (x3 + (5 : Int32)) X.1 ∧ vp_in (x3 + (6 : Int32)) X.1 ∧ vp_in (x3 + (7 : Int32)) X.1 ∧ vp_in (x3 + (8 : Int32)) X.1 ∧ ∃ d198 : Nat, ∃ v203 : Int32, ∃ σ199 : AH, d198 + 1 ≤ D ∧ Call X l m_X12_works d198 [.ref 124, .int (X.2 (x3 + (1 : Int32)).toNatClampNeg), .int (X.2 (x3 + (2 : Int32)).toNatClampNeg), .int (X.2 (x3 + (3 : Int32)).toNatClampNeg), .int (X.2 (x3 + (4 : Int32)).toNatClampNeg), .int (X.2 (x3 + (5 : Int32)).toNatClampNeg), .int (X.2 (x3 + (6 : Int32)).toNatClampNeg), .int (X.2 (x3 + (7 : Int32)).toNatClampNeg), .int (X.2 (x3 + (8 : Int32)).toNatClampNeg)] σ185 (some (.int v203)) σ199 ∧ (if v189 = v203 then W_L_law_2038 X l D x3 σ199 r σ' else (r = some (.int (0 : Int32)) ∧ σ' = σ199))
set_option maxRecDepth 100000 in
theorem w_L_law_580 {X : Sx} {l : Launch} {D : Nat} {x3 : Int32} {σ : AH} {r : Option Value} {σ' : AH} (hs : Sh σ) (h : W_L_law_580 X l D x3 σ r σ') : E X l m_LW D 580 [(0, .ref 1000000), (1, .ref 0), (2, .ref 124), (3, .int x3)] [] σ r σ' := by
  unfold W_L_law_580 at h
  refine E_aload_n 1 dL_law_580 rfl rfl ?_
  refine E_aload_n 0 dL_law_581 rfl rfl ?_
  refine E_iload_n 3 dL_law_582 rfl rfl ?_
  refine E_iconst (1 : Int32) dL_law_583 (by decide) ?_
  refine E_iadd dL_law_584 ?_
  obtain ⟨g176, h⟩ := h
  refine E_sld dL_law_585 g176 ?_
  refine E_aload_n 0 dL_law_586 rfl rfl ?_
  refine E_iload_n 3 dL_law_587 rfl rfl ?_
  refine E_iconst (2 : Int32) dL_law_588 (by decide) ?_
  refine E_iadd dL_law_589 ?_
  obtain ⟨g177, h⟩ := h
  refine E_sld dL_law_590 g177 ?_
  refine E_aload_n 0 dL_law_591 rfl rfl ?_
  refine E_iload_n 3 dL_law_592 rfl rfl ?_
  refine E_iconst (3 : Int32) dL_law_593 (by decide) ?_
  refine E_iadd dL_law_594 ?_
  obtain ⟨g178, h⟩ := h
  refine E_sld dL_law_595 g178 ?_
  refine E_aload_n 0 dL_law_596 rfl rfl ?_
  refine E_iload_n 3 dL_law_597 rfl rfl ?_
  refine E_iconst (4 : Int32) dL_law_598 (by decide) ?_
  refine E_iadd dL_law_599 ?_
  obtain ⟨g179, h⟩ := h
  refine E_sld dL_law_600 g179 ?_
  refine E_aload_n 0 dL_law_601 rfl rfl ?_
  refine E_iload_n 3 dL_law_602 rfl rfl ?_
  refine E_iconst (5 : Int32) dL_law_603 (by decide) ?_
  refine E_iadd dL_law_604 ?_
  obtain ⟨g180, h⟩ := h
  refine E_sld dL_law_605 g180 ?_
  refine E_aload_n 0 dL_law_606 rfl rfl ?_
  refine E_iload_n 3 dL_law_607 rfl rfl ?_
  refine E_bipush (6 : Int32) dL_law_608 (by decide) ?_
  refine E_iadd dL_law_610 ?_
  obtain ⟨g181, h⟩ := h
  refine E_sld dL_law_611 g181 ?_
  refine E_aload_n 0 dL_law_612 rfl rfl ?_
  refine E_iload_n 3 dL_law_613 rfl rfl ?_
  refine E_bipush (7 : Int32) dL_law_614 (by decide) ?_
  refine E_iadd dL_law_616 ?_
  obtain ⟨g182, h⟩ := h
  refine E_sld dL_law_617 g182 ?_
  refine E_aload_n 0 dL_law_618 rfl rfl ?_
  refine E_iload_n 3 dL_law_619 rfl rfl ?_
  refine E_bipush (8 : Int32) dL_law_620 (by decide) ?_
  refine E_iadd dL_law_622 ?_
  obtain ⟨g183, h⟩ := h
  refine E_sld dL_law_623 g183 ?_
  obtain ⟨d184, v189, σ185, hD186, hC187, h⟩ := h
  have hs188 := hC187.1.2.2.2.1 hs
  refine E_callV (As := [.int (X.2 (x3 + (1 : Int32)).toNatClampNeg), .int (X.2 (x3 + (2 : Int32)).toNatClampNeg), .int (X.2 (x3 + (3 : Int32)).toNatClampNeg), .int (X.2 (x3 + (4 : Int32)).toNatClampNeg), .int (X.2 (x3 + (5 : Int32)).toNatClampNeg), .int (X.2 (x3 + (6 : Int32)).toNatClampNeg), .int (X.2 (x3 + (7 : Int32)).toNatClampNeg), .int (X.2 (x3 + (8 : Int32)).toNatClampNeg)]) (rest := []) (r1 := (some (.int v189))) (b := 0) dL_law_624 ok_X11_works in_X11_works se_X11_works ml_L_52 hD186 rfl rfl (Nat.le_of_ble_eq_true rfl) (sk_0 hs) (sn hs (by decide)) (by decide) rfl (by decide +kernel) hC187 ?_
  refine E_aload_n 2 dL_law_627 rfl rfl ?_
  refine E_aload_n 0 dL_law_628 rfl rfl ?_
  refine E_iload_n 3 dL_law_629 rfl rfl ?_
  refine E_iconst (1 : Int32) dL_law_630 (by decide) ?_
  refine E_iadd dL_law_631 ?_
  obtain ⟨g190, h⟩ := h
  refine E_sld dL_law_632 g190 ?_
  refine E_aload_n 0 dL_law_633 rfl rfl ?_
  refine E_iload_n 3 dL_law_634 rfl rfl ?_
  refine E_iconst (2 : Int32) dL_law_635 (by decide) ?_
  refine E_iadd dL_law_636 ?_
  obtain ⟨g191, h⟩ := h
  refine E_sld dL_law_637 g191 ?_
  refine E_aload_n 0 dL_law_638 rfl rfl ?_
  refine E_iload_n 3 dL_law_639 rfl rfl ?_
  refine E_iconst (3 : Int32) dL_law_640 (by decide) ?_
  refine E_iadd dL_law_641 ?_
  obtain ⟨g192, h⟩ := h
  refine E_sld dL_law_642 g192 ?_
  refine E_aload_n 0 dL_law_643 rfl rfl ?_
  refine E_iload_n 3 dL_law_644 rfl rfl ?_
  refine E_iconst (4 : Int32) dL_law_645 (by decide) ?_
  refine E_iadd dL_law_646 ?_
  obtain ⟨g193, h⟩ := h
  refine E_sld dL_law_647 g193 ?_
  refine E_aload_n 0 dL_law_648 rfl rfl ?_
  refine E_iload_n 3 dL_law_649 rfl rfl ?_
  refine E_iconst (5 : Int32) dL_law_650 (by decide) ?_
  refine E_iadd dL_law_651 ?_
  obtain ⟨g194, h⟩ := h
  refine E_sld dL_law_652 g194 ?_
  refine E_aload_n 0 dL_law_653 rfl rfl ?_
  refine E_iload_n 3 dL_law_654 rfl rfl ?_
  refine E_bipush (6 : Int32) dL_law_655 (by decide) ?_
  refine E_iadd dL_law_657 ?_
  obtain ⟨g195, h⟩ := h
  refine E_sld dL_law_658 g195 ?_
  refine E_aload_n 0 dL_law_659 rfl rfl ?_
  refine E_iload_n 3 dL_law_660 rfl rfl ?_
  refine E_bipush (7 : Int32) dL_law_661 (by decide) ?_
  refine E_iadd dL_law_663 ?_
  obtain ⟨g196, h⟩ := h
  refine E_sld dL_law_664 g196 ?_
  refine E_aload_n 0 dL_law_665 rfl rfl ?_
  refine E_iload_n 3 dL_law_666 rfl rfl ?_
  refine E_bipush (8 : Int32) dL_law_667 (by decide) ?_
  refine E_iadd dL_law_669 ?_
  obtain ⟨g197, h⟩ := h
  refine E_sld dL_law_670 g197 ?_
  obtain ⟨d198, v203, σ199, hD200, hC201, h⟩ := h
  have hs202 := hC201.1.2.2.2.1 hs188
  refine E_callV (As := [.int (X.2 (x3 + (1 : Int32)).toNatClampNeg), .int (X.2 (x3 + (2 : Int32)).toNatClampNeg), .int (X.2 (x3 + (3 : Int32)).toNatClampNeg), .int (X.2 (x3 + (4 : Int32)).toNatClampNeg), .int (X.2 (x3 + (5 : Int32)).toNatClampNeg), .int (X.2 (x3 + (6 : Int32)).toNatClampNeg), .int (X.2 (x3 + (7 : Int32)).toNatClampNeg), .int (X.2 (x3 + (8 : Int32)).toNatClampNeg)]) (rest := [.int v189]) (r1 := (some (.int v203))) (b := 124) dL_law_671 ok_X12_works in_X12_works se_X12_works ml_L_56 hD200 rfl rfl (Nat.le_of_ble_eq_true rfl) (sk_124 hs188) (sn hs188 (by decide)) (by decide) rfl (by decide +kernel) hC201 ?_
  refine E_icmp_eq 2038 dL_law_674 (by decide) (fun c => ?_) (fun c => ?_)
  · rw [if_pos c] at h
    exact E_lv [0, 1, 2, 3] rfl (w_L_law_2038 hs202 h)
  · rw [if_neg c] at h
    refine E_iconst (0 : Int32) dL_law_677 (by decide) ?_
    obtain ⟨rfl, rfl⟩ := h
    exact E_zret dL_law_678 rfl (Or.inl rfl)
def W_L_law_679 (X : Sx) (l : Launch) (D : Nat) (x3 : Int32) (σ : AH) (r : Option Value) (σ' : AH) : Prop := vp_in (x3 + (1 : Int32)) X.1 ∧ vp_in (x3 + (2 : Int32)) X.1 ∧ vp_in (x3 + (3 : Int32)) X.1 ∧ vp_in (x3 + (4 : Int32)) X.1 ∧ ∃ d208 : Nat, ∃ v213 : Int32, ∃ σ209 : AH, d208 + 1 ≤ D ∧ Call X l m_X11_gangs d208 [.ref 0, .int (X.2 (x3 + (1 : Int32)).toNatClampNeg), .int (X.2 (x3 + (2 : Int32)).toNatClampNeg), .int (X.2 (x3 + (3 : Int32)).toNatClampNeg), .int (X.2 (x3 + (4 : Int32)).toNatClampNeg)] σ (some (.int v213)) σ209 ∧ vp_in (x3 + (1 : Int32)) X.1 ∧ vp_in (x3 + (2 : Int32)) X.1 ∧ vp_in (x3 + (3 : Int32)) X.1 ∧ vp_in (x3 + (4 : Int32)) X.1 ∧ ∃ d218 : Nat, ∃ v223 : Int32, ∃ σ219 : AH, d218 + 1 ≤ D ∧ Call X l m_X12_gangs d218 [.ref 124, .int (X.2 (x3 + (1 : Int32)).toNatClampNeg), .int (X.2 (x3 + (2 : Int32)).toNatClampNeg), .int (X.2 (x3 + (3 : Int32)).toNatClampNeg), .int (X.2 (x3 + (4 : Int32)).toNatClampNeg)] σ209 (some (.int v223)) σ219 ∧ (if v213 = v223 then W_L_law_2038 X l D x3 σ219 r σ' else (r = some (.int (0 : Int32)) ∧ σ' = σ219))
set_option maxRecDepth 100000 in
theorem w_L_law_679 {X : Sx} {l : Launch} {D : Nat} {x3 : Int32} {σ : AH} {r : Option Value} {σ' : AH} (hs : Sh σ) (h : W_L_law_679 X l D x3 σ r σ') : E X l m_LW D 679 [(0, .ref 1000000), (1, .ref 0), (2, .ref 124), (3, .int x3)] [] σ r σ' := by
  unfold W_L_law_679 at h
  refine E_aload_n 1 dL_law_679 rfl rfl ?_
  refine E_aload_n 0 dL_law_680 rfl rfl ?_
  refine E_iload_n 3 dL_law_681 rfl rfl ?_
  refine E_iconst (1 : Int32) dL_law_682 (by decide) ?_
  refine E_iadd dL_law_683 ?_
  obtain ⟨g204, h⟩ := h
  refine E_sld dL_law_684 g204 ?_
  refine E_aload_n 0 dL_law_685 rfl rfl ?_
  refine E_iload_n 3 dL_law_686 rfl rfl ?_
  refine E_iconst (2 : Int32) dL_law_687 (by decide) ?_
  refine E_iadd dL_law_688 ?_
  obtain ⟨g205, h⟩ := h
  refine E_sld dL_law_689 g205 ?_
  refine E_aload_n 0 dL_law_690 rfl rfl ?_
  refine E_iload_n 3 dL_law_691 rfl rfl ?_
  refine E_iconst (3 : Int32) dL_law_692 (by decide) ?_
  refine E_iadd dL_law_693 ?_
  obtain ⟨g206, h⟩ := h
  refine E_sld dL_law_694 g206 ?_
  refine E_aload_n 0 dL_law_695 rfl rfl ?_
  refine E_iload_n 3 dL_law_696 rfl rfl ?_
  refine E_iconst (4 : Int32) dL_law_697 (by decide) ?_
  refine E_iadd dL_law_698 ?_
  obtain ⟨g207, h⟩ := h
  refine E_sld dL_law_699 g207 ?_
  obtain ⟨d208, v213, σ209, hD210, hC211, h⟩ := h
  have hs212 := hC211.1.2.2.2.1 hs
  refine E_callV (As := [.int (X.2 (x3 + (1 : Int32)).toNatClampNeg), .int (X.2 (x3 + (2 : Int32)).toNatClampNeg), .int (X.2 (x3 + (3 : Int32)).toNatClampNeg), .int (X.2 (x3 + (4 : Int32)).toNatClampNeg)]) (rest := []) (r1 := (some (.int v213))) (b := 0) dL_law_700 ok_X11_gangs in_X11_gangs se_X11_gangs ml_L_57 hD210 rfl rfl (Nat.le_of_ble_eq_true rfl) (sk_0 hs) (sn hs (by decide)) (by decide) rfl (by decide +kernel) hC211 ?_
  refine E_aload_n 2 dL_law_703 rfl rfl ?_
  refine E_aload_n 0 dL_law_704 rfl rfl ?_
  refine E_iload_n 3 dL_law_705 rfl rfl ?_
  refine E_iconst (1 : Int32) dL_law_706 (by decide) ?_
  refine E_iadd dL_law_707 ?_
  obtain ⟨g214, h⟩ := h
  refine E_sld dL_law_708 g214 ?_
  refine E_aload_n 0 dL_law_709 rfl rfl ?_
  refine E_iload_n 3 dL_law_710 rfl rfl ?_
  refine E_iconst (2 : Int32) dL_law_711 (by decide) ?_
  refine E_iadd dL_law_712 ?_
  obtain ⟨g215, h⟩ := h
  refine E_sld dL_law_713 g215 ?_
  refine E_aload_n 0 dL_law_714 rfl rfl ?_
  refine E_iload_n 3 dL_law_715 rfl rfl ?_
  refine E_iconst (3 : Int32) dL_law_716 (by decide) ?_
  refine E_iadd dL_law_717 ?_
  obtain ⟨g216, h⟩ := h
  refine E_sld dL_law_718 g216 ?_
  refine E_aload_n 0 dL_law_719 rfl rfl ?_
  refine E_iload_n 3 dL_law_720 rfl rfl ?_
  refine E_iconst (4 : Int32) dL_law_721 (by decide) ?_
  refine E_iadd dL_law_722 ?_
  obtain ⟨g217, h⟩ := h
  refine E_sld dL_law_723 g217 ?_
  obtain ⟨d218, v223, σ219, hD220, hC221, h⟩ := h
  have hs222 := hC221.1.2.2.2.1 hs212
  refine E_callV (As := [.int (X.2 (x3 + (1 : Int32)).toNatClampNeg), .int (X.2 (x3 + (2 : Int32)).toNatClampNeg), .int (X.2 (x3 + (3 : Int32)).toNatClampNeg), .int (X.2 (x3 + (4 : Int32)).toNatClampNeg)]) (rest := [.int v213]) (r1 := (some (.int v223))) (b := 124) dL_law_724 ok_X12_gangs in_X12_gangs se_X12_gangs ml_L_60 hD220 rfl rfl (Nat.le_of_ble_eq_true rfl) (sk_124 hs212) (sn hs212 (by decide)) (by decide) rfl (by decide +kernel) hC221 ?_
  refine E_icmp_eq 2038 dL_law_727 (by decide) (fun c => ?_) (fun c => ?_)
  · rw [if_pos c] at h
    exact E_lv [0, 1, 2, 3] rfl (w_L_law_2038 hs222 h)
  · rw [if_neg c] at h
    refine E_iconst (0 : Int32) dL_law_730 (by decide) ?_
    obtain ⟨rfl, rfl⟩ := h
    exact E_zret dL_law_731 rfl (Or.inl rfl)
def W_L_law_732 (X : Sx) (l : Launch) (D : Nat) (x3 : Int32) (σ : AH) (r : Option Value) (σ' : AH) : Prop := vp_in (x3 + (1 : Int32)) X.1 ∧ vp_in (x3 + (2 : Int32)) X.1 ∧ vp_in (x3 + (3 : Int32)) X.1 ∧ vp_in (x3 + (4 : Int32)) X.1 ∧ ∃ d228 : Nat, ∃ v233 : Int32, ∃ σ229 : AH, d228 + 1 ≤ D ∧ Call X l m_X11_plot d228 [.ref 0, .int (X.2 (x3 + (1 : Int32)).toNatClampNeg), .int (X.2 (x3 + (2 : Int32)).toNatClampNeg), .int (X.2 (x3 + (3 : Int32)).toNatClampNeg), .int (X.2 (x3 + (4 : Int32)).toNatClampNeg)] σ (some (.int v233)) σ229 ∧ vp_in (x3 + (1 : Int32)) X.1 ∧ vp_in (x3 + (2 : Int32)) X.1 ∧ vp_in (x3 + (3 : Int32)) X.1 ∧ vp_in (x3 + (4 : Int32)) X.1 ∧ ∃ d238 : Nat, ∃ v243 : Int32, ∃ σ239 : AH, d238 + 1 ≤ D ∧ Call X l m_X12_plot d238 [.ref 124, .int (X.2 (x3 + (1 : Int32)).toNatClampNeg), .int (X.2 (x3 + (2 : Int32)).toNatClampNeg), .int (X.2 (x3 + (3 : Int32)).toNatClampNeg), .int (X.2 (x3 + (4 : Int32)).toNatClampNeg)] σ229 (some (.int v243)) σ239 ∧ (if v233 = v243 then W_L_law_2038 X l D x3 σ239 r σ' else (r = some (.int (0 : Int32)) ∧ σ' = σ239))
set_option maxRecDepth 100000 in
theorem w_L_law_732 {X : Sx} {l : Launch} {D : Nat} {x3 : Int32} {σ : AH} {r : Option Value} {σ' : AH} (hs : Sh σ) (h : W_L_law_732 X l D x3 σ r σ') : E X l m_LW D 732 [(0, .ref 1000000), (1, .ref 0), (2, .ref 124), (3, .int x3)] [] σ r σ' := by
  unfold W_L_law_732 at h
  refine E_aload_n 1 dL_law_732 rfl rfl ?_
  refine E_aload_n 0 dL_law_733 rfl rfl ?_
  refine E_iload_n 3 dL_law_734 rfl rfl ?_
  refine E_iconst (1 : Int32) dL_law_735 (by decide) ?_
  refine E_iadd dL_law_736 ?_
  obtain ⟨g224, h⟩ := h
  refine E_sld dL_law_737 g224 ?_
  refine E_aload_n 0 dL_law_738 rfl rfl ?_
  refine E_iload_n 3 dL_law_739 rfl rfl ?_
  refine E_iconst (2 : Int32) dL_law_740 (by decide) ?_
  refine E_iadd dL_law_741 ?_
  obtain ⟨g225, h⟩ := h
  refine E_sld dL_law_742 g225 ?_
  refine E_aload_n 0 dL_law_743 rfl rfl ?_
  refine E_iload_n 3 dL_law_744 rfl rfl ?_
  refine E_iconst (3 : Int32) dL_law_745 (by decide) ?_
  refine E_iadd dL_law_746 ?_
  obtain ⟨g226, h⟩ := h
  refine E_sld dL_law_747 g226 ?_
  refine E_aload_n 0 dL_law_748 rfl rfl ?_
  refine E_iload_n 3 dL_law_749 rfl rfl ?_
  refine E_iconst (4 : Int32) dL_law_750 (by decide) ?_
  refine E_iadd dL_law_751 ?_
  obtain ⟨g227, h⟩ := h
  refine E_sld dL_law_752 g227 ?_
  obtain ⟨d228, v233, σ229, hD230, hC231, h⟩ := h
  have hs232 := hC231.1.2.2.2.1 hs
  refine E_callV (As := [.int (X.2 (x3 + (1 : Int32)).toNatClampNeg), .int (X.2 (x3 + (2 : Int32)).toNatClampNeg), .int (X.2 (x3 + (3 : Int32)).toNatClampNeg), .int (X.2 (x3 + (4 : Int32)).toNatClampNeg)]) (rest := []) (r1 := (some (.int v233))) (b := 0) dL_law_753 ok_X11_plot in_X11_plot se_X11_plot ml_L_61 hD230 rfl rfl (Nat.le_of_ble_eq_true rfl) (sk_0 hs) (sn hs (by decide)) (by decide) rfl (by decide +kernel) hC231 ?_
  refine E_aload_n 2 dL_law_756 rfl rfl ?_
  refine E_aload_n 0 dL_law_757 rfl rfl ?_
  refine E_iload_n 3 dL_law_758 rfl rfl ?_
  refine E_iconst (1 : Int32) dL_law_759 (by decide) ?_
  refine E_iadd dL_law_760 ?_
  obtain ⟨g234, h⟩ := h
  refine E_sld dL_law_761 g234 ?_
  refine E_aload_n 0 dL_law_762 rfl rfl ?_
  refine E_iload_n 3 dL_law_763 rfl rfl ?_
  refine E_iconst (2 : Int32) dL_law_764 (by decide) ?_
  refine E_iadd dL_law_765 ?_
  obtain ⟨g235, h⟩ := h
  refine E_sld dL_law_766 g235 ?_
  refine E_aload_n 0 dL_law_767 rfl rfl ?_
  refine E_iload_n 3 dL_law_768 rfl rfl ?_
  refine E_iconst (3 : Int32) dL_law_769 (by decide) ?_
  refine E_iadd dL_law_770 ?_
  obtain ⟨g236, h⟩ := h
  refine E_sld dL_law_771 g236 ?_
  refine E_aload_n 0 dL_law_772 rfl rfl ?_
  refine E_iload_n 3 dL_law_773 rfl rfl ?_
  refine E_iconst (4 : Int32) dL_law_774 (by decide) ?_
  refine E_iadd dL_law_775 ?_
  obtain ⟨g237, h⟩ := h
  refine E_sld dL_law_776 g237 ?_
  obtain ⟨d238, v243, σ239, hD240, hC241, h⟩ := h
  have hs242 := hC241.1.2.2.2.1 hs232
  refine E_callV (As := [.int (X.2 (x3 + (1 : Int32)).toNatClampNeg), .int (X.2 (x3 + (2 : Int32)).toNatClampNeg), .int (X.2 (x3 + (3 : Int32)).toNatClampNeg), .int (X.2 (x3 + (4 : Int32)).toNatClampNeg)]) (rest := [.int v233]) (r1 := (some (.int v243))) (b := 124) dL_law_777 ok_X12_plot in_X12_plot se_X12_plot ml_L_64 hD240 rfl rfl (Nat.le_of_ble_eq_true rfl) (sk_124 hs232) (sn hs232 (by decide)) (by decide) rfl (by decide +kernel) hC241 ?_
  refine E_icmp_eq 2038 dL_law_780 (by decide) (fun c => ?_) (fun c => ?_)
  · rw [if_pos c] at h
    exact E_lv [0, 1, 2, 3] rfl (w_L_law_2038 hs242 h)
  · rw [if_neg c] at h
    refine E_iconst (0 : Int32) dL_law_783 (by decide) ?_
    obtain ⟨rfl, rfl⟩ := h
    exact E_zret dL_law_784 rfl (Or.inl rfl)
def W_L_law_785 (X : Sx) (l : Launch) (D : Nat) (x3 : Int32) (σ : AH) (r : Option Value) (σ' : AH) : Prop := vp_in (x3 + (1 : Int32)) X.1 ∧ vp_in (x3 + (2 : Int32)) X.1 ∧ vp_in (x3 + (3 : Int32)) X.1 ∧ ∃ d247 : Nat, ∃ v252 : Int32, ∃ σ248 : AH, d247 + 1 ≤ D ∧ Call X l m_X11_start d247 [.ref 0, .int (X.2 (x3 + (1 : Int32)).toNatClampNeg), .int (X.2 (x3 + (2 : Int32)).toNatClampNeg), .int (X.2 (x3 + (3 : Int32)).toNatClampNeg)] σ (some (.int v252)) σ248 ∧ vp_in (x3 + (1 : Int32)) X.1 ∧ vp_in (x3 + (2 : Int32)) X.1 ∧ vp_in (x3 + (3 : Int32)) X.1 ∧ ∃ d256 : Nat, ∃ v261 : Int32, ∃ σ257 : AH, d256 + 1 ≤ D ∧ Call X l m_X12_start d256 [.ref 124, .int (X.2 (x3 + (1 : Int32)).toNatClampNeg), .int (X.2 (x3 + (2 : Int32)).toNatClampNeg), .int (X.2 (x3 + (3 : Int32)).toNatClampNeg)] σ248 (some (.int v261)) σ257 ∧ (if v252 = v261 then W_L_law_2038 X l D x3 σ257 r σ' else (r = some (.int (0 : Int32)) ∧ σ' = σ257))
set_option maxRecDepth 100000 in
theorem w_L_law_785 {X : Sx} {l : Launch} {D : Nat} {x3 : Int32} {σ : AH} {r : Option Value} {σ' : AH} (hs : Sh σ) (h : W_L_law_785 X l D x3 σ r σ') : E X l m_LW D 785 [(0, .ref 1000000), (1, .ref 0), (2, .ref 124), (3, .int x3)] [] σ r σ' := by
  unfold W_L_law_785 at h
  refine E_aload_n 1 dL_law_785 rfl rfl ?_
  refine E_aload_n 0 dL_law_786 rfl rfl ?_
  refine E_iload_n 3 dL_law_787 rfl rfl ?_
  refine E_iconst (1 : Int32) dL_law_788 (by decide) ?_
  refine E_iadd dL_law_789 ?_
  obtain ⟨g244, h⟩ := h
  refine E_sld dL_law_790 g244 ?_
  refine E_aload_n 0 dL_law_791 rfl rfl ?_
  refine E_iload_n 3 dL_law_792 rfl rfl ?_
  refine E_iconst (2 : Int32) dL_law_793 (by decide) ?_
  refine E_iadd dL_law_794 ?_
  obtain ⟨g245, h⟩ := h
  refine E_sld dL_law_795 g245 ?_
  refine E_aload_n 0 dL_law_796 rfl rfl ?_
  refine E_iload_n 3 dL_law_797 rfl rfl ?_
  refine E_iconst (3 : Int32) dL_law_798 (by decide) ?_
  refine E_iadd dL_law_799 ?_
  obtain ⟨g246, h⟩ := h
  refine E_sld dL_law_800 g246 ?_
  obtain ⟨d247, v252, σ248, hD249, hC250, h⟩ := h
  have hs251 := hC250.1.2.2.2.1 hs
  refine E_callV (As := [.int (X.2 (x3 + (1 : Int32)).toNatClampNeg), .int (X.2 (x3 + (2 : Int32)).toNatClampNeg), .int (X.2 (x3 + (3 : Int32)).toNatClampNeg)]) (rest := []) (r1 := (some (.int v252))) (b := 0) dL_law_801 ok_X11_start in_X11_start se_X11_start ml_L_65 hD249 rfl rfl (Nat.le_of_ble_eq_true rfl) (sk_0 hs) (sn hs (by decide)) (by decide) rfl (by decide +kernel) hC250 ?_
  refine E_aload_n 2 dL_law_804 rfl rfl ?_
  refine E_aload_n 0 dL_law_805 rfl rfl ?_
  refine E_iload_n 3 dL_law_806 rfl rfl ?_
  refine E_iconst (1 : Int32) dL_law_807 (by decide) ?_
  refine E_iadd dL_law_808 ?_
  obtain ⟨g253, h⟩ := h
  refine E_sld dL_law_809 g253 ?_
  refine E_aload_n 0 dL_law_810 rfl rfl ?_
  refine E_iload_n 3 dL_law_811 rfl rfl ?_
  refine E_iconst (2 : Int32) dL_law_812 (by decide) ?_
  refine E_iadd dL_law_813 ?_
  obtain ⟨g254, h⟩ := h
  refine E_sld dL_law_814 g254 ?_
  refine E_aload_n 0 dL_law_815 rfl rfl ?_
  refine E_iload_n 3 dL_law_816 rfl rfl ?_
  refine E_iconst (3 : Int32) dL_law_817 (by decide) ?_
  refine E_iadd dL_law_818 ?_
  obtain ⟨g255, h⟩ := h
  refine E_sld dL_law_819 g255 ?_
  obtain ⟨d256, v261, σ257, hD258, hC259, h⟩ := h
  have hs260 := hC259.1.2.2.2.1 hs251
  refine E_callV (As := [.int (X.2 (x3 + (1 : Int32)).toNatClampNeg), .int (X.2 (x3 + (2 : Int32)).toNatClampNeg), .int (X.2 (x3 + (3 : Int32)).toNatClampNeg)]) (rest := [.int v252]) (r1 := (some (.int v261))) (b := 124) dL_law_820 ok_X12_start in_X12_start se_X12_start ml_L_68 hD258 rfl rfl (Nat.le_of_ble_eq_true rfl) (sk_124 hs251) (sn hs251 (by decide)) (by decide) rfl (by decide +kernel) hC259 ?_
  refine E_icmp_eq 2038 dL_law_823 (by decide) (fun c => ?_) (fun c => ?_)
  · rw [if_pos c] at h
    exact E_lv [0, 1, 2, 3] rfl (w_L_law_2038 hs260 h)
  · rw [if_neg c] at h
    refine E_iconst (0 : Int32) dL_law_826 (by decide) ?_
    obtain ⟨rfl, rfl⟩ := h
    exact E_zret dL_law_827 rfl (Or.inl rfl)
def W_L_law_828 (X : Sx) (l : Launch) (D : Nat) (x3 : Int32) (σ : AH) (r : Option Value) (σ' : AH) : Prop := vp_in (x3 + (1 : Int32)) X.1 ∧ vp_in (x3 + (2 : Int32)) X.1 ∧ vp_in (x3 + (3 : Int32)) X.1 ∧ vp_in (x3 + (4 : Int32)) X.1 ∧ ∃ d266 : Nat, ∃ v271 : Int32, ∃ σ267 : AH, d266 + 1 ≤ D ∧ Call X l m_X11_stock d266 [.ref 0, .int (X.2 (x3 + (1 : Int32)).toNatClampNeg), .int (X.2 (x3 + (2 : Int32)).toNatClampNeg), .int (X.2 (x3 + (3 : Int32)).toNatClampNeg), .int (X.2 (x3 + (4 : Int32)).toNatClampNeg)] σ (some (.int v271)) σ267 ∧ vp_in (x3 + (1 : Int32)) X.1 ∧ vp_in (x3 + (2 : Int32)) X.1 ∧ vp_in (x3 + (3 : Int32)) X.1 ∧ vp_in (x3 + (4 : Int32)) X.1 ∧ ∃ d276 : Nat, ∃ v281 : Int32, ∃ σ277 : AH, d276 + 1 ≤ D ∧ Call X l m_X12_stock d276 [.ref 124, .int (X.2 (x3 + (1 : Int32)).toNatClampNeg), .int (X.2 (x3 + (2 : Int32)).toNatClampNeg), .int (X.2 (x3 + (3 : Int32)).toNatClampNeg), .int (X.2 (x3 + (4 : Int32)).toNatClampNeg)] σ267 (some (.int v281)) σ277 ∧ (if v271 = v281 then W_L_law_2038 X l D x3 σ277 r σ' else (r = some (.int (0 : Int32)) ∧ σ' = σ277))
set_option maxRecDepth 100000 in
theorem w_L_law_828 {X : Sx} {l : Launch} {D : Nat} {x3 : Int32} {σ : AH} {r : Option Value} {σ' : AH} (hs : Sh σ) (h : W_L_law_828 X l D x3 σ r σ') : E X l m_LW D 828 [(0, .ref 1000000), (1, .ref 0), (2, .ref 124), (3, .int x3)] [] σ r σ' := by
  unfold W_L_law_828 at h
  refine E_aload_n 1 dL_law_828 rfl rfl ?_
  refine E_aload_n 0 dL_law_829 rfl rfl ?_
  refine E_iload_n 3 dL_law_830 rfl rfl ?_
  refine E_iconst (1 : Int32) dL_law_831 (by decide) ?_
  refine E_iadd dL_law_832 ?_
  obtain ⟨g262, h⟩ := h
  refine E_sld dL_law_833 g262 ?_
  refine E_aload_n 0 dL_law_834 rfl rfl ?_
  refine E_iload_n 3 dL_law_835 rfl rfl ?_
  refine E_iconst (2 : Int32) dL_law_836 (by decide) ?_
  refine E_iadd dL_law_837 ?_
  obtain ⟨g263, h⟩ := h
  refine E_sld dL_law_838 g263 ?_
  refine E_aload_n 0 dL_law_839 rfl rfl ?_
  refine E_iload_n 3 dL_law_840 rfl rfl ?_
  refine E_iconst (3 : Int32) dL_law_841 (by decide) ?_
  refine E_iadd dL_law_842 ?_
  obtain ⟨g264, h⟩ := h
  refine E_sld dL_law_843 g264 ?_
  refine E_aload_n 0 dL_law_844 rfl rfl ?_
  refine E_iload_n 3 dL_law_845 rfl rfl ?_
  refine E_iconst (4 : Int32) dL_law_846 (by decide) ?_
  refine E_iadd dL_law_847 ?_
  obtain ⟨g265, h⟩ := h
  refine E_sld dL_law_848 g265 ?_
  obtain ⟨d266, v271, σ267, hD268, hC269, h⟩ := h
  have hs270 := hC269.1.2.2.2.1 hs
  refine E_callV (As := [.int (X.2 (x3 + (1 : Int32)).toNatClampNeg), .int (X.2 (x3 + (2 : Int32)).toNatClampNeg), .int (X.2 (x3 + (3 : Int32)).toNatClampNeg), .int (X.2 (x3 + (4 : Int32)).toNatClampNeg)]) (rest := []) (r1 := (some (.int v271))) (b := 0) dL_law_849 ok_X11_stock in_X11_stock se_X11_stock ml_L_69 hD268 rfl rfl (Nat.le_of_ble_eq_true rfl) (sk_0 hs) (sn hs (by decide)) (by decide) rfl (by decide +kernel) hC269 ?_
  refine E_aload_n 2 dL_law_852 rfl rfl ?_
  refine E_aload_n 0 dL_law_853 rfl rfl ?_
  refine E_iload_n 3 dL_law_854 rfl rfl ?_
  refine E_iconst (1 : Int32) dL_law_855 (by decide) ?_
  refine E_iadd dL_law_856 ?_
  obtain ⟨g272, h⟩ := h
  refine E_sld dL_law_857 g272 ?_
  refine E_aload_n 0 dL_law_858 rfl rfl ?_
  refine E_iload_n 3 dL_law_859 rfl rfl ?_
  refine E_iconst (2 : Int32) dL_law_860 (by decide) ?_
  refine E_iadd dL_law_861 ?_
  obtain ⟨g273, h⟩ := h
  refine E_sld dL_law_862 g273 ?_
  refine E_aload_n 0 dL_law_863 rfl rfl ?_
  refine E_iload_n 3 dL_law_864 rfl rfl ?_
  refine E_iconst (3 : Int32) dL_law_865 (by decide) ?_
  refine E_iadd dL_law_866 ?_
  obtain ⟨g274, h⟩ := h
  refine E_sld dL_law_867 g274 ?_
  refine E_aload_n 0 dL_law_868 rfl rfl ?_
  refine E_iload_n 3 dL_law_869 rfl rfl ?_
  refine E_iconst (4 : Int32) dL_law_870 (by decide) ?_
  refine E_iadd dL_law_871 ?_
  obtain ⟨g275, h⟩ := h
  refine E_sld dL_law_872 g275 ?_
  obtain ⟨d276, v281, σ277, hD278, hC279, h⟩ := h
  have hs280 := hC279.1.2.2.2.1 hs270
  refine E_callV (As := [.int (X.2 (x3 + (1 : Int32)).toNatClampNeg), .int (X.2 (x3 + (2 : Int32)).toNatClampNeg), .int (X.2 (x3 + (3 : Int32)).toNatClampNeg), .int (X.2 (x3 + (4 : Int32)).toNatClampNeg)]) (rest := [.int v271]) (r1 := (some (.int v281))) (b := 124) dL_law_873 ok_X12_stock in_X12_stock se_X12_stock ml_L_72 hD278 rfl rfl (Nat.le_of_ble_eq_true rfl) (sk_124 hs270) (sn hs270 (by decide)) (by decide) rfl (by decide +kernel) hC279 ?_
  refine E_icmp_eq 2038 dL_law_876 (by decide) (fun c => ?_) (fun c => ?_)
  · rw [if_pos c] at h
    exact E_lv [0, 1, 2, 3] rfl (w_L_law_2038 hs280 h)
  · rw [if_neg c] at h
    refine E_iconst (0 : Int32) dL_law_879 (by decide) ?_
    obtain ⟨rfl, rfl⟩ := h
    exact E_zret dL_law_880 rfl (Or.inl rfl)
def W_L_law_881 (X : Sx) (l : Launch) (D : Nat) (x3 : Int32) (σ : AH) (r : Option Value) (σ' : AH) : Prop := vp_in (x3 + (1 : Int32)) X.1 ∧ vp_in (x3 + (2 : Int32)) X.1 ∧ vp_in (x3 + (3 : Int32)) X.1 ∧ vp_in (x3 + (4 : Int32)) X.1 ∧ ∃ d286 : Nat, ∃ v291 : Int32, ∃ σ287 : AH, d286 + 1 ≤ D ∧ Call X l m_X11_built d286 [.ref 0, .int (X.2 (x3 + (1 : Int32)).toNatClampNeg), .int (X.2 (x3 + (2 : Int32)).toNatClampNeg), .int (X.2 (x3 + (3 : Int32)).toNatClampNeg), .int (X.2 (x3 + (4 : Int32)).toNatClampNeg)] σ (some (.int v291)) σ287 ∧ vp_in (x3 + (1 : Int32)) X.1 ∧ vp_in (x3 + (2 : Int32)) X.1 ∧ vp_in (x3 + (3 : Int32)) X.1 ∧ vp_in (x3 + (4 : Int32)) X.1 ∧ ∃ d296 : Nat, ∃ v301 : Int32, ∃ σ297 : AH, d296 + 1 ≤ D ∧ Call X l m_X12_built d296 [.ref 124, .int (X.2 (x3 + (1 : Int32)).toNatClampNeg), .int (X.2 (x3 + (2 : Int32)).toNatClampNeg), .int (X.2 (x3 + (3 : Int32)).toNatClampNeg), .int (X.2 (x3 + (4 : Int32)).toNatClampNeg)] σ287 (some (.int v301)) σ297 ∧ (if v291 = v301 then W_L_law_2038 X l D x3 σ297 r σ' else (r = some (.int (0 : Int32)) ∧ σ' = σ297))
set_option maxRecDepth 100000 in
theorem w_L_law_881 {X : Sx} {l : Launch} {D : Nat} {x3 : Int32} {σ : AH} {r : Option Value} {σ' : AH} (hs : Sh σ) (h : W_L_law_881 X l D x3 σ r σ') : E X l m_LW D 881 [(0, .ref 1000000), (1, .ref 0), (2, .ref 124), (3, .int x3)] [] σ r σ' := by
  unfold W_L_law_881 at h
  refine E_aload_n 1 dL_law_881 rfl rfl ?_
  refine E_aload_n 0 dL_law_882 rfl rfl ?_
  refine E_iload_n 3 dL_law_883 rfl rfl ?_
  refine E_iconst (1 : Int32) dL_law_884 (by decide) ?_
  refine E_iadd dL_law_885 ?_
  obtain ⟨g282, h⟩ := h
  refine E_sld dL_law_886 g282 ?_
  refine E_aload_n 0 dL_law_887 rfl rfl ?_
  refine E_iload_n 3 dL_law_888 rfl rfl ?_
  refine E_iconst (2 : Int32) dL_law_889 (by decide) ?_
  refine E_iadd dL_law_890 ?_
  obtain ⟨g283, h⟩ := h
  refine E_sld dL_law_891 g283 ?_
  refine E_aload_n 0 dL_law_892 rfl rfl ?_
  refine E_iload_n 3 dL_law_893 rfl rfl ?_
  refine E_iconst (3 : Int32) dL_law_894 (by decide) ?_
  refine E_iadd dL_law_895 ?_
  obtain ⟨g284, h⟩ := h
  refine E_sld dL_law_896 g284 ?_
  refine E_aload_n 0 dL_law_897 rfl rfl ?_
  refine E_iload_n 3 dL_law_898 rfl rfl ?_
  refine E_iconst (4 : Int32) dL_law_899 (by decide) ?_
  refine E_iadd dL_law_900 ?_
  obtain ⟨g285, h⟩ := h
  refine E_sld dL_law_901 g285 ?_
  obtain ⟨d286, v291, σ287, hD288, hC289, h⟩ := h
  have hs290 := hC289.1.2.2.2.1 hs
  refine E_callV (As := [.int (X.2 (x3 + (1 : Int32)).toNatClampNeg), .int (X.2 (x3 + (2 : Int32)).toNatClampNeg), .int (X.2 (x3 + (3 : Int32)).toNatClampNeg), .int (X.2 (x3 + (4 : Int32)).toNatClampNeg)]) (rest := []) (r1 := (some (.int v291))) (b := 0) dL_law_902 ok_X11_built in_X11_built se_X11_built ml_L_73 hD288 rfl rfl (Nat.le_of_ble_eq_true rfl) (sk_0 hs) (sn hs (by decide)) (by decide) rfl (by decide +kernel) hC289 ?_
  refine E_aload_n 2 dL_law_905 rfl rfl ?_
  refine E_aload_n 0 dL_law_906 rfl rfl ?_
  refine E_iload_n 3 dL_law_907 rfl rfl ?_
  refine E_iconst (1 : Int32) dL_law_908 (by decide) ?_
  refine E_iadd dL_law_909 ?_
  obtain ⟨g292, h⟩ := h
  refine E_sld dL_law_910 g292 ?_
  refine E_aload_n 0 dL_law_911 rfl rfl ?_
  refine E_iload_n 3 dL_law_912 rfl rfl ?_
  refine E_iconst (2 : Int32) dL_law_913 (by decide) ?_
  refine E_iadd dL_law_914 ?_
  obtain ⟨g293, h⟩ := h
  refine E_sld dL_law_915 g293 ?_
  refine E_aload_n 0 dL_law_916 rfl rfl ?_
  refine E_iload_n 3 dL_law_917 rfl rfl ?_
  refine E_iconst (3 : Int32) dL_law_918 (by decide) ?_
  refine E_iadd dL_law_919 ?_
  obtain ⟨g294, h⟩ := h
  refine E_sld dL_law_920 g294 ?_
  refine E_aload_n 0 dL_law_921 rfl rfl ?_
  refine E_iload_n 3 dL_law_922 rfl rfl ?_
  refine E_iconst (4 : Int32) dL_law_923 (by decide) ?_
  refine E_iadd dL_law_924 ?_
  obtain ⟨g295, h⟩ := h
  refine E_sld dL_law_925 g295 ?_
  obtain ⟨d296, v301, σ297, hD298, hC299, h⟩ := h
  have hs300 := hC299.1.2.2.2.1 hs290
  refine E_callV (As := [.int (X.2 (x3 + (1 : Int32)).toNatClampNeg), .int (X.2 (x3 + (2 : Int32)).toNatClampNeg), .int (X.2 (x3 + (3 : Int32)).toNatClampNeg), .int (X.2 (x3 + (4 : Int32)).toNatClampNeg)]) (rest := [.int v291]) (r1 := (some (.int v301))) (b := 124) dL_law_926 ok_X12_built in_X12_built se_X12_built ml_L_76 hD298 rfl rfl (Nat.le_of_ble_eq_true rfl) (sk_124 hs290) (sn hs290 (by decide)) (by decide) rfl (by decide +kernel) hC299 ?_
  refine E_icmp_eq 2038 dL_law_929 (by decide) (fun c => ?_) (fun c => ?_)
  · rw [if_pos c] at h
    exact E_lv [0, 1, 2, 3] rfl (w_L_law_2038 hs300 h)
  · rw [if_neg c] at h
    refine E_iconst (0 : Int32) dL_law_932 (by decide) ?_
    obtain ⟨rfl, rfl⟩ := h
    exact E_zret dL_law_933 rfl (Or.inl rfl)
def W_L_law_934 (X : Sx) (l : Launch) (D : Nat) (x3 : Int32) (σ : AH) (r : Option Value) (σ' : AH) : Prop := vp_in (x3 + (1 : Int32)) X.1 ∧ vp_in (x3 + (2 : Int32)) X.1 ∧ vp_in (x3 + (3 : Int32)) X.1 ∧ ∃ d305 : Nat, ∃ v310 : Int32, ∃ σ306 : AH, d305 + 1 ≤ D ∧ Call X l m_X11_lacks d305 [.ref 0, .int (X.2 (x3 + (1 : Int32)).toNatClampNeg), .int (X.2 (x3 + (2 : Int32)).toNatClampNeg), .int (X.2 (x3 + (3 : Int32)).toNatClampNeg)] σ (some (.int v310)) σ306 ∧ vp_in (x3 + (1 : Int32)) X.1 ∧ vp_in (x3 + (2 : Int32)) X.1 ∧ vp_in (x3 + (3 : Int32)) X.1 ∧ ∃ d314 : Nat, ∃ v319 : Int32, ∃ σ315 : AH, d314 + 1 ≤ D ∧ Call X l m_X12_lacks d314 [.ref 124, .int (X.2 (x3 + (1 : Int32)).toNatClampNeg), .int (X.2 (x3 + (2 : Int32)).toNatClampNeg), .int (X.2 (x3 + (3 : Int32)).toNatClampNeg)] σ306 (some (.int v319)) σ315 ∧ (if v310 = v319 then W_L_law_2038 X l D x3 σ315 r σ' else (r = some (.int (0 : Int32)) ∧ σ' = σ315))
set_option maxRecDepth 100000 in
theorem w_L_law_934 {X : Sx} {l : Launch} {D : Nat} {x3 : Int32} {σ : AH} {r : Option Value} {σ' : AH} (hs : Sh σ) (h : W_L_law_934 X l D x3 σ r σ') : E X l m_LW D 934 [(0, .ref 1000000), (1, .ref 0), (2, .ref 124), (3, .int x3)] [] σ r σ' := by
  unfold W_L_law_934 at h
  refine E_aload_n 1 dL_law_934 rfl rfl ?_
  refine E_aload_n 0 dL_law_935 rfl rfl ?_
  refine E_iload_n 3 dL_law_936 rfl rfl ?_
  refine E_iconst (1 : Int32) dL_law_937 (by decide) ?_
  refine E_iadd dL_law_938 ?_
  obtain ⟨g302, h⟩ := h
  refine E_sld dL_law_939 g302 ?_
  refine E_aload_n 0 dL_law_940 rfl rfl ?_
  refine E_iload_n 3 dL_law_941 rfl rfl ?_
  refine E_iconst (2 : Int32) dL_law_942 (by decide) ?_
  refine E_iadd dL_law_943 ?_
  obtain ⟨g303, h⟩ := h
  refine E_sld dL_law_944 g303 ?_
  refine E_aload_n 0 dL_law_945 rfl rfl ?_
  refine E_iload_n 3 dL_law_946 rfl rfl ?_
  refine E_iconst (3 : Int32) dL_law_947 (by decide) ?_
  refine E_iadd dL_law_948 ?_
  obtain ⟨g304, h⟩ := h
  refine E_sld dL_law_949 g304 ?_
  obtain ⟨d305, v310, σ306, hD307, hC308, h⟩ := h
  have hs309 := hC308.1.2.2.2.1 hs
  refine E_callV (As := [.int (X.2 (x3 + (1 : Int32)).toNatClampNeg), .int (X.2 (x3 + (2 : Int32)).toNatClampNeg), .int (X.2 (x3 + (3 : Int32)).toNatClampNeg)]) (rest := []) (r1 := (some (.int v310))) (b := 0) dL_law_950 ok_X11_lacks in_X11_lacks se_X11_lacks ml_L_77 hD307 rfl rfl (Nat.le_of_ble_eq_true rfl) (sk_0 hs) (sn hs (by decide)) (by decide) rfl (by decide +kernel) hC308 ?_
  refine E_aload_n 2 dL_law_953 rfl rfl ?_
  refine E_aload_n 0 dL_law_954 rfl rfl ?_
  refine E_iload_n 3 dL_law_955 rfl rfl ?_
  refine E_iconst (1 : Int32) dL_law_956 (by decide) ?_
  refine E_iadd dL_law_957 ?_
  obtain ⟨g311, h⟩ := h
  refine E_sld dL_law_958 g311 ?_
  refine E_aload_n 0 dL_law_959 rfl rfl ?_
  refine E_iload_n 3 dL_law_960 rfl rfl ?_
  refine E_iconst (2 : Int32) dL_law_961 (by decide) ?_
  refine E_iadd dL_law_962 ?_
  obtain ⟨g312, h⟩ := h
  refine E_sld dL_law_963 g312 ?_
  refine E_aload_n 0 dL_law_964 rfl rfl ?_
  refine E_iload_n 3 dL_law_965 rfl rfl ?_
  refine E_iconst (3 : Int32) dL_law_966 (by decide) ?_
  refine E_iadd dL_law_967 ?_
  obtain ⟨g313, h⟩ := h
  refine E_sld dL_law_968 g313 ?_
  obtain ⟨d314, v319, σ315, hD316, hC317, h⟩ := h
  have hs318 := hC317.1.2.2.2.1 hs309
  refine E_callV (As := [.int (X.2 (x3 + (1 : Int32)).toNatClampNeg), .int (X.2 (x3 + (2 : Int32)).toNatClampNeg), .int (X.2 (x3 + (3 : Int32)).toNatClampNeg)]) (rest := [.int v310]) (r1 := (some (.int v319))) (b := 124) dL_law_969 ok_X12_lacks in_X12_lacks se_X12_lacks ml_L_80 hD316 rfl rfl (Nat.le_of_ble_eq_true rfl) (sk_124 hs309) (sn hs309 (by decide)) (by decide) rfl (by decide +kernel) hC317 ?_
  refine E_icmp_eq 2038 dL_law_972 (by decide) (fun c => ?_) (fun c => ?_)
  · rw [if_pos c] at h
    exact E_lv [0, 1, 2, 3] rfl (w_L_law_2038 hs318 h)
  · rw [if_neg c] at h
    refine E_iconst (0 : Int32) dL_law_975 (by decide) ?_
    obtain ⟨rfl, rfl⟩ := h
    exact E_zret dL_law_976 rfl (Or.inl rfl)
def W_L_law_977 (X : Sx) (l : Launch) (D : Nat) (x3 : Int32) (σ : AH) (r : Option Value) (σ' : AH) : Prop := vp_in (x3 + (1 : Int32)) X.1 ∧ vp_in (x3 + (2 : Int32)) X.1 ∧ ∃ d322 : Nat, ∃ v327 : Int32, ∃ σ323 : AH, d322 + 1 ≤ D ∧ Call X l m_X11_knock d322 [.ref 0, .int (X.2 (x3 + (1 : Int32)).toNatClampNeg), .int (X.2 (x3 + (2 : Int32)).toNatClampNeg)] σ (some (.int v327)) σ323 ∧ vp_in (x3 + (1 : Int32)) X.1 ∧ vp_in (x3 + (2 : Int32)) X.1 ∧ ∃ d330 : Nat, ∃ v335 : Int32, ∃ σ331 : AH, d330 + 1 ≤ D ∧ Call X l m_X12_knock d330 [.ref 124, .int (X.2 (x3 + (1 : Int32)).toNatClampNeg), .int (X.2 (x3 + (2 : Int32)).toNatClampNeg)] σ323 (some (.int v335)) σ331 ∧ (if v327 = v335 then W_L_law_2038 X l D x3 σ331 r σ' else (r = some (.int (0 : Int32)) ∧ σ' = σ331))
set_option maxRecDepth 100000 in
theorem w_L_law_977 {X : Sx} {l : Launch} {D : Nat} {x3 : Int32} {σ : AH} {r : Option Value} {σ' : AH} (hs : Sh σ) (h : W_L_law_977 X l D x3 σ r σ') : E X l m_LW D 977 [(0, .ref 1000000), (1, .ref 0), (2, .ref 124), (3, .int x3)] [] σ r σ' := by
  unfold W_L_law_977 at h
  refine E_aload_n 1 dL_law_977 rfl rfl ?_
  refine E_aload_n 0 dL_law_978 rfl rfl ?_
  refine E_iload_n 3 dL_law_979 rfl rfl ?_
  refine E_iconst (1 : Int32) dL_law_980 (by decide) ?_
  refine E_iadd dL_law_981 ?_
  obtain ⟨g320, h⟩ := h
  refine E_sld dL_law_982 g320 ?_
  refine E_aload_n 0 dL_law_983 rfl rfl ?_
  refine E_iload_n 3 dL_law_984 rfl rfl ?_
  refine E_iconst (2 : Int32) dL_law_985 (by decide) ?_
  refine E_iadd dL_law_986 ?_
  obtain ⟨g321, h⟩ := h
  refine E_sld dL_law_987 g321 ?_
  obtain ⟨d322, v327, σ323, hD324, hC325, h⟩ := h
  have hs326 := hC325.1.2.2.2.1 hs
  refine E_callV (As := [.int (X.2 (x3 + (1 : Int32)).toNatClampNeg), .int (X.2 (x3 + (2 : Int32)).toNatClampNeg)]) (rest := []) (r1 := (some (.int v327))) (b := 0) dL_law_988 ok_X11_knock in_X11_knock se_X11_knock ml_L_81 hD324 rfl rfl (Nat.le_of_ble_eq_true rfl) (sk_0 hs) (sn hs (by decide)) (by decide) rfl (by decide +kernel) hC325 ?_
  refine E_aload_n 2 dL_law_991 rfl rfl ?_
  refine E_aload_n 0 dL_law_992 rfl rfl ?_
  refine E_iload_n 3 dL_law_993 rfl rfl ?_
  refine E_iconst (1 : Int32) dL_law_994 (by decide) ?_
  refine E_iadd dL_law_995 ?_
  obtain ⟨g328, h⟩ := h
  refine E_sld dL_law_996 g328 ?_
  refine E_aload_n 0 dL_law_997 rfl rfl ?_
  refine E_iload_n 3 dL_law_998 rfl rfl ?_
  refine E_iconst (2 : Int32) dL_law_999 (by decide) ?_
  refine E_iadd dL_law_1000 ?_
  obtain ⟨g329, h⟩ := h
  refine E_sld dL_law_1001 g329 ?_
  obtain ⟨d330, v335, σ331, hD332, hC333, h⟩ := h
  have hs334 := hC333.1.2.2.2.1 hs326
  refine E_callV (As := [.int (X.2 (x3 + (1 : Int32)).toNatClampNeg), .int (X.2 (x3 + (2 : Int32)).toNatClampNeg)]) (rest := [.int v327]) (r1 := (some (.int v335))) (b := 124) dL_law_1002 ok_X12_knock in_X12_knock se_X12_knock ml_L_84 hD332 rfl rfl (Nat.le_of_ble_eq_true rfl) (sk_124 hs326) (sn hs326 (by decide)) (by decide) rfl (by decide +kernel) hC333 ?_
  refine E_icmp_eq 2038 dL_law_1005 (by decide) (fun c => ?_) (fun c => ?_)
  · rw [if_pos c] at h
    exact E_lv [0, 1, 2, 3] rfl (w_L_law_2038 hs334 h)
  · rw [if_neg c] at h
    refine E_iconst (0 : Int32) dL_law_1008 (by decide) ?_
    obtain ⟨rfl, rfl⟩ := h
    exact E_zret dL_law_1009 rfl (Or.inl rfl)
def W_L_law_18 (X : Sx) (l : Launch) (D : Nat) (x3 : Int32) (σ : AH) (r : Option Value) (σ' : AH) : Prop := (if ((Int32.ofNat X.1) - (9 : Int32)) < x3 then (r = some (.int (1 : Int32)) ∧ σ' = σ) else vp_in x3 X.1 ∧ (if ((X.2 x3.toNatClampNeg) &&& (63 : Int32)) = 0 then W_L_law_224 X l D x3 σ r σ' else (if ((X.2 x3.toNatClampNeg) &&& (63 : Int32)) = 1 then W_L_law_287 X l D x3 σ r σ' else (if ((X.2 x3.toNatClampNeg) &&& (63 : Int32)) = 2 then W_L_law_310 X l D x3 σ r σ' else (if ((X.2 x3.toNatClampNeg) &&& (63 : Int32)) = 3 then W_L_law_343 X l D x3 σ r σ' else (if ((X.2 x3.toNatClampNeg) &&& (63 : Int32)) = 4 then W_L_law_356 X l D x3 σ r σ' else (if ((X.2 x3.toNatClampNeg) &&& (63 : Int32)) = 5 then W_L_law_409 X l D x3 σ r σ' else (if ((X.2 x3.toNatClampNeg) &&& (63 : Int32)) = 6 then W_L_law_452 X l D x3 σ r σ' else (if ((X.2 x3.toNatClampNeg) &&& (63 : Int32)) = 7 then W_L_law_527 X l D x3 σ r σ' else (if ((X.2 x3.toNatClampNeg) &&& (63 : Int32)) = 8 then W_L_law_580 X l D x3 σ r σ' else (if ((X.2 x3.toNatClampNeg) &&& (63 : Int32)) = 9 then W_L_law_679 X l D x3 σ r σ' else (if ((X.2 x3.toNatClampNeg) &&& (63 : Int32)) = 10 then W_L_law_732 X l D x3 σ r σ' else (if ((X.2 x3.toNatClampNeg) &&& (63 : Int32)) = 11 then W_L_law_785 X l D x3 σ r σ' else (if ((X.2 x3.toNatClampNeg) &&& (63 : Int32)) = 12 then W_L_law_828 X l D x3 σ r σ' else (if ((X.2 x3.toNatClampNeg) &&& (63 : Int32)) = 13 then W_L_law_881 X l D x3 σ r σ' else (if ((X.2 x3.toNatClampNeg) &&& (63 : Int32)) = 14 then W_L_law_934 X l D x3 σ r σ' else (if ((X.2 x3.toNatClampNeg) &&& (63 : Int32)) = 15 then W_L_law_977 X l D x3 σ r σ' else (if ((X.2 x3.toNatClampNeg) &&& (63 : Int32)) = 16 then W_L_law_1010 X l D x3 σ r σ' else (if ((X.2 x3.toNatClampNeg) &&& (63 : Int32)) = 17 then W_L_law_1033 X l D x3 σ r σ' else (if ((X.2 x3.toNatClampNeg) &&& (63 : Int32)) = 18 then W_L_law_1046 X l D x3 σ r σ' else (if ((X.2 x3.toNatClampNeg) &&& (63 : Int32)) = 19 then W_L_law_1069 X l D x3 σ r σ' else (if ((X.2 x3.toNatClampNeg) &&& (63 : Int32)) = 20 then W_L_law_1092 X l D x3 σ r σ' else (if ((X.2 x3.toNatClampNeg) &&& (63 : Int32)) = 21 then W_L_law_1115 X l D x3 σ r σ' else (if ((X.2 x3.toNatClampNeg) &&& (63 : Int32)) = 22 then W_L_law_1148 X l D x3 σ r σ' else (if ((X.2 x3.toNatClampNeg) &&& (63 : Int32)) = 23 then W_L_law_1235 X l D x3 σ r σ' else (if ((X.2 x3.toNatClampNeg) &&& (63 : Int32)) = 24 then W_L_law_1278 X l D x3 σ r σ' else (if ((X.2 x3.toNatClampNeg) &&& (63 : Int32)) = 25 then W_L_law_1311 X l D x3 σ r σ' else (if ((X.2 x3.toNatClampNeg) &&& (63 : Int32)) = 26 then W_L_law_1354 X l D x3 σ r σ' else (if ((X.2 x3.toNatClampNeg) &&& (63 : Int32)) = 27 then W_L_law_1407 X l D x3 σ r σ' else (if ((X.2 x3.toNatClampNeg) &&& (63 : Int32)) = 28 then W_L_law_1460 X l D x3 σ r σ' else (if ((X.2 x3.toNatClampNeg) &&& (63 : Int32)) = 29 then W_L_law_1483 X l D x3 σ r σ' else (if ((X.2 x3.toNatClampNeg) &&& (63 : Int32)) = 30 then W_L_law_1526 X l D x3 σ r σ' else (if ((X.2 x3.toNatClampNeg) &&& (63 : Int32)) = 31 then W_L_law_1559 X l D x3 σ r σ' else (if ((X.2 x3.toNatClampNeg) &&& (63 : Int32)) = 32 then W_L_law_1602 X l D x3 σ r σ' else (if ((X.2 x3.toNatClampNeg) &&& (63 : Int32)) = 33 then W_L_law_1635 X l D x3 σ r σ' else (if ((X.2 x3.toNatClampNeg) &&& (63 : Int32)) = 34 then W_L_law_1678 X l D x3 σ r σ' else (if ((X.2 x3.toNatClampNeg) &&& (63 : Int32)) = 35 then W_L_law_1731 X l D x3 σ r σ' else (if ((X.2 x3.toNatClampNeg) &&& (63 : Int32)) = 36 then W_L_law_1764 X l D x3 σ r σ' else (if ((X.2 x3.toNatClampNeg) &&& (63 : Int32)) = 37 then W_L_law_1807 X l D x3 σ r σ' else (if ((X.2 x3.toNatClampNeg) &&& (63 : Int32)) = 38 then W_L_law_1860 X l D x3 σ r σ' else (if ((X.2 x3.toNatClampNeg) &&& (63 : Int32)) = 39 then W_L_law_1913 X l D x3 σ r σ' else (if ((X.2 x3.toNatClampNeg) &&& (63 : Int32)) = 40 then W_L_law_1956 X l D x3 σ r σ' else (if ((X.2 x3.toNatClampNeg) &&& (63 : Int32)) = 41 then W_L_law_1979 X l D x3 σ r σ' else (if ((X.2 x3.toNatClampNeg) &&& (63 : Int32)) = 42 then W_L_law_2002 X l D x3 σ r σ' else (if ((X.2 x3.toNatClampNeg) &&& (63 : Int32)) = 43 then W_L_law_2025 X l D x3 σ r σ' else W_L_law_2038 X l D x3 σ r σ')))))))))))))))))))))))))))))))))))))))))))))
set_option maxRecDepth 100000 in
theorem w_L_law_18 {X : Sx} {l : Launch} {D : Nat} {x3 : Int32} {σ : AH} {r : Option Value} {σ' : AH} (hs : Sh σ) (h : W_L_law_18 X l D x3 σ r σ') : E X l m_LW D 18 [(0, .ref 1000000), (1, .ref 0), (2, .ref 124), (3, .int x3)] [] σ r σ' := by
  unfold W_L_law_18 at h
  refine E_iload_n 3 dL_law_18 rfl rfl ?_
  refine E_aload_n 0 dL_law_19 rfl rfl ?_
  refine E_slen dL_law_20 ?_
  refine E_bipush (9 : Int32) dL_law_21 (by decide) ?_
  refine E_isub dL_law_23 ?_
  refine E_icmp_gt 2044 dL_law_24 (by decide) (fun c => ?_) (fun c => ?_)
  · rw [if_pos c] at h
    refine E_iconst (1 : Int32) dL_law_2044 (by decide) ?_
    obtain ⟨rfl, rfl⟩ := h
    exact E_zret dL_law_2045 rfl (Or.inr rfl)
  · rw [if_neg c] at h
    refine E_aload_n 0 dL_law_27 rfl rfl ?_
    refine E_iload_n 3 dL_law_28 rfl rfl ?_
    obtain ⟨g29, h⟩ := h
    refine E_sld dL_law_29 g29 ?_
    refine E_bipush (63 : Int32) dL_law_30 (by decide) ?_
    refine E_iand dL_law_32 ?_
    by_cases c0 : ((X.2 x3.toNatClampNeg) &&& (63 : Int32)) = 0
    · rw [if_pos c0] at h
      refine E_tabIn (off := 191) 224 dL_law_33 (by rw [c0]; decide) (by rw [c0]; decide) (by rw [c0]; rfl) (by decide) ?_
      exact E_lv [0, 1, 2, 3] rfl (w_L_law_224 hs h)
    rw [if_neg c0] at h
    by_cases c1 : ((X.2 x3.toNatClampNeg) &&& (63 : Int32)) = 1
    · rw [if_pos c1] at h
      refine E_tabIn (off := 254) 287 dL_law_33 (by rw [c1]; decide) (by rw [c1]; decide) (by rw [c1]; rfl) (by decide) ?_
      exact E_lv [0, 1, 2, 3] rfl (w_L_law_287 hs h)
    rw [if_neg c1] at h
    by_cases c2 : ((X.2 x3.toNatClampNeg) &&& (63 : Int32)) = 2
    · rw [if_pos c2] at h
      refine E_tabIn (off := 277) 310 dL_law_33 (by rw [c2]; decide) (by rw [c2]; decide) (by rw [c2]; rfl) (by decide) ?_
      exact E_lv [0, 1, 2, 3] rfl (w_L_law_310 hs h)
    rw [if_neg c2] at h
    by_cases c3 : ((X.2 x3.toNatClampNeg) &&& (63 : Int32)) = 3
    · rw [if_pos c3] at h
      refine E_tabIn (off := 310) 343 dL_law_33 (by rw [c3]; decide) (by rw [c3]; decide) (by rw [c3]; rfl) (by decide) ?_
      exact E_lv [0, 1, 2, 3] rfl (w_L_law_343 hs h)
    rw [if_neg c3] at h
    by_cases c4 : ((X.2 x3.toNatClampNeg) &&& (63 : Int32)) = 4
    · rw [if_pos c4] at h
      refine E_tabIn (off := 323) 356 dL_law_33 (by rw [c4]; decide) (by rw [c4]; decide) (by rw [c4]; rfl) (by decide) ?_
      exact E_lv [0, 1, 2, 3] rfl (w_L_law_356 hs h)
    rw [if_neg c4] at h
    by_cases c5 : ((X.2 x3.toNatClampNeg) &&& (63 : Int32)) = 5
    · rw [if_pos c5] at h
      refine E_tabIn (off := 376) 409 dL_law_33 (by rw [c5]; decide) (by rw [c5]; decide) (by rw [c5]; rfl) (by decide) ?_
      exact E_lv [0, 1, 2, 3] rfl (w_L_law_409 hs h)
    rw [if_neg c5] at h
    by_cases c6 : ((X.2 x3.toNatClampNeg) &&& (63 : Int32)) = 6
    · rw [if_pos c6] at h
      refine E_tabIn (off := 419) 452 dL_law_33 (by rw [c6]; decide) (by rw [c6]; decide) (by rw [c6]; rfl) (by decide) ?_
      exact E_lv [0, 1, 2, 3] rfl (w_L_law_452 hs h)
    rw [if_neg c6] at h
    by_cases c7 : ((X.2 x3.toNatClampNeg) &&& (63 : Int32)) = 7
    · rw [if_pos c7] at h
      refine E_tabIn (off := 494) 527 dL_law_33 (by rw [c7]; decide) (by rw [c7]; decide) (by rw [c7]; rfl) (by decide) ?_
      exact E_lv [0, 1, 2, 3] rfl (w_L_law_527 hs h)
    rw [if_neg c7] at h
    by_cases c8 : ((X.2 x3.toNatClampNeg) &&& (63 : Int32)) = 8
    · rw [if_pos c8] at h
      refine E_tabIn (off := 547) 580 dL_law_33 (by rw [c8]; decide) (by rw [c8]; decide) (by rw [c8]; rfl) (by decide) ?_
      exact E_lv [0, 1, 2, 3] rfl (w_L_law_580 hs h)
    rw [if_neg c8] at h
    by_cases c9 : ((X.2 x3.toNatClampNeg) &&& (63 : Int32)) = 9
    · rw [if_pos c9] at h
      refine E_tabIn (off := 646) 679 dL_law_33 (by rw [c9]; decide) (by rw [c9]; decide) (by rw [c9]; rfl) (by decide) ?_
      exact E_lv [0, 1, 2, 3] rfl (w_L_law_679 hs h)
    rw [if_neg c9] at h
    by_cases c10 : ((X.2 x3.toNatClampNeg) &&& (63 : Int32)) = 10
    · rw [if_pos c10] at h
      refine E_tabIn (off := 699) 732 dL_law_33 (by rw [c10]; decide) (by rw [c10]; decide) (by rw [c10]; rfl) (by decide) ?_
      exact E_lv [0, 1, 2, 3] rfl (w_L_law_732 hs h)
    rw [if_neg c10] at h
    by_cases c11 : ((X.2 x3.toNatClampNeg) &&& (63 : Int32)) = 11
    · rw [if_pos c11] at h
      refine E_tabIn (off := 752) 785 dL_law_33 (by rw [c11]; decide) (by rw [c11]; decide) (by rw [c11]; rfl) (by decide) ?_
      exact E_lv [0, 1, 2, 3] rfl (w_L_law_785 hs h)
    rw [if_neg c11] at h
    by_cases c12 : ((X.2 x3.toNatClampNeg) &&& (63 : Int32)) = 12
    · rw [if_pos c12] at h
      refine E_tabIn (off := 795) 828 dL_law_33 (by rw [c12]; decide) (by rw [c12]; decide) (by rw [c12]; rfl) (by decide) ?_
      exact E_lv [0, 1, 2, 3] rfl (w_L_law_828 hs h)
    rw [if_neg c12] at h
    by_cases c13 : ((X.2 x3.toNatClampNeg) &&& (63 : Int32)) = 13
    · rw [if_pos c13] at h
      refine E_tabIn (off := 848) 881 dL_law_33 (by rw [c13]; decide) (by rw [c13]; decide) (by rw [c13]; rfl) (by decide) ?_
      exact E_lv [0, 1, 2, 3] rfl (w_L_law_881 hs h)
    rw [if_neg c13] at h
    by_cases c14 : ((X.2 x3.toNatClampNeg) &&& (63 : Int32)) = 14
    · rw [if_pos c14] at h
      refine E_tabIn (off := 901) 934 dL_law_33 (by rw [c14]; decide) (by rw [c14]; decide) (by rw [c14]; rfl) (by decide) ?_
      exact E_lv [0, 1, 2, 3] rfl (w_L_law_934 hs h)
    rw [if_neg c14] at h
    by_cases c15 : ((X.2 x3.toNatClampNeg) &&& (63 : Int32)) = 15
    · rw [if_pos c15] at h
      refine E_tabIn (off := 944) 977 dL_law_33 (by rw [c15]; decide) (by rw [c15]; decide) (by rw [c15]; rfl) (by decide) ?_
      exact E_lv [0, 1, 2, 3] rfl (w_L_law_977 hs h)
    rw [if_neg c15] at h
    by_cases c16 : ((X.2 x3.toNatClampNeg) &&& (63 : Int32)) = 16
    · rw [if_pos c16] at h
      refine E_tabIn (off := 977) 1010 dL_law_33 (by rw [c16]; decide) (by rw [c16]; decide) (by rw [c16]; rfl) (by decide) ?_
      exact E_lv [0, 1, 2, 3] rfl (w_L_law_1010 hs h)
    rw [if_neg c16] at h
    by_cases c17 : ((X.2 x3.toNatClampNeg) &&& (63 : Int32)) = 17
    · rw [if_pos c17] at h
      refine E_tabIn (off := 1000) 1033 dL_law_33 (by rw [c17]; decide) (by rw [c17]; decide) (by rw [c17]; rfl) (by decide) ?_
      exact E_lv [0, 1, 2, 3] rfl (w_L_law_1033 hs h)
    rw [if_neg c17] at h
    by_cases c18 : ((X.2 x3.toNatClampNeg) &&& (63 : Int32)) = 18
    · rw [if_pos c18] at h
      refine E_tabIn (off := 1013) 1046 dL_law_33 (by rw [c18]; decide) (by rw [c18]; decide) (by rw [c18]; rfl) (by decide) ?_
      exact E_lv [0, 1, 2, 3] rfl (w_L_law_1046 hs h)
    rw [if_neg c18] at h
    by_cases c19 : ((X.2 x3.toNatClampNeg) &&& (63 : Int32)) = 19
    · rw [if_pos c19] at h
      refine E_tabIn (off := 1036) 1069 dL_law_33 (by rw [c19]; decide) (by rw [c19]; decide) (by rw [c19]; rfl) (by decide) ?_
      exact E_lv [0, 1, 2, 3] rfl (w_L_law_1069 hs h)
    rw [if_neg c19] at h
    by_cases c20 : ((X.2 x3.toNatClampNeg) &&& (63 : Int32)) = 20
    · rw [if_pos c20] at h
      refine E_tabIn (off := 1059) 1092 dL_law_33 (by rw [c20]; decide) (by rw [c20]; decide) (by rw [c20]; rfl) (by decide) ?_
      exact E_lv [0, 1, 2, 3] rfl (w_L_law_1092 hs h)
    rw [if_neg c20] at h
    by_cases c21 : ((X.2 x3.toNatClampNeg) &&& (63 : Int32)) = 21
    · rw [if_pos c21] at h
      refine E_tabIn (off := 1082) 1115 dL_law_33 (by rw [c21]; decide) (by rw [c21]; decide) (by rw [c21]; rfl) (by decide) ?_
      exact E_lv [0, 1, 2, 3] rfl (w_L_law_1115 hs h)
    rw [if_neg c21] at h
    by_cases c22 : ((X.2 x3.toNatClampNeg) &&& (63 : Int32)) = 22
    · rw [if_pos c22] at h
      refine E_tabIn (off := 1115) 1148 dL_law_33 (by rw [c22]; decide) (by rw [c22]; decide) (by rw [c22]; rfl) (by decide) ?_
      exact E_lv [0, 1, 2, 3] rfl (w_L_law_1148 hs h)
    rw [if_neg c22] at h
    by_cases c23 : ((X.2 x3.toNatClampNeg) &&& (63 : Int32)) = 23
    · rw [if_pos c23] at h
      refine E_tabIn (off := 1202) 1235 dL_law_33 (by rw [c23]; decide) (by rw [c23]; decide) (by rw [c23]; rfl) (by decide) ?_
      exact E_lv [0, 1, 2, 3] rfl (w_L_law_1235 hs h)
    rw [if_neg c23] at h
    by_cases c24 : ((X.2 x3.toNatClampNeg) &&& (63 : Int32)) = 24
    · rw [if_pos c24] at h
      refine E_tabIn (off := 1245) 1278 dL_law_33 (by rw [c24]; decide) (by rw [c24]; decide) (by rw [c24]; rfl) (by decide) ?_
      exact E_lv [0, 1, 2, 3] rfl (w_L_law_1278 hs h)
    rw [if_neg c24] at h
    by_cases c25 : ((X.2 x3.toNatClampNeg) &&& (63 : Int32)) = 25
    · rw [if_pos c25] at h
      refine E_tabIn (off := 1278) 1311 dL_law_33 (by rw [c25]; decide) (by rw [c25]; decide) (by rw [c25]; rfl) (by decide) ?_
      exact E_lv [0, 1, 2, 3] rfl (w_L_law_1311 hs h)
    rw [if_neg c25] at h
    by_cases c26 : ((X.2 x3.toNatClampNeg) &&& (63 : Int32)) = 26
    · rw [if_pos c26] at h
      refine E_tabIn (off := 1321) 1354 dL_law_33 (by rw [c26]; decide) (by rw [c26]; decide) (by rw [c26]; rfl) (by decide) ?_
      exact E_lv [0, 1, 2, 3] rfl (w_L_law_1354 hs h)
    rw [if_neg c26] at h
    by_cases c27 : ((X.2 x3.toNatClampNeg) &&& (63 : Int32)) = 27
    · rw [if_pos c27] at h
      refine E_tabIn (off := 1374) 1407 dL_law_33 (by rw [c27]; decide) (by rw [c27]; decide) (by rw [c27]; rfl) (by decide) ?_
      exact E_lv [0, 1, 2, 3] rfl (w_L_law_1407 hs h)
    rw [if_neg c27] at h
    by_cases c28 : ((X.2 x3.toNatClampNeg) &&& (63 : Int32)) = 28
    · rw [if_pos c28] at h
      refine E_tabIn (off := 1427) 1460 dL_law_33 (by rw [c28]; decide) (by rw [c28]; decide) (by rw [c28]; rfl) (by decide) ?_
      exact E_lv [0, 1, 2, 3] rfl (w_L_law_1460 hs h)
    rw [if_neg c28] at h
    by_cases c29 : ((X.2 x3.toNatClampNeg) &&& (63 : Int32)) = 29
    · rw [if_pos c29] at h
      refine E_tabIn (off := 1450) 1483 dL_law_33 (by rw [c29]; decide) (by rw [c29]; decide) (by rw [c29]; rfl) (by decide) ?_
      exact E_lv [0, 1, 2, 3] rfl (w_L_law_1483 hs h)
    rw [if_neg c29] at h
    by_cases c30 : ((X.2 x3.toNatClampNeg) &&& (63 : Int32)) = 30
    · rw [if_pos c30] at h
      refine E_tabIn (off := 1493) 1526 dL_law_33 (by rw [c30]; decide) (by rw [c30]; decide) (by rw [c30]; rfl) (by decide) ?_
      exact E_lv [0, 1, 2, 3] rfl (w_L_law_1526 hs h)
    rw [if_neg c30] at h
    by_cases c31 : ((X.2 x3.toNatClampNeg) &&& (63 : Int32)) = 31
    · rw [if_pos c31] at h
      refine E_tabIn (off := 1526) 1559 dL_law_33 (by rw [c31]; decide) (by rw [c31]; decide) (by rw [c31]; rfl) (by decide) ?_
      exact E_lv [0, 1, 2, 3] rfl (w_L_law_1559 hs h)
    rw [if_neg c31] at h
    by_cases c32 : ((X.2 x3.toNatClampNeg) &&& (63 : Int32)) = 32
    · rw [if_pos c32] at h
      refine E_tabIn (off := 1569) 1602 dL_law_33 (by rw [c32]; decide) (by rw [c32]; decide) (by rw [c32]; rfl) (by decide) ?_
      exact E_lv [0, 1, 2, 3] rfl (w_L_law_1602 hs h)
    rw [if_neg c32] at h
    by_cases c33 : ((X.2 x3.toNatClampNeg) &&& (63 : Int32)) = 33
    · rw [if_pos c33] at h
      refine E_tabIn (off := 1602) 1635 dL_law_33 (by rw [c33]; decide) (by rw [c33]; decide) (by rw [c33]; rfl) (by decide) ?_
      exact E_lv [0, 1, 2, 3] rfl (w_L_law_1635 hs h)
    rw [if_neg c33] at h
    by_cases c34 : ((X.2 x3.toNatClampNeg) &&& (63 : Int32)) = 34
    · rw [if_pos c34] at h
      refine E_tabIn (off := 1645) 1678 dL_law_33 (by rw [c34]; decide) (by rw [c34]; decide) (by rw [c34]; rfl) (by decide) ?_
      exact E_lv [0, 1, 2, 3] rfl (w_L_law_1678 hs h)
    rw [if_neg c34] at h
    by_cases c35 : ((X.2 x3.toNatClampNeg) &&& (63 : Int32)) = 35
    · rw [if_pos c35] at h
      refine E_tabIn (off := 1698) 1731 dL_law_33 (by rw [c35]; decide) (by rw [c35]; decide) (by rw [c35]; rfl) (by decide) ?_
      exact E_lv [0, 1, 2, 3] rfl (w_L_law_1731 hs h)
    rw [if_neg c35] at h
    by_cases c36 : ((X.2 x3.toNatClampNeg) &&& (63 : Int32)) = 36
    · rw [if_pos c36] at h
      refine E_tabIn (off := 1731) 1764 dL_law_33 (by rw [c36]; decide) (by rw [c36]; decide) (by rw [c36]; rfl) (by decide) ?_
      exact E_lv [0, 1, 2, 3] rfl (w_L_law_1764 hs h)
    rw [if_neg c36] at h
    by_cases c37 : ((X.2 x3.toNatClampNeg) &&& (63 : Int32)) = 37
    · rw [if_pos c37] at h
      refine E_tabIn (off := 1774) 1807 dL_law_33 (by rw [c37]; decide) (by rw [c37]; decide) (by rw [c37]; rfl) (by decide) ?_
      exact E_lv [0, 1, 2, 3] rfl (w_L_law_1807 hs h)
    rw [if_neg c37] at h
    by_cases c38 : ((X.2 x3.toNatClampNeg) &&& (63 : Int32)) = 38
    · rw [if_pos c38] at h
      refine E_tabIn (off := 1827) 1860 dL_law_33 (by rw [c38]; decide) (by rw [c38]; decide) (by rw [c38]; rfl) (by decide) ?_
      exact E_lv [0, 1, 2, 3] rfl (w_L_law_1860 hs h)
    rw [if_neg c38] at h
    by_cases c39 : ((X.2 x3.toNatClampNeg) &&& (63 : Int32)) = 39
    · rw [if_pos c39] at h
      refine E_tabIn (off := 1880) 1913 dL_law_33 (by rw [c39]; decide) (by rw [c39]; decide) (by rw [c39]; rfl) (by decide) ?_
      exact E_lv [0, 1, 2, 3] rfl (w_L_law_1913 hs h)
    rw [if_neg c39] at h
    by_cases c40 : ((X.2 x3.toNatClampNeg) &&& (63 : Int32)) = 40
    · rw [if_pos c40] at h
      refine E_tabIn (off := 1923) 1956 dL_law_33 (by rw [c40]; decide) (by rw [c40]; decide) (by rw [c40]; rfl) (by decide) ?_
      exact E_lv [0, 1, 2, 3] rfl (w_L_law_1956 hs h)
    rw [if_neg c40] at h
    by_cases c41 : ((X.2 x3.toNatClampNeg) &&& (63 : Int32)) = 41
    · rw [if_pos c41] at h
      refine E_tabIn (off := 1946) 1979 dL_law_33 (by rw [c41]; decide) (by rw [c41]; decide) (by rw [c41]; rfl) (by decide) ?_
      exact E_lv [0, 1, 2, 3] rfl (w_L_law_1979 hs h)
    rw [if_neg c41] at h
    by_cases c42 : ((X.2 x3.toNatClampNeg) &&& (63 : Int32)) = 42
    · rw [if_pos c42] at h
      refine E_tabIn (off := 1969) 2002 dL_law_33 (by rw [c42]; decide) (by rw [c42]; decide) (by rw [c42]; rfl) (by decide) ?_
      exact E_lv [0, 1, 2, 3] rfl (w_L_law_2002 hs h)
    rw [if_neg c42] at h
    by_cases c43 : ((X.2 x3.toNatClampNeg) &&& (63 : Int32)) = 43
    · rw [if_pos c43] at h
      refine E_tabIn (off := 1992) 2025 dL_law_33 (by rw [c43]; decide) (by rw [c43]; decide) (by rw [c43]; rfl) (by decide) ?_
      exact E_lv [0, 1, 2, 3] rfl (w_L_law_2025 hs h)
    rw [if_neg c43] at h
    refine E_tabOut 2038 dL_law_33 (i32_out (x := ((X.2 x3.toNatClampNeg) &&& (63 : Int32))) 0 43 (fun k h1 h2 => by
        rcases (show k = 0 ∨ k = 1 ∨ k = 2 ∨ k = 3 ∨ k = 4 ∨ k = 5 ∨ k = 6 ∨ k = 7 ∨ k = 8 ∨ k = 9 ∨ k = 10 ∨ k = 11 ∨ k = 12 ∨ k = 13 ∨ k = 14 ∨ k = 15 ∨ k = 16 ∨ k = 17 ∨ k = 18 ∨ k = 19 ∨ k = 20 ∨ k = 21 ∨ k = 22 ∨ k = 23 ∨ k = 24 ∨ k = 25 ∨ k = 26 ∨ k = 27 ∨ k = 28 ∨ k = 29 ∨ k = 30 ∨ k = 31 ∨ k = 32 ∨ k = 33 ∨ k = 34 ∨ k = 35 ∨ k = 36 ∨ k = 37 ∨ k = 38 ∨ k = 39 ∨ k = 40 ∨ k = 41 ∨ k = 42 ∨ k = 43 by omega) with rfl | rfl | rfl | rfl | rfl | rfl | rfl | rfl | rfl | rfl | rfl | rfl | rfl | rfl | rfl | rfl | rfl | rfl | rfl | rfl | rfl | rfl | rfl | rfl | rfl | rfl | rfl | rfl | rfl | rfl | rfl | rfl | rfl | rfl | rfl | rfl | rfl | rfl | rfl | rfl | rfl | rfl | rfl | rfl
        · exact c0
        · exact c1
        · exact c2
        · exact c3
        · exact c4
        · exact c5
        · exact c6
        · exact c7
        · exact c8
        · exact c9
        · exact c10
        · exact c11
        · exact c12
        · exact c13
        · exact c14
        · exact c15
        · exact c16
        · exact c17
        · exact c18
        · exact c19
        · exact c20
        · exact c21
        · exact c22
        · exact c23
        · exact c24
        · exact c25
        · exact c26
        · exact c27
        · exact c28
        · exact c29
        · exact c30
        · exact c31
        · exact c32
        · exact c33
        · exact c34
        · exact c35
        · exact c36
        · exact c37
        · exact c38
        · exact c39
        · exact c40
        · exact c41
        · exact c42
        · exact c43
        )) (by decide) ?_
    exact E_lv [0, 1, 2, 3] rfl (w_L_law_2038 hs h)
end
