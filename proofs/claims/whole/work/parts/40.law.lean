theorem dL_law_0 : decode cL_law 0 = .ok (.new 7, 3) := by decide +kernel
theorem dL_law_3 : decode cL_law 3 = .ok (.dup, 1) := by decide +kernel
theorem dL_law_4 : decode cL_law 4 = .ok (.invokespecial 9, 3) := by decide +kernel
theorem dL_law_7 : decode cL_law 7 = .ok (.astore_n 1, 1) := by decide +kernel
theorem dL_law_8 : decode cL_law 8 = .ok (.new 10, 3) := by decide +kernel
theorem dL_law_11 : decode cL_law 11 = .ok (.dup, 1) := by decide +kernel
theorem dL_law_12 : decode cL_law 12 = .ok (.invokespecial 12, 3) := by decide +kernel
theorem dL_law_15 : decode cL_law 15 = .ok (.astore_n 2, 1) := by decide +kernel
theorem dL_law_16 : decode cL_law 16 = .ok (.iconst 0, 1) := by decide +kernel
theorem dL_law_17 : decode cL_law 17 = .ok (.istore_n 3, 1) := by decide +kernel
theorem dL_law_18 : decode cL_law 18 = .ok (.iload_n 3, 1) := by decide +kernel
theorem dL_law_19 : decode cL_law 19 = .ok (.aload_n 0, 1) := by decide +kernel
theorem dL_law_20 : decode cL_law 20 = .ok (.arraylength, 1) := by decide +kernel
theorem dL_law_21 : decode cL_law 21 = .ok (.bipush 9, 2) := by decide +kernel
theorem dL_law_23 : decode cL_law 23 = .ok (.isub, 1) := by decide +kernel
theorem dL_law_24 : decode cL_law 24 = .ok (.if_icmp .gt 2020, 3) := by decide +kernel
theorem dL_law_27 : decode cL_law 27 = .ok (.aload_n 0, 1) := by decide +kernel
theorem dL_law_28 : decode cL_law 28 = .ok (.iload_n 3, 1) := by decide +kernel
theorem dL_law_29 : decode cL_law 29 = .ok (.iaload, 1) := by decide +kernel
theorem dL_law_30 : decode cL_law 30 = .ok (.bipush 63, 2) := by decide +kernel
theorem dL_law_32 : decode cL_law 32 = .ok (.iand, 1) := by decide +kernel
theorem dL_law_33 : decode cL_law 33 = .ok (.tableswitch 2005 0 43 #[191, 254, 277, 310, 323, 376, 419, 494, 547, 646, 699, 752, 795, 848, 901, 944, 977, 1000, 1013, 1036, 1059, 1082, 1115, 1202, 1245, 1278, 1321, 1374, 1427, 1450, 1493, 1526, 1569, 1602, 1645, 1698, 1731, 1774, 1827, 1880, 1923, 1946, 1969, 1992], 191) := by decide +kernel
theorem dL_law_224 : decode cL_law 224 = .ok (.aload_n 1, 1) := by decide +kernel
theorem dL_law_225 : decode cL_law 225 = .ok (.aload_n 0, 1) := by decide +kernel
theorem dL_law_226 : decode cL_law 226 = .ok (.iload_n 3, 1) := by decide +kernel
theorem dL_law_227 : decode cL_law 227 = .ok (.iconst 1, 1) := by decide +kernel
theorem dL_law_228 : decode cL_law 228 = .ok (.iadd, 1) := by decide +kernel
theorem dL_law_229 : decode cL_law 229 = .ok (.iaload, 1) := by decide +kernel
theorem dL_law_230 : decode cL_law 230 = .ok (.aload_n 0, 1) := by decide +kernel
theorem dL_law_231 : decode cL_law 231 = .ok (.iload_n 3, 1) := by decide +kernel
theorem dL_law_232 : decode cL_law 232 = .ok (.iconst 2, 1) := by decide +kernel
theorem dL_law_233 : decode cL_law 233 = .ok (.iadd, 1) := by decide +kernel
theorem dL_law_234 : decode cL_law 234 = .ok (.iaload, 1) := by decide +kernel
theorem dL_law_235 : decode cL_law 235 = .ok (.aload_n 0, 1) := by decide +kernel
theorem dL_law_236 : decode cL_law 236 = .ok (.iload_n 3, 1) := by decide +kernel
theorem dL_law_237 : decode cL_law 237 = .ok (.iconst 3, 1) := by decide +kernel
theorem dL_law_238 : decode cL_law 238 = .ok (.iadd, 1) := by decide +kernel
theorem dL_law_239 : decode cL_law 239 = .ok (.iaload, 1) := by decide +kernel
theorem dL_law_240 : decode cL_law 240 = .ok (.aload_n 0, 1) := by decide +kernel
theorem dL_law_241 : decode cL_law 241 = .ok (.iload_n 3, 1) := by decide +kernel
theorem dL_law_242 : decode cL_law 242 = .ok (.iconst 4, 1) := by decide +kernel
theorem dL_law_243 : decode cL_law 243 = .ok (.iadd, 1) := by decide +kernel
theorem dL_law_244 : decode cL_law 244 = .ok (.iaload, 1) := by decide +kernel
theorem dL_law_245 : decode cL_law 245 = .ok (.aload_n 0, 1) := by decide +kernel
theorem dL_law_246 : decode cL_law 246 = .ok (.iload_n 3, 1) := by decide +kernel
theorem dL_law_247 : decode cL_law 247 = .ok (.iconst 5, 1) := by decide +kernel
theorem dL_law_248 : decode cL_law 248 = .ok (.iadd, 1) := by decide +kernel
theorem dL_law_249 : decode cL_law 249 = .ok (.iaload, 1) := by decide +kernel
theorem dL_law_250 : decode cL_law 250 = .ok (.invokevirtual 13, 3) := by decide +kernel
theorem dL_law_253 : decode cL_law 253 = .ok (.aload_n 2, 1) := by decide +kernel
theorem dL_law_254 : decode cL_law 254 = .ok (.aload_n 0, 1) := by decide +kernel
theorem dL_law_255 : decode cL_law 255 = .ok (.iload_n 3, 1) := by decide +kernel
theorem dL_law_256 : decode cL_law 256 = .ok (.iconst 1, 1) := by decide +kernel
theorem dL_law_257 : decode cL_law 257 = .ok (.iadd, 1) := by decide +kernel
theorem dL_law_258 : decode cL_law 258 = .ok (.iaload, 1) := by decide +kernel
theorem dL_law_259 : decode cL_law 259 = .ok (.aload_n 0, 1) := by decide +kernel
theorem dL_law_260 : decode cL_law 260 = .ok (.iload_n 3, 1) := by decide +kernel
theorem dL_law_261 : decode cL_law 261 = .ok (.iconst 2, 1) := by decide +kernel
theorem dL_law_262 : decode cL_law 262 = .ok (.iadd, 1) := by decide +kernel
theorem dL_law_263 : decode cL_law 263 = .ok (.iaload, 1) := by decide +kernel
theorem dL_law_264 : decode cL_law 264 = .ok (.aload_n 0, 1) := by decide +kernel
theorem dL_law_265 : decode cL_law 265 = .ok (.iload_n 3, 1) := by decide +kernel
theorem dL_law_266 : decode cL_law 266 = .ok (.iconst 3, 1) := by decide +kernel
theorem dL_law_267 : decode cL_law 267 = .ok (.iadd, 1) := by decide +kernel
theorem dL_law_268 : decode cL_law 268 = .ok (.iaload, 1) := by decide +kernel
theorem dL_law_269 : decode cL_law 269 = .ok (.aload_n 0, 1) := by decide +kernel
theorem dL_law_270 : decode cL_law 270 = .ok (.iload_n 3, 1) := by decide +kernel
theorem dL_law_271 : decode cL_law 271 = .ok (.iconst 4, 1) := by decide +kernel
theorem dL_law_272 : decode cL_law 272 = .ok (.iadd, 1) := by decide +kernel
theorem dL_law_273 : decode cL_law 273 = .ok (.iaload, 1) := by decide +kernel
theorem dL_law_274 : decode cL_law 274 = .ok (.aload_n 0, 1) := by decide +kernel
theorem dL_law_275 : decode cL_law 275 = .ok (.iload_n 3, 1) := by decide +kernel
theorem dL_law_276 : decode cL_law 276 = .ok (.iconst 5, 1) := by decide +kernel
theorem dL_law_277 : decode cL_law 277 = .ok (.iadd, 1) := by decide +kernel
theorem dL_law_278 : decode cL_law 278 = .ok (.iaload, 1) := by decide +kernel
theorem dL_law_279 : decode cL_law 279 = .ok (.invokevirtual 17, 3) := by decide +kernel
theorem dL_law_282 : decode cL_law 282 = .ok (.if_icmp .eq 1756, 3) := by decide +kernel
theorem dL_law_285 : decode cL_law 285 = .ok (.iconst 0, 1) := by decide +kernel
theorem dL_law_286 : decode cL_law 286 = .ok (.ireturn, 1) := by decide +kernel
theorem dL_law_287 : decode cL_law 287 = .ok (.aload_n 1, 1) := by decide +kernel
theorem dL_law_288 : decode cL_law 288 = .ok (.aload_n 0, 1) := by decide +kernel
theorem dL_law_289 : decode cL_law 289 = .ok (.iload_n 3, 1) := by decide +kernel
theorem dL_law_290 : decode cL_law 290 = .ok (.iconst 1, 1) := by decide +kernel
theorem dL_law_291 : decode cL_law 291 = .ok (.iadd, 1) := by decide +kernel
theorem dL_law_292 : decode cL_law 292 = .ok (.iaload, 1) := by decide +kernel
theorem dL_law_293 : decode cL_law 293 = .ok (.invokevirtual 18, 3) := by decide +kernel
theorem dL_law_296 : decode cL_law 296 = .ok (.aload_n 2, 1) := by decide +kernel
theorem dL_law_297 : decode cL_law 297 = .ok (.aload_n 0, 1) := by decide +kernel
theorem dL_law_298 : decode cL_law 298 = .ok (.iload_n 3, 1) := by decide +kernel
theorem dL_law_299 : decode cL_law 299 = .ok (.iconst 1, 1) := by decide +kernel
theorem dL_law_300 : decode cL_law 300 = .ok (.iadd, 1) := by decide +kernel
theorem dL_law_301 : decode cL_law 301 = .ok (.iaload, 1) := by decide +kernel
theorem dL_law_302 : decode cL_law 302 = .ok (.invokevirtual 22, 3) := by decide +kernel
theorem dL_law_305 : decode cL_law 305 = .ok (.if_icmp .eq 1733, 3) := by decide +kernel
theorem dL_law_308 : decode cL_law 308 = .ok (.iconst 0, 1) := by decide +kernel
theorem dL_law_309 : decode cL_law 309 = .ok (.ireturn, 1) := by decide +kernel
theorem dL_law_310 : decode cL_law 310 = .ok (.aload_n 1, 1) := by decide +kernel
theorem dL_law_311 : decode cL_law 311 = .ok (.aload_n 0, 1) := by decide +kernel
theorem dL_law_312 : decode cL_law 312 = .ok (.iload_n 3, 1) := by decide +kernel
theorem dL_law_313 : decode cL_law 313 = .ok (.iconst 1, 1) := by decide +kernel
theorem dL_law_314 : decode cL_law 314 = .ok (.iadd, 1) := by decide +kernel
theorem dL_law_315 : decode cL_law 315 = .ok (.iaload, 1) := by decide +kernel
theorem dL_law_316 : decode cL_law 316 = .ok (.aload_n 0, 1) := by decide +kernel
theorem dL_law_317 : decode cL_law 317 = .ok (.iload_n 3, 1) := by decide +kernel
theorem dL_law_318 : decode cL_law 318 = .ok (.iconst 2, 1) := by decide +kernel
theorem dL_law_319 : decode cL_law 319 = .ok (.iadd, 1) := by decide +kernel
theorem dL_law_320 : decode cL_law 320 = .ok (.iaload, 1) := by decide +kernel
theorem dL_law_321 : decode cL_law 321 = .ok (.invokevirtual 23, 3) := by decide +kernel
theorem dL_law_324 : decode cL_law 324 = .ok (.aload_n 2, 1) := by decide +kernel
theorem dL_law_325 : decode cL_law 325 = .ok (.aload_n 0, 1) := by decide +kernel
theorem dL_law_326 : decode cL_law 326 = .ok (.iload_n 3, 1) := by decide +kernel
theorem dL_law_327 : decode cL_law 327 = .ok (.iconst 1, 1) := by decide +kernel
theorem dL_law_328 : decode cL_law 328 = .ok (.iadd, 1) := by decide +kernel
theorem dL_law_329 : decode cL_law 329 = .ok (.iaload, 1) := by decide +kernel
theorem dL_law_330 : decode cL_law 330 = .ok (.aload_n 0, 1) := by decide +kernel
theorem dL_law_331 : decode cL_law 331 = .ok (.iload_n 3, 1) := by decide +kernel
theorem dL_law_332 : decode cL_law 332 = .ok (.iconst 2, 1) := by decide +kernel
theorem dL_law_333 : decode cL_law 333 = .ok (.iadd, 1) := by decide +kernel
theorem dL_law_334 : decode cL_law 334 = .ok (.iaload, 1) := by decide +kernel
theorem dL_law_335 : decode cL_law 335 = .ok (.invokevirtual 27, 3) := by decide +kernel
theorem dL_law_338 : decode cL_law 338 = .ok (.if_icmp .eq 1700, 3) := by decide +kernel
theorem dL_law_341 : decode cL_law 341 = .ok (.iconst 0, 1) := by decide +kernel
theorem dL_law_342 : decode cL_law 342 = .ok (.ireturn, 1) := by decide +kernel
theorem dL_law_343 : decode cL_law 343 = .ok (.aload_n 1, 1) := by decide +kernel
theorem dL_law_344 : decode cL_law 344 = .ok (.invokevirtual 28, 3) := by decide +kernel
theorem dL_law_347 : decode cL_law 347 = .ok (.aload_n 2, 1) := by decide +kernel
theorem dL_law_348 : decode cL_law 348 = .ok (.invokevirtual 32, 3) := by decide +kernel
theorem dL_law_351 : decode cL_law 351 = .ok (.if_icmp .eq 1687, 3) := by decide +kernel
theorem dL_law_354 : decode cL_law 354 = .ok (.iconst 0, 1) := by decide +kernel
theorem dL_law_355 : decode cL_law 355 = .ok (.ireturn, 1) := by decide +kernel
theorem dL_law_356 : decode cL_law 356 = .ok (.aload_n 1, 1) := by decide +kernel
theorem dL_law_357 : decode cL_law 357 = .ok (.aload_n 0, 1) := by decide +kernel
theorem dL_law_358 : decode cL_law 358 = .ok (.iload_n 3, 1) := by decide +kernel
theorem dL_law_359 : decode cL_law 359 = .ok (.iconst 1, 1) := by decide +kernel
theorem dL_law_360 : decode cL_law 360 = .ok (.iadd, 1) := by decide +kernel
theorem dL_law_361 : decode cL_law 361 = .ok (.iaload, 1) := by decide +kernel
theorem dL_law_362 : decode cL_law 362 = .ok (.aload_n 0, 1) := by decide +kernel
theorem dL_law_363 : decode cL_law 363 = .ok (.iload_n 3, 1) := by decide +kernel
theorem dL_law_364 : decode cL_law 364 = .ok (.iconst 2, 1) := by decide +kernel
theorem dL_law_365 : decode cL_law 365 = .ok (.iadd, 1) := by decide +kernel
theorem dL_law_366 : decode cL_law 366 = .ok (.iaload, 1) := by decide +kernel
theorem dL_law_367 : decode cL_law 367 = .ok (.aload_n 0, 1) := by decide +kernel
theorem dL_law_368 : decode cL_law 368 = .ok (.iload_n 3, 1) := by decide +kernel
theorem dL_law_369 : decode cL_law 369 = .ok (.iconst 3, 1) := by decide +kernel
theorem dL_law_370 : decode cL_law 370 = .ok (.iadd, 1) := by decide +kernel
theorem dL_law_371 : decode cL_law 371 = .ok (.iaload, 1) := by decide +kernel
theorem dL_law_372 : decode cL_law 372 = .ok (.aload_n 0, 1) := by decide +kernel
theorem dL_law_373 : decode cL_law 373 = .ok (.iload_n 3, 1) := by decide +kernel
theorem dL_law_374 : decode cL_law 374 = .ok (.iconst 4, 1) := by decide +kernel
theorem dL_law_375 : decode cL_law 375 = .ok (.iadd, 1) := by decide +kernel
theorem dL_law_376 : decode cL_law 376 = .ok (.iaload, 1) := by decide +kernel
theorem dL_law_377 : decode cL_law 377 = .ok (.invokevirtual 33, 3) := by decide +kernel
theorem dL_law_380 : decode cL_law 380 = .ok (.aload_n 2, 1) := by decide +kernel
theorem dL_law_381 : decode cL_law 381 = .ok (.aload_n 0, 1) := by decide +kernel
theorem dL_law_382 : decode cL_law 382 = .ok (.iload_n 3, 1) := by decide +kernel
theorem dL_law_383 : decode cL_law 383 = .ok (.iconst 1, 1) := by decide +kernel
theorem dL_law_384 : decode cL_law 384 = .ok (.iadd, 1) := by decide +kernel
theorem dL_law_385 : decode cL_law 385 = .ok (.iaload, 1) := by decide +kernel
theorem dL_law_386 : decode cL_law 386 = .ok (.aload_n 0, 1) := by decide +kernel
theorem dL_law_387 : decode cL_law 387 = .ok (.iload_n 3, 1) := by decide +kernel
theorem dL_law_388 : decode cL_law 388 = .ok (.iconst 2, 1) := by decide +kernel
theorem dL_law_389 : decode cL_law 389 = .ok (.iadd, 1) := by decide +kernel
theorem dL_law_390 : decode cL_law 390 = .ok (.iaload, 1) := by decide +kernel
theorem dL_law_391 : decode cL_law 391 = .ok (.aload_n 0, 1) := by decide +kernel
theorem dL_law_392 : decode cL_law 392 = .ok (.iload_n 3, 1) := by decide +kernel
theorem dL_law_393 : decode cL_law 393 = .ok (.iconst 3, 1) := by decide +kernel
theorem dL_law_394 : decode cL_law 394 = .ok (.iadd, 1) := by decide +kernel
theorem dL_law_395 : decode cL_law 395 = .ok (.iaload, 1) := by decide +kernel
theorem dL_law_396 : decode cL_law 396 = .ok (.aload_n 0, 1) := by decide +kernel
theorem dL_law_397 : decode cL_law 397 = .ok (.iload_n 3, 1) := by decide +kernel
theorem dL_law_398 : decode cL_law 398 = .ok (.iconst 4, 1) := by decide +kernel
theorem dL_law_399 : decode cL_law 399 = .ok (.iadd, 1) := by decide +kernel
theorem dL_law_400 : decode cL_law 400 = .ok (.iaload, 1) := by decide +kernel
theorem dL_law_401 : decode cL_law 401 = .ok (.invokevirtual 37, 3) := by decide +kernel
theorem dL_law_404 : decode cL_law 404 = .ok (.if_icmp .eq 1634, 3) := by decide +kernel
theorem dL_law_407 : decode cL_law 407 = .ok (.iconst 0, 1) := by decide +kernel
theorem dL_law_408 : decode cL_law 408 = .ok (.ireturn, 1) := by decide +kernel
theorem dL_law_409 : decode cL_law 409 = .ok (.aload_n 1, 1) := by decide +kernel
theorem dL_law_410 : decode cL_law 410 = .ok (.aload_n 0, 1) := by decide +kernel
theorem dL_law_411 : decode cL_law 411 = .ok (.iload_n 3, 1) := by decide +kernel
theorem dL_law_412 : decode cL_law 412 = .ok (.iconst 1, 1) := by decide +kernel
theorem dL_law_413 : decode cL_law 413 = .ok (.iadd, 1) := by decide +kernel
theorem dL_law_414 : decode cL_law 414 = .ok (.iaload, 1) := by decide +kernel
theorem dL_law_415 : decode cL_law 415 = .ok (.aload_n 0, 1) := by decide +kernel
theorem dL_law_416 : decode cL_law 416 = .ok (.iload_n 3, 1) := by decide +kernel
theorem dL_law_417 : decode cL_law 417 = .ok (.iconst 2, 1) := by decide +kernel
theorem dL_law_418 : decode cL_law 418 = .ok (.iadd, 1) := by decide +kernel
theorem dL_law_419 : decode cL_law 419 = .ok (.iaload, 1) := by decide +kernel
theorem dL_law_420 : decode cL_law 420 = .ok (.aload_n 0, 1) := by decide +kernel
theorem dL_law_421 : decode cL_law 421 = .ok (.iload_n 3, 1) := by decide +kernel
theorem dL_law_422 : decode cL_law 422 = .ok (.iconst 3, 1) := by decide +kernel
theorem dL_law_423 : decode cL_law 423 = .ok (.iadd, 1) := by decide +kernel
theorem dL_law_424 : decode cL_law 424 = .ok (.iaload, 1) := by decide +kernel
theorem dL_law_425 : decode cL_law 425 = .ok (.invokevirtual 38, 3) := by decide +kernel
theorem dL_law_428 : decode cL_law 428 = .ok (.aload_n 2, 1) := by decide +kernel
theorem dL_law_429 : decode cL_law 429 = .ok (.aload_n 0, 1) := by decide +kernel
theorem dL_law_430 : decode cL_law 430 = .ok (.iload_n 3, 1) := by decide +kernel
theorem dL_law_431 : decode cL_law 431 = .ok (.iconst 1, 1) := by decide +kernel
theorem dL_law_432 : decode cL_law 432 = .ok (.iadd, 1) := by decide +kernel
theorem dL_law_433 : decode cL_law 433 = .ok (.iaload, 1) := by decide +kernel
theorem dL_law_434 : decode cL_law 434 = .ok (.aload_n 0, 1) := by decide +kernel
theorem dL_law_435 : decode cL_law 435 = .ok (.iload_n 3, 1) := by decide +kernel
theorem dL_law_436 : decode cL_law 436 = .ok (.iconst 2, 1) := by decide +kernel
theorem dL_law_437 : decode cL_law 437 = .ok (.iadd, 1) := by decide +kernel
theorem dL_law_438 : decode cL_law 438 = .ok (.iaload, 1) := by decide +kernel
theorem dL_law_439 : decode cL_law 439 = .ok (.aload_n 0, 1) := by decide +kernel
theorem dL_law_440 : decode cL_law 440 = .ok (.iload_n 3, 1) := by decide +kernel
theorem dL_law_441 : decode cL_law 441 = .ok (.iconst 3, 1) := by decide +kernel
theorem dL_law_442 : decode cL_law 442 = .ok (.iadd, 1) := by decide +kernel
theorem dL_law_443 : decode cL_law 443 = .ok (.iaload, 1) := by decide +kernel
theorem dL_law_444 : decode cL_law 444 = .ok (.invokevirtual 42, 3) := by decide +kernel
theorem dL_law_447 : decode cL_law 447 = .ok (.if_icmp .eq 1591, 3) := by decide +kernel
theorem dL_law_450 : decode cL_law 450 = .ok (.iconst 0, 1) := by decide +kernel
theorem dL_law_451 : decode cL_law 451 = .ok (.ireturn, 1) := by decide +kernel
theorem dL_law_452 : decode cL_law 452 = .ok (.aload_n 1, 1) := by decide +kernel
theorem dL_law_453 : decode cL_law 453 = .ok (.aload_n 0, 1) := by decide +kernel
theorem dL_law_454 : decode cL_law 454 = .ok (.iload_n 3, 1) := by decide +kernel
theorem dL_law_455 : decode cL_law 455 = .ok (.iconst 1, 1) := by decide +kernel
theorem dL_law_456 : decode cL_law 456 = .ok (.iadd, 1) := by decide +kernel
theorem dL_law_457 : decode cL_law 457 = .ok (.iaload, 1) := by decide +kernel
theorem dL_law_458 : decode cL_law 458 = .ok (.aload_n 0, 1) := by decide +kernel
theorem dL_law_459 : decode cL_law 459 = .ok (.iload_n 3, 1) := by decide +kernel
theorem dL_law_460 : decode cL_law 460 = .ok (.iconst 2, 1) := by decide +kernel
theorem dL_law_461 : decode cL_law 461 = .ok (.iadd, 1) := by decide +kernel
theorem dL_law_462 : decode cL_law 462 = .ok (.iaload, 1) := by decide +kernel
theorem dL_law_463 : decode cL_law 463 = .ok (.aload_n 0, 1) := by decide +kernel
theorem dL_law_464 : decode cL_law 464 = .ok (.iload_n 3, 1) := by decide +kernel
theorem dL_law_465 : decode cL_law 465 = .ok (.iconst 3, 1) := by decide +kernel
theorem dL_law_466 : decode cL_law 466 = .ok (.iadd, 1) := by decide +kernel
theorem dL_law_467 : decode cL_law 467 = .ok (.iaload, 1) := by decide +kernel
theorem dL_law_468 : decode cL_law 468 = .ok (.aload_n 0, 1) := by decide +kernel
theorem dL_law_469 : decode cL_law 469 = .ok (.iload_n 3, 1) := by decide +kernel
theorem dL_law_470 : decode cL_law 470 = .ok (.iconst 4, 1) := by decide +kernel
theorem dL_law_471 : decode cL_law 471 = .ok (.iadd, 1) := by decide +kernel
theorem dL_law_472 : decode cL_law 472 = .ok (.iaload, 1) := by decide +kernel
theorem dL_law_473 : decode cL_law 473 = .ok (.aload_n 0, 1) := by decide +kernel
theorem dL_law_474 : decode cL_law 474 = .ok (.iload_n 3, 1) := by decide +kernel
theorem dL_law_475 : decode cL_law 475 = .ok (.iconst 5, 1) := by decide +kernel
theorem dL_law_476 : decode cL_law 476 = .ok (.iadd, 1) := by decide +kernel
theorem dL_law_477 : decode cL_law 477 = .ok (.iaload, 1) := by decide +kernel
theorem dL_law_478 : decode cL_law 478 = .ok (.aload_n 0, 1) := by decide +kernel
theorem dL_law_479 : decode cL_law 479 = .ok (.iload_n 3, 1) := by decide +kernel
theorem dL_law_480 : decode cL_law 480 = .ok (.bipush 6, 2) := by decide +kernel
theorem dL_law_482 : decode cL_law 482 = .ok (.iadd, 1) := by decide +kernel
theorem dL_law_483 : decode cL_law 483 = .ok (.iaload, 1) := by decide +kernel
theorem dL_law_484 : decode cL_law 484 = .ok (.invokevirtual 43, 3) := by decide +kernel
theorem dL_law_487 : decode cL_law 487 = .ok (.aload_n 2, 1) := by decide +kernel
theorem dL_law_488 : decode cL_law 488 = .ok (.aload_n 0, 1) := by decide +kernel
theorem dL_law_489 : decode cL_law 489 = .ok (.iload_n 3, 1) := by decide +kernel
theorem dL_law_490 : decode cL_law 490 = .ok (.iconst 1, 1) := by decide +kernel
theorem dL_law_491 : decode cL_law 491 = .ok (.iadd, 1) := by decide +kernel
theorem dL_law_492 : decode cL_law 492 = .ok (.iaload, 1) := by decide +kernel
theorem dL_law_493 : decode cL_law 493 = .ok (.aload_n 0, 1) := by decide +kernel
theorem dL_law_494 : decode cL_law 494 = .ok (.iload_n 3, 1) := by decide +kernel
theorem dL_law_495 : decode cL_law 495 = .ok (.iconst 2, 1) := by decide +kernel
theorem dL_law_496 : decode cL_law 496 = .ok (.iadd, 1) := by decide +kernel
theorem dL_law_497 : decode cL_law 497 = .ok (.iaload, 1) := by decide +kernel
theorem dL_law_498 : decode cL_law 498 = .ok (.aload_n 0, 1) := by decide +kernel
theorem dL_law_499 : decode cL_law 499 = .ok (.iload_n 3, 1) := by decide +kernel
theorem dL_law_500 : decode cL_law 500 = .ok (.iconst 3, 1) := by decide +kernel
theorem dL_law_501 : decode cL_law 501 = .ok (.iadd, 1) := by decide +kernel
theorem dL_law_502 : decode cL_law 502 = .ok (.iaload, 1) := by decide +kernel
theorem dL_law_503 : decode cL_law 503 = .ok (.aload_n 0, 1) := by decide +kernel
theorem dL_law_504 : decode cL_law 504 = .ok (.iload_n 3, 1) := by decide +kernel
theorem dL_law_505 : decode cL_law 505 = .ok (.iconst 4, 1) := by decide +kernel
theorem dL_law_506 : decode cL_law 506 = .ok (.iadd, 1) := by decide +kernel
theorem dL_law_507 : decode cL_law 507 = .ok (.iaload, 1) := by decide +kernel
theorem dL_law_508 : decode cL_law 508 = .ok (.aload_n 0, 1) := by decide +kernel
theorem dL_law_509 : decode cL_law 509 = .ok (.iload_n 3, 1) := by decide +kernel
theorem dL_law_510 : decode cL_law 510 = .ok (.iconst 5, 1) := by decide +kernel
theorem dL_law_511 : decode cL_law 511 = .ok (.iadd, 1) := by decide +kernel
theorem dL_law_512 : decode cL_law 512 = .ok (.iaload, 1) := by decide +kernel
theorem dL_law_513 : decode cL_law 513 = .ok (.aload_n 0, 1) := by decide +kernel
theorem dL_law_514 : decode cL_law 514 = .ok (.iload_n 3, 1) := by decide +kernel
theorem dL_law_515 : decode cL_law 515 = .ok (.bipush 6, 2) := by decide +kernel
theorem dL_law_517 : decode cL_law 517 = .ok (.iadd, 1) := by decide +kernel
theorem dL_law_518 : decode cL_law 518 = .ok (.iaload, 1) := by decide +kernel
theorem dL_law_519 : decode cL_law 519 = .ok (.invokevirtual 47, 3) := by decide +kernel
theorem dL_law_522 : decode cL_law 522 = .ok (.if_icmp .eq 1516, 3) := by decide +kernel
theorem dL_law_525 : decode cL_law 525 = .ok (.iconst 0, 1) := by decide +kernel
theorem dL_law_526 : decode cL_law 526 = .ok (.ireturn, 1) := by decide +kernel
theorem dL_law_527 : decode cL_law 527 = .ok (.aload_n 1, 1) := by decide +kernel
theorem dL_law_528 : decode cL_law 528 = .ok (.aload_n 0, 1) := by decide +kernel
theorem dL_law_529 : decode cL_law 529 = .ok (.iload_n 3, 1) := by decide +kernel
theorem dL_law_530 : decode cL_law 530 = .ok (.iconst 1, 1) := by decide +kernel
theorem dL_law_531 : decode cL_law 531 = .ok (.iadd, 1) := by decide +kernel
theorem dL_law_532 : decode cL_law 532 = .ok (.iaload, 1) := by decide +kernel
theorem dL_law_533 : decode cL_law 533 = .ok (.aload_n 0, 1) := by decide +kernel
theorem dL_law_534 : decode cL_law 534 = .ok (.iload_n 3, 1) := by decide +kernel
theorem dL_law_535 : decode cL_law 535 = .ok (.iconst 2, 1) := by decide +kernel
theorem dL_law_536 : decode cL_law 536 = .ok (.iadd, 1) := by decide +kernel
theorem dL_law_537 : decode cL_law 537 = .ok (.iaload, 1) := by decide +kernel
theorem dL_law_538 : decode cL_law 538 = .ok (.aload_n 0, 1) := by decide +kernel
theorem dL_law_539 : decode cL_law 539 = .ok (.iload_n 3, 1) := by decide +kernel
theorem dL_law_540 : decode cL_law 540 = .ok (.iconst 3, 1) := by decide +kernel
theorem dL_law_541 : decode cL_law 541 = .ok (.iadd, 1) := by decide +kernel
theorem dL_law_542 : decode cL_law 542 = .ok (.iaload, 1) := by decide +kernel
theorem dL_law_543 : decode cL_law 543 = .ok (.aload_n 0, 1) := by decide +kernel
theorem dL_law_544 : decode cL_law 544 = .ok (.iload_n 3, 1) := by decide +kernel
theorem dL_law_545 : decode cL_law 545 = .ok (.iconst 4, 1) := by decide +kernel
theorem dL_law_546 : decode cL_law 546 = .ok (.iadd, 1) := by decide +kernel
theorem dL_law_547 : decode cL_law 547 = .ok (.iaload, 1) := by decide +kernel
theorem dL_law_548 : decode cL_law 548 = .ok (.invokevirtual 48, 3) := by decide +kernel
theorem dL_law_551 : decode cL_law 551 = .ok (.aload_n 2, 1) := by decide +kernel
theorem dL_law_552 : decode cL_law 552 = .ok (.aload_n 0, 1) := by decide +kernel
theorem dL_law_553 : decode cL_law 553 = .ok (.iload_n 3, 1) := by decide +kernel
theorem dL_law_554 : decode cL_law 554 = .ok (.iconst 1, 1) := by decide +kernel
theorem dL_law_555 : decode cL_law 555 = .ok (.iadd, 1) := by decide +kernel
theorem dL_law_556 : decode cL_law 556 = .ok (.iaload, 1) := by decide +kernel
theorem dL_law_557 : decode cL_law 557 = .ok (.aload_n 0, 1) := by decide +kernel
theorem dL_law_558 : decode cL_law 558 = .ok (.iload_n 3, 1) := by decide +kernel
theorem dL_law_559 : decode cL_law 559 = .ok (.iconst 2, 1) := by decide +kernel
theorem dL_law_560 : decode cL_law 560 = .ok (.iadd, 1) := by decide +kernel
theorem dL_law_561 : decode cL_law 561 = .ok (.iaload, 1) := by decide +kernel
theorem dL_law_562 : decode cL_law 562 = .ok (.aload_n 0, 1) := by decide +kernel
theorem dL_law_563 : decode cL_law 563 = .ok (.iload_n 3, 1) := by decide +kernel
theorem dL_law_564 : decode cL_law 564 = .ok (.iconst 3, 1) := by decide +kernel
theorem dL_law_565 : decode cL_law 565 = .ok (.iadd, 1) := by decide +kernel
theorem dL_law_566 : decode cL_law 566 = .ok (.iaload, 1) := by decide +kernel
theorem dL_law_567 : decode cL_law 567 = .ok (.aload_n 0, 1) := by decide +kernel
theorem dL_law_568 : decode cL_law 568 = .ok (.iload_n 3, 1) := by decide +kernel
theorem dL_law_569 : decode cL_law 569 = .ok (.iconst 4, 1) := by decide +kernel
theorem dL_law_570 : decode cL_law 570 = .ok (.iadd, 1) := by decide +kernel
theorem dL_law_571 : decode cL_law 571 = .ok (.iaload, 1) := by decide +kernel
theorem dL_law_572 : decode cL_law 572 = .ok (.invokevirtual 51, 3) := by decide +kernel
theorem dL_law_575 : decode cL_law 575 = .ok (.if_icmp .eq 1463, 3) := by decide +kernel
theorem dL_law_578 : decode cL_law 578 = .ok (.iconst 0, 1) := by decide +kernel
theorem dL_law_579 : decode cL_law 579 = .ok (.ireturn, 1) := by decide +kernel
theorem dL_law_580 : decode cL_law 580 = .ok (.aload_n 1, 1) := by decide +kernel
theorem dL_law_581 : decode cL_law 581 = .ok (.aload_n 0, 1) := by decide +kernel
theorem dL_law_582 : decode cL_law 582 = .ok (.iload_n 3, 1) := by decide +kernel
theorem dL_law_583 : decode cL_law 583 = .ok (.iconst 1, 1) := by decide +kernel
theorem dL_law_584 : decode cL_law 584 = .ok (.iadd, 1) := by decide +kernel
theorem dL_law_585 : decode cL_law 585 = .ok (.iaload, 1) := by decide +kernel
theorem dL_law_586 : decode cL_law 586 = .ok (.aload_n 0, 1) := by decide +kernel
theorem dL_law_587 : decode cL_law 587 = .ok (.iload_n 3, 1) := by decide +kernel
theorem dL_law_588 : decode cL_law 588 = .ok (.iconst 2, 1) := by decide +kernel
theorem dL_law_589 : decode cL_law 589 = .ok (.iadd, 1) := by decide +kernel
theorem dL_law_590 : decode cL_law 590 = .ok (.iaload, 1) := by decide +kernel
theorem dL_law_591 : decode cL_law 591 = .ok (.aload_n 0, 1) := by decide +kernel
theorem dL_law_592 : decode cL_law 592 = .ok (.iload_n 3, 1) := by decide +kernel
theorem dL_law_593 : decode cL_law 593 = .ok (.iconst 3, 1) := by decide +kernel
theorem dL_law_594 : decode cL_law 594 = .ok (.iadd, 1) := by decide +kernel
theorem dL_law_595 : decode cL_law 595 = .ok (.iaload, 1) := by decide +kernel
theorem dL_law_596 : decode cL_law 596 = .ok (.aload_n 0, 1) := by decide +kernel
theorem dL_law_597 : decode cL_law 597 = .ok (.iload_n 3, 1) := by decide +kernel
theorem dL_law_598 : decode cL_law 598 = .ok (.iconst 4, 1) := by decide +kernel
theorem dL_law_599 : decode cL_law 599 = .ok (.iadd, 1) := by decide +kernel
theorem dL_law_600 : decode cL_law 600 = .ok (.iaload, 1) := by decide +kernel
theorem dL_law_601 : decode cL_law 601 = .ok (.aload_n 0, 1) := by decide +kernel
theorem dL_law_602 : decode cL_law 602 = .ok (.iload_n 3, 1) := by decide +kernel
theorem dL_law_603 : decode cL_law 603 = .ok (.iconst 5, 1) := by decide +kernel
theorem dL_law_604 : decode cL_law 604 = .ok (.iadd, 1) := by decide +kernel
theorem dL_law_605 : decode cL_law 605 = .ok (.iaload, 1) := by decide +kernel
theorem dL_law_606 : decode cL_law 606 = .ok (.aload_n 0, 1) := by decide +kernel
theorem dL_law_607 : decode cL_law 607 = .ok (.iload_n 3, 1) := by decide +kernel
theorem dL_law_608 : decode cL_law 608 = .ok (.bipush 6, 2) := by decide +kernel
theorem dL_law_610 : decode cL_law 610 = .ok (.iadd, 1) := by decide +kernel
theorem dL_law_611 : decode cL_law 611 = .ok (.iaload, 1) := by decide +kernel
theorem dL_law_612 : decode cL_law 612 = .ok (.aload_n 0, 1) := by decide +kernel
theorem dL_law_613 : decode cL_law 613 = .ok (.iload_n 3, 1) := by decide +kernel
theorem dL_law_614 : decode cL_law 614 = .ok (.bipush 7, 2) := by decide +kernel
theorem dL_law_616 : decode cL_law 616 = .ok (.iadd, 1) := by decide +kernel
theorem dL_law_617 : decode cL_law 617 = .ok (.iaload, 1) := by decide +kernel
theorem dL_law_618 : decode cL_law 618 = .ok (.aload_n 0, 1) := by decide +kernel
theorem dL_law_619 : decode cL_law 619 = .ok (.iload_n 3, 1) := by decide +kernel
theorem dL_law_620 : decode cL_law 620 = .ok (.bipush 8, 2) := by decide +kernel
theorem dL_law_622 : decode cL_law 622 = .ok (.iadd, 1) := by decide +kernel
theorem dL_law_623 : decode cL_law 623 = .ok (.iaload, 1) := by decide +kernel
theorem dL_law_624 : decode cL_law 624 = .ok (.invokevirtual 52, 3) := by decide +kernel
theorem dL_law_627 : decode cL_law 627 = .ok (.aload_n 2, 1) := by decide +kernel
theorem dL_law_628 : decode cL_law 628 = .ok (.aload_n 0, 1) := by decide +kernel
theorem dL_law_629 : decode cL_law 629 = .ok (.iload_n 3, 1) := by decide +kernel
theorem dL_law_630 : decode cL_law 630 = .ok (.iconst 1, 1) := by decide +kernel
theorem dL_law_631 : decode cL_law 631 = .ok (.iadd, 1) := by decide +kernel
theorem dL_law_632 : decode cL_law 632 = .ok (.iaload, 1) := by decide +kernel
theorem dL_law_633 : decode cL_law 633 = .ok (.aload_n 0, 1) := by decide +kernel
theorem dL_law_634 : decode cL_law 634 = .ok (.iload_n 3, 1) := by decide +kernel
theorem dL_law_635 : decode cL_law 635 = .ok (.iconst 2, 1) := by decide +kernel
theorem dL_law_636 : decode cL_law 636 = .ok (.iadd, 1) := by decide +kernel
theorem dL_law_637 : decode cL_law 637 = .ok (.iaload, 1) := by decide +kernel
theorem dL_law_638 : decode cL_law 638 = .ok (.aload_n 0, 1) := by decide +kernel
theorem dL_law_639 : decode cL_law 639 = .ok (.iload_n 3, 1) := by decide +kernel
theorem dL_law_640 : decode cL_law 640 = .ok (.iconst 3, 1) := by decide +kernel
theorem dL_law_641 : decode cL_law 641 = .ok (.iadd, 1) := by decide +kernel
theorem dL_law_642 : decode cL_law 642 = .ok (.iaload, 1) := by decide +kernel
theorem dL_law_643 : decode cL_law 643 = .ok (.aload_n 0, 1) := by decide +kernel
theorem dL_law_644 : decode cL_law 644 = .ok (.iload_n 3, 1) := by decide +kernel
theorem dL_law_645 : decode cL_law 645 = .ok (.iconst 4, 1) := by decide +kernel
theorem dL_law_646 : decode cL_law 646 = .ok (.iadd, 1) := by decide +kernel
theorem dL_law_647 : decode cL_law 647 = .ok (.iaload, 1) := by decide +kernel
theorem dL_law_648 : decode cL_law 648 = .ok (.aload_n 0, 1) := by decide +kernel
theorem dL_law_649 : decode cL_law 649 = .ok (.iload_n 3, 1) := by decide +kernel
theorem dL_law_650 : decode cL_law 650 = .ok (.iconst 5, 1) := by decide +kernel
theorem dL_law_651 : decode cL_law 651 = .ok (.iadd, 1) := by decide +kernel
theorem dL_law_652 : decode cL_law 652 = .ok (.iaload, 1) := by decide +kernel
theorem dL_law_653 : decode cL_law 653 = .ok (.aload_n 0, 1) := by decide +kernel
theorem dL_law_654 : decode cL_law 654 = .ok (.iload_n 3, 1) := by decide +kernel
theorem dL_law_655 : decode cL_law 655 = .ok (.bipush 6, 2) := by decide +kernel
theorem dL_law_657 : decode cL_law 657 = .ok (.iadd, 1) := by decide +kernel
theorem dL_law_658 : decode cL_law 658 = .ok (.iaload, 1) := by decide +kernel
theorem dL_law_659 : decode cL_law 659 = .ok (.aload_n 0, 1) := by decide +kernel
theorem dL_law_660 : decode cL_law 660 = .ok (.iload_n 3, 1) := by decide +kernel
theorem dL_law_661 : decode cL_law 661 = .ok (.bipush 7, 2) := by decide +kernel
theorem dL_law_663 : decode cL_law 663 = .ok (.iadd, 1) := by decide +kernel
theorem dL_law_664 : decode cL_law 664 = .ok (.iaload, 1) := by decide +kernel
theorem dL_law_665 : decode cL_law 665 = .ok (.aload_n 0, 1) := by decide +kernel
theorem dL_law_666 : decode cL_law 666 = .ok (.iload_n 3, 1) := by decide +kernel
theorem dL_law_667 : decode cL_law 667 = .ok (.bipush 8, 2) := by decide +kernel
theorem dL_law_669 : decode cL_law 669 = .ok (.iadd, 1) := by decide +kernel
theorem dL_law_670 : decode cL_law 670 = .ok (.iaload, 1) := by decide +kernel
theorem dL_law_671 : decode cL_law 671 = .ok (.invokevirtual 56, 3) := by decide +kernel
theorem dL_law_674 : decode cL_law 674 = .ok (.if_icmp .eq 1364, 3) := by decide +kernel
theorem dL_law_677 : decode cL_law 677 = .ok (.iconst 0, 1) := by decide +kernel
theorem dL_law_678 : decode cL_law 678 = .ok (.ireturn, 1) := by decide +kernel
theorem dL_law_679 : decode cL_law 679 = .ok (.aload_n 1, 1) := by decide +kernel
theorem dL_law_680 : decode cL_law 680 = .ok (.aload_n 0, 1) := by decide +kernel
theorem dL_law_681 : decode cL_law 681 = .ok (.iload_n 3, 1) := by decide +kernel
theorem dL_law_682 : decode cL_law 682 = .ok (.iconst 1, 1) := by decide +kernel
theorem dL_law_683 : decode cL_law 683 = .ok (.iadd, 1) := by decide +kernel
theorem dL_law_684 : decode cL_law 684 = .ok (.iaload, 1) := by decide +kernel
theorem dL_law_685 : decode cL_law 685 = .ok (.aload_n 0, 1) := by decide +kernel
theorem dL_law_686 : decode cL_law 686 = .ok (.iload_n 3, 1) := by decide +kernel
theorem dL_law_687 : decode cL_law 687 = .ok (.iconst 2, 1) := by decide +kernel
theorem dL_law_688 : decode cL_law 688 = .ok (.iadd, 1) := by decide +kernel
theorem dL_law_689 : decode cL_law 689 = .ok (.iaload, 1) := by decide +kernel
theorem dL_law_690 : decode cL_law 690 = .ok (.aload_n 0, 1) := by decide +kernel
theorem dL_law_691 : decode cL_law 691 = .ok (.iload_n 3, 1) := by decide +kernel
theorem dL_law_692 : decode cL_law 692 = .ok (.iconst 3, 1) := by decide +kernel
theorem dL_law_693 : decode cL_law 693 = .ok (.iadd, 1) := by decide +kernel
theorem dL_law_694 : decode cL_law 694 = .ok (.iaload, 1) := by decide +kernel
theorem dL_law_695 : decode cL_law 695 = .ok (.aload_n 0, 1) := by decide +kernel
theorem dL_law_696 : decode cL_law 696 = .ok (.iload_n 3, 1) := by decide +kernel
theorem dL_law_697 : decode cL_law 697 = .ok (.iconst 4, 1) := by decide +kernel
theorem dL_law_698 : decode cL_law 698 = .ok (.iadd, 1) := by decide +kernel
theorem dL_law_699 : decode cL_law 699 = .ok (.iaload, 1) := by decide +kernel
theorem dL_law_700 : decode cL_law 700 = .ok (.invokevirtual 57, 3) := by decide +kernel
theorem dL_law_703 : decode cL_law 703 = .ok (.aload_n 2, 1) := by decide +kernel
theorem dL_law_704 : decode cL_law 704 = .ok (.aload_n 0, 1) := by decide +kernel
theorem dL_law_705 : decode cL_law 705 = .ok (.iload_n 3, 1) := by decide +kernel
theorem dL_law_706 : decode cL_law 706 = .ok (.iconst 1, 1) := by decide +kernel
theorem dL_law_707 : decode cL_law 707 = .ok (.iadd, 1) := by decide +kernel
theorem dL_law_708 : decode cL_law 708 = .ok (.iaload, 1) := by decide +kernel
theorem dL_law_709 : decode cL_law 709 = .ok (.aload_n 0, 1) := by decide +kernel
theorem dL_law_710 : decode cL_law 710 = .ok (.iload_n 3, 1) := by decide +kernel
theorem dL_law_711 : decode cL_law 711 = .ok (.iconst 2, 1) := by decide +kernel
theorem dL_law_712 : decode cL_law 712 = .ok (.iadd, 1) := by decide +kernel
theorem dL_law_713 : decode cL_law 713 = .ok (.iaload, 1) := by decide +kernel
theorem dL_law_714 : decode cL_law 714 = .ok (.aload_n 0, 1) := by decide +kernel
theorem dL_law_715 : decode cL_law 715 = .ok (.iload_n 3, 1) := by decide +kernel
theorem dL_law_716 : decode cL_law 716 = .ok (.iconst 3, 1) := by decide +kernel
theorem dL_law_717 : decode cL_law 717 = .ok (.iadd, 1) := by decide +kernel
theorem dL_law_718 : decode cL_law 718 = .ok (.iaload, 1) := by decide +kernel
theorem dL_law_719 : decode cL_law 719 = .ok (.aload_n 0, 1) := by decide +kernel
theorem dL_law_720 : decode cL_law 720 = .ok (.iload_n 3, 1) := by decide +kernel
theorem dL_law_721 : decode cL_law 721 = .ok (.iconst 4, 1) := by decide +kernel
theorem dL_law_722 : decode cL_law 722 = .ok (.iadd, 1) := by decide +kernel
theorem dL_law_723 : decode cL_law 723 = .ok (.iaload, 1) := by decide +kernel
theorem dL_law_724 : decode cL_law 724 = .ok (.invokevirtual 60, 3) := by decide +kernel
theorem dL_law_727 : decode cL_law 727 = .ok (.if_icmp .eq 1311, 3) := by decide +kernel
theorem dL_law_730 : decode cL_law 730 = .ok (.iconst 0, 1) := by decide +kernel
theorem dL_law_731 : decode cL_law 731 = .ok (.ireturn, 1) := by decide +kernel
theorem dL_law_732 : decode cL_law 732 = .ok (.aload_n 1, 1) := by decide +kernel
theorem dL_law_733 : decode cL_law 733 = .ok (.aload_n 0, 1) := by decide +kernel
theorem dL_law_734 : decode cL_law 734 = .ok (.iload_n 3, 1) := by decide +kernel
theorem dL_law_735 : decode cL_law 735 = .ok (.iconst 1, 1) := by decide +kernel
theorem dL_law_736 : decode cL_law 736 = .ok (.iadd, 1) := by decide +kernel
theorem dL_law_737 : decode cL_law 737 = .ok (.iaload, 1) := by decide +kernel
theorem dL_law_738 : decode cL_law 738 = .ok (.aload_n 0, 1) := by decide +kernel
theorem dL_law_739 : decode cL_law 739 = .ok (.iload_n 3, 1) := by decide +kernel
theorem dL_law_740 : decode cL_law 740 = .ok (.iconst 2, 1) := by decide +kernel
theorem dL_law_741 : decode cL_law 741 = .ok (.iadd, 1) := by decide +kernel
theorem dL_law_742 : decode cL_law 742 = .ok (.iaload, 1) := by decide +kernel
theorem dL_law_743 : decode cL_law 743 = .ok (.aload_n 0, 1) := by decide +kernel
theorem dL_law_744 : decode cL_law 744 = .ok (.iload_n 3, 1) := by decide +kernel
theorem dL_law_745 : decode cL_law 745 = .ok (.iconst 3, 1) := by decide +kernel
theorem dL_law_746 : decode cL_law 746 = .ok (.iadd, 1) := by decide +kernel
theorem dL_law_747 : decode cL_law 747 = .ok (.iaload, 1) := by decide +kernel
theorem dL_law_748 : decode cL_law 748 = .ok (.aload_n 0, 1) := by decide +kernel
theorem dL_law_749 : decode cL_law 749 = .ok (.iload_n 3, 1) := by decide +kernel
theorem dL_law_750 : decode cL_law 750 = .ok (.iconst 4, 1) := by decide +kernel
theorem dL_law_751 : decode cL_law 751 = .ok (.iadd, 1) := by decide +kernel
theorem dL_law_752 : decode cL_law 752 = .ok (.iaload, 1) := by decide +kernel
theorem dL_law_753 : decode cL_law 753 = .ok (.invokevirtual 61, 3) := by decide +kernel
theorem dL_law_756 : decode cL_law 756 = .ok (.aload_n 2, 1) := by decide +kernel
theorem dL_law_757 : decode cL_law 757 = .ok (.aload_n 0, 1) := by decide +kernel
theorem dL_law_758 : decode cL_law 758 = .ok (.iload_n 3, 1) := by decide +kernel
theorem dL_law_759 : decode cL_law 759 = .ok (.iconst 1, 1) := by decide +kernel
theorem dL_law_760 : decode cL_law 760 = .ok (.iadd, 1) := by decide +kernel
theorem dL_law_761 : decode cL_law 761 = .ok (.iaload, 1) := by decide +kernel
theorem dL_law_762 : decode cL_law 762 = .ok (.aload_n 0, 1) := by decide +kernel
theorem dL_law_763 : decode cL_law 763 = .ok (.iload_n 3, 1) := by decide +kernel
theorem dL_law_764 : decode cL_law 764 = .ok (.iconst 2, 1) := by decide +kernel
theorem dL_law_765 : decode cL_law 765 = .ok (.iadd, 1) := by decide +kernel
theorem dL_law_766 : decode cL_law 766 = .ok (.iaload, 1) := by decide +kernel
theorem dL_law_767 : decode cL_law 767 = .ok (.aload_n 0, 1) := by decide +kernel
theorem dL_law_768 : decode cL_law 768 = .ok (.iload_n 3, 1) := by decide +kernel
theorem dL_law_769 : decode cL_law 769 = .ok (.iconst 3, 1) := by decide +kernel
theorem dL_law_770 : decode cL_law 770 = .ok (.iadd, 1) := by decide +kernel
theorem dL_law_771 : decode cL_law 771 = .ok (.iaload, 1) := by decide +kernel
theorem dL_law_772 : decode cL_law 772 = .ok (.aload_n 0, 1) := by decide +kernel
theorem dL_law_773 : decode cL_law 773 = .ok (.iload_n 3, 1) := by decide +kernel
theorem dL_law_774 : decode cL_law 774 = .ok (.iconst 4, 1) := by decide +kernel
theorem dL_law_775 : decode cL_law 775 = .ok (.iadd, 1) := by decide +kernel
theorem dL_law_776 : decode cL_law 776 = .ok (.iaload, 1) := by decide +kernel
theorem dL_law_777 : decode cL_law 777 = .ok (.invokevirtual 64, 3) := by decide +kernel
theorem dL_law_780 : decode cL_law 780 = .ok (.if_icmp .eq 1258, 3) := by decide +kernel
theorem dL_law_783 : decode cL_law 783 = .ok (.iconst 0, 1) := by decide +kernel
theorem dL_law_784 : decode cL_law 784 = .ok (.ireturn, 1) := by decide +kernel
theorem dL_law_785 : decode cL_law 785 = .ok (.aload_n 1, 1) := by decide +kernel
theorem dL_law_786 : decode cL_law 786 = .ok (.aload_n 0, 1) := by decide +kernel
theorem dL_law_787 : decode cL_law 787 = .ok (.iload_n 3, 1) := by decide +kernel
theorem dL_law_788 : decode cL_law 788 = .ok (.iconst 1, 1) := by decide +kernel
theorem dL_law_789 : decode cL_law 789 = .ok (.iadd, 1) := by decide +kernel
theorem dL_law_790 : decode cL_law 790 = .ok (.iaload, 1) := by decide +kernel
theorem dL_law_791 : decode cL_law 791 = .ok (.aload_n 0, 1) := by decide +kernel
theorem dL_law_792 : decode cL_law 792 = .ok (.iload_n 3, 1) := by decide +kernel
theorem dL_law_793 : decode cL_law 793 = .ok (.iconst 2, 1) := by decide +kernel
theorem dL_law_794 : decode cL_law 794 = .ok (.iadd, 1) := by decide +kernel
theorem dL_law_795 : decode cL_law 795 = .ok (.iaload, 1) := by decide +kernel
theorem dL_law_796 : decode cL_law 796 = .ok (.aload_n 0, 1) := by decide +kernel
theorem dL_law_797 : decode cL_law 797 = .ok (.iload_n 3, 1) := by decide +kernel
theorem dL_law_798 : decode cL_law 798 = .ok (.iconst 3, 1) := by decide +kernel
theorem dL_law_799 : decode cL_law 799 = .ok (.iadd, 1) := by decide +kernel
theorem dL_law_800 : decode cL_law 800 = .ok (.iaload, 1) := by decide +kernel
theorem dL_law_801 : decode cL_law 801 = .ok (.invokevirtual 65, 3) := by decide +kernel
theorem dL_law_804 : decode cL_law 804 = .ok (.aload_n 2, 1) := by decide +kernel
theorem dL_law_805 : decode cL_law 805 = .ok (.aload_n 0, 1) := by decide +kernel
theorem dL_law_806 : decode cL_law 806 = .ok (.iload_n 3, 1) := by decide +kernel
theorem dL_law_807 : decode cL_law 807 = .ok (.iconst 1, 1) := by decide +kernel
theorem dL_law_808 : decode cL_law 808 = .ok (.iadd, 1) := by decide +kernel
theorem dL_law_809 : decode cL_law 809 = .ok (.iaload, 1) := by decide +kernel
theorem dL_law_810 : decode cL_law 810 = .ok (.aload_n 0, 1) := by decide +kernel
theorem dL_law_811 : decode cL_law 811 = .ok (.iload_n 3, 1) := by decide +kernel
theorem dL_law_812 : decode cL_law 812 = .ok (.iconst 2, 1) := by decide +kernel
theorem dL_law_813 : decode cL_law 813 = .ok (.iadd, 1) := by decide +kernel
theorem dL_law_814 : decode cL_law 814 = .ok (.iaload, 1) := by decide +kernel
theorem dL_law_815 : decode cL_law 815 = .ok (.aload_n 0, 1) := by decide +kernel
theorem dL_law_816 : decode cL_law 816 = .ok (.iload_n 3, 1) := by decide +kernel
theorem dL_law_817 : decode cL_law 817 = .ok (.iconst 3, 1) := by decide +kernel
theorem dL_law_818 : decode cL_law 818 = .ok (.iadd, 1) := by decide +kernel
theorem dL_law_819 : decode cL_law 819 = .ok (.iaload, 1) := by decide +kernel
theorem dL_law_820 : decode cL_law 820 = .ok (.invokevirtual 68, 3) := by decide +kernel
theorem dL_law_823 : decode cL_law 823 = .ok (.if_icmp .eq 1215, 3) := by decide +kernel
theorem dL_law_826 : decode cL_law 826 = .ok (.iconst 0, 1) := by decide +kernel
theorem dL_law_827 : decode cL_law 827 = .ok (.ireturn, 1) := by decide +kernel
theorem dL_law_828 : decode cL_law 828 = .ok (.aload_n 1, 1) := by decide +kernel
theorem dL_law_829 : decode cL_law 829 = .ok (.aload_n 0, 1) := by decide +kernel
theorem dL_law_830 : decode cL_law 830 = .ok (.iload_n 3, 1) := by decide +kernel
theorem dL_law_831 : decode cL_law 831 = .ok (.iconst 1, 1) := by decide +kernel
theorem dL_law_832 : decode cL_law 832 = .ok (.iadd, 1) := by decide +kernel
theorem dL_law_833 : decode cL_law 833 = .ok (.iaload, 1) := by decide +kernel
theorem dL_law_834 : decode cL_law 834 = .ok (.aload_n 0, 1) := by decide +kernel
theorem dL_law_835 : decode cL_law 835 = .ok (.iload_n 3, 1) := by decide +kernel
theorem dL_law_836 : decode cL_law 836 = .ok (.iconst 2, 1) := by decide +kernel
theorem dL_law_837 : decode cL_law 837 = .ok (.iadd, 1) := by decide +kernel
theorem dL_law_838 : decode cL_law 838 = .ok (.iaload, 1) := by decide +kernel
theorem dL_law_839 : decode cL_law 839 = .ok (.aload_n 0, 1) := by decide +kernel
theorem dL_law_840 : decode cL_law 840 = .ok (.iload_n 3, 1) := by decide +kernel
theorem dL_law_841 : decode cL_law 841 = .ok (.iconst 3, 1) := by decide +kernel
theorem dL_law_842 : decode cL_law 842 = .ok (.iadd, 1) := by decide +kernel
theorem dL_law_843 : decode cL_law 843 = .ok (.iaload, 1) := by decide +kernel
theorem dL_law_844 : decode cL_law 844 = .ok (.aload_n 0, 1) := by decide +kernel
theorem dL_law_845 : decode cL_law 845 = .ok (.iload_n 3, 1) := by decide +kernel
theorem dL_law_846 : decode cL_law 846 = .ok (.iconst 4, 1) := by decide +kernel
theorem dL_law_847 : decode cL_law 847 = .ok (.iadd, 1) := by decide +kernel
theorem dL_law_848 : decode cL_law 848 = .ok (.iaload, 1) := by decide +kernel
theorem dL_law_849 : decode cL_law 849 = .ok (.invokevirtual 69, 3) := by decide +kernel
theorem dL_law_852 : decode cL_law 852 = .ok (.aload_n 2, 1) := by decide +kernel
theorem dL_law_853 : decode cL_law 853 = .ok (.aload_n 0, 1) := by decide +kernel
theorem dL_law_854 : decode cL_law 854 = .ok (.iload_n 3, 1) := by decide +kernel
theorem dL_law_855 : decode cL_law 855 = .ok (.iconst 1, 1) := by decide +kernel
theorem dL_law_856 : decode cL_law 856 = .ok (.iadd, 1) := by decide +kernel
theorem dL_law_857 : decode cL_law 857 = .ok (.iaload, 1) := by decide +kernel
theorem dL_law_858 : decode cL_law 858 = .ok (.aload_n 0, 1) := by decide +kernel
theorem dL_law_859 : decode cL_law 859 = .ok (.iload_n 3, 1) := by decide +kernel
theorem dL_law_860 : decode cL_law 860 = .ok (.iconst 2, 1) := by decide +kernel
theorem dL_law_861 : decode cL_law 861 = .ok (.iadd, 1) := by decide +kernel
theorem dL_law_862 : decode cL_law 862 = .ok (.iaload, 1) := by decide +kernel
theorem dL_law_863 : decode cL_law 863 = .ok (.aload_n 0, 1) := by decide +kernel
theorem dL_law_864 : decode cL_law 864 = .ok (.iload_n 3, 1) := by decide +kernel
theorem dL_law_865 : decode cL_law 865 = .ok (.iconst 3, 1) := by decide +kernel
theorem dL_law_866 : decode cL_law 866 = .ok (.iadd, 1) := by decide +kernel
theorem dL_law_867 : decode cL_law 867 = .ok (.iaload, 1) := by decide +kernel
theorem dL_law_868 : decode cL_law 868 = .ok (.aload_n 0, 1) := by decide +kernel
theorem dL_law_869 : decode cL_law 869 = .ok (.iload_n 3, 1) := by decide +kernel
theorem dL_law_870 : decode cL_law 870 = .ok (.iconst 4, 1) := by decide +kernel
theorem dL_law_871 : decode cL_law 871 = .ok (.iadd, 1) := by decide +kernel
theorem dL_law_872 : decode cL_law 872 = .ok (.iaload, 1) := by decide +kernel
theorem dL_law_873 : decode cL_law 873 = .ok (.invokevirtual 72, 3) := by decide +kernel
theorem dL_law_876 : decode cL_law 876 = .ok (.if_icmp .eq 1162, 3) := by decide +kernel
theorem dL_law_879 : decode cL_law 879 = .ok (.iconst 0, 1) := by decide +kernel
theorem dL_law_880 : decode cL_law 880 = .ok (.ireturn, 1) := by decide +kernel
theorem dL_law_881 : decode cL_law 881 = .ok (.aload_n 1, 1) := by decide +kernel
theorem dL_law_882 : decode cL_law 882 = .ok (.aload_n 0, 1) := by decide +kernel
theorem dL_law_883 : decode cL_law 883 = .ok (.iload_n 3, 1) := by decide +kernel
theorem dL_law_884 : decode cL_law 884 = .ok (.iconst 1, 1) := by decide +kernel
theorem dL_law_885 : decode cL_law 885 = .ok (.iadd, 1) := by decide +kernel
theorem dL_law_886 : decode cL_law 886 = .ok (.iaload, 1) := by decide +kernel
theorem dL_law_887 : decode cL_law 887 = .ok (.aload_n 0, 1) := by decide +kernel
theorem dL_law_888 : decode cL_law 888 = .ok (.iload_n 3, 1) := by decide +kernel
theorem dL_law_889 : decode cL_law 889 = .ok (.iconst 2, 1) := by decide +kernel
theorem dL_law_890 : decode cL_law 890 = .ok (.iadd, 1) := by decide +kernel
theorem dL_law_891 : decode cL_law 891 = .ok (.iaload, 1) := by decide +kernel
theorem dL_law_892 : decode cL_law 892 = .ok (.aload_n 0, 1) := by decide +kernel
theorem dL_law_893 : decode cL_law 893 = .ok (.iload_n 3, 1) := by decide +kernel
theorem dL_law_894 : decode cL_law 894 = .ok (.iconst 3, 1) := by decide +kernel
theorem dL_law_895 : decode cL_law 895 = .ok (.iadd, 1) := by decide +kernel
theorem dL_law_896 : decode cL_law 896 = .ok (.iaload, 1) := by decide +kernel
theorem dL_law_897 : decode cL_law 897 = .ok (.aload_n 0, 1) := by decide +kernel
theorem dL_law_898 : decode cL_law 898 = .ok (.iload_n 3, 1) := by decide +kernel
theorem dL_law_899 : decode cL_law 899 = .ok (.iconst 4, 1) := by decide +kernel
theorem dL_law_900 : decode cL_law 900 = .ok (.iadd, 1) := by decide +kernel
theorem dL_law_901 : decode cL_law 901 = .ok (.iaload, 1) := by decide +kernel
theorem dL_law_902 : decode cL_law 902 = .ok (.invokevirtual 73, 3) := by decide +kernel
theorem dL_law_905 : decode cL_law 905 = .ok (.aload_n 2, 1) := by decide +kernel
theorem dL_law_906 : decode cL_law 906 = .ok (.aload_n 0, 1) := by decide +kernel
theorem dL_law_907 : decode cL_law 907 = .ok (.iload_n 3, 1) := by decide +kernel
theorem dL_law_908 : decode cL_law 908 = .ok (.iconst 1, 1) := by decide +kernel
theorem dL_law_909 : decode cL_law 909 = .ok (.iadd, 1) := by decide +kernel
theorem dL_law_910 : decode cL_law 910 = .ok (.iaload, 1) := by decide +kernel
theorem dL_law_911 : decode cL_law 911 = .ok (.aload_n 0, 1) := by decide +kernel
theorem dL_law_912 : decode cL_law 912 = .ok (.iload_n 3, 1) := by decide +kernel
theorem dL_law_913 : decode cL_law 913 = .ok (.iconst 2, 1) := by decide +kernel
theorem dL_law_914 : decode cL_law 914 = .ok (.iadd, 1) := by decide +kernel
theorem dL_law_915 : decode cL_law 915 = .ok (.iaload, 1) := by decide +kernel
theorem dL_law_916 : decode cL_law 916 = .ok (.aload_n 0, 1) := by decide +kernel
theorem dL_law_917 : decode cL_law 917 = .ok (.iload_n 3, 1) := by decide +kernel
theorem dL_law_918 : decode cL_law 918 = .ok (.iconst 3, 1) := by decide +kernel
theorem dL_law_919 : decode cL_law 919 = .ok (.iadd, 1) := by decide +kernel
theorem dL_law_920 : decode cL_law 920 = .ok (.iaload, 1) := by decide +kernel
theorem dL_law_921 : decode cL_law 921 = .ok (.aload_n 0, 1) := by decide +kernel
theorem dL_law_922 : decode cL_law 922 = .ok (.iload_n 3, 1) := by decide +kernel
theorem dL_law_923 : decode cL_law 923 = .ok (.iconst 4, 1) := by decide +kernel
theorem dL_law_924 : decode cL_law 924 = .ok (.iadd, 1) := by decide +kernel
theorem dL_law_925 : decode cL_law 925 = .ok (.iaload, 1) := by decide +kernel
theorem dL_law_926 : decode cL_law 926 = .ok (.invokevirtual 76, 3) := by decide +kernel
theorem dL_law_929 : decode cL_law 929 = .ok (.if_icmp .eq 1109, 3) := by decide +kernel
theorem dL_law_932 : decode cL_law 932 = .ok (.iconst 0, 1) := by decide +kernel
theorem dL_law_933 : decode cL_law 933 = .ok (.ireturn, 1) := by decide +kernel
theorem dL_law_934 : decode cL_law 934 = .ok (.aload_n 1, 1) := by decide +kernel
theorem dL_law_935 : decode cL_law 935 = .ok (.aload_n 0, 1) := by decide +kernel
theorem dL_law_936 : decode cL_law 936 = .ok (.iload_n 3, 1) := by decide +kernel
theorem dL_law_937 : decode cL_law 937 = .ok (.iconst 1, 1) := by decide +kernel
theorem dL_law_938 : decode cL_law 938 = .ok (.iadd, 1) := by decide +kernel
theorem dL_law_939 : decode cL_law 939 = .ok (.iaload, 1) := by decide +kernel
theorem dL_law_940 : decode cL_law 940 = .ok (.aload_n 0, 1) := by decide +kernel
theorem dL_law_941 : decode cL_law 941 = .ok (.iload_n 3, 1) := by decide +kernel
theorem dL_law_942 : decode cL_law 942 = .ok (.iconst 2, 1) := by decide +kernel
theorem dL_law_943 : decode cL_law 943 = .ok (.iadd, 1) := by decide +kernel
theorem dL_law_944 : decode cL_law 944 = .ok (.iaload, 1) := by decide +kernel
theorem dL_law_945 : decode cL_law 945 = .ok (.aload_n 0, 1) := by decide +kernel
theorem dL_law_946 : decode cL_law 946 = .ok (.iload_n 3, 1) := by decide +kernel
theorem dL_law_947 : decode cL_law 947 = .ok (.iconst 3, 1) := by decide +kernel
theorem dL_law_948 : decode cL_law 948 = .ok (.iadd, 1) := by decide +kernel
theorem dL_law_949 : decode cL_law 949 = .ok (.iaload, 1) := by decide +kernel
theorem dL_law_950 : decode cL_law 950 = .ok (.invokevirtual 77, 3) := by decide +kernel
theorem dL_law_953 : decode cL_law 953 = .ok (.aload_n 2, 1) := by decide +kernel
theorem dL_law_954 : decode cL_law 954 = .ok (.aload_n 0, 1) := by decide +kernel
theorem dL_law_955 : decode cL_law 955 = .ok (.iload_n 3, 1) := by decide +kernel
theorem dL_law_956 : decode cL_law 956 = .ok (.iconst 1, 1) := by decide +kernel
theorem dL_law_957 : decode cL_law 957 = .ok (.iadd, 1) := by decide +kernel
theorem dL_law_958 : decode cL_law 958 = .ok (.iaload, 1) := by decide +kernel
theorem dL_law_959 : decode cL_law 959 = .ok (.aload_n 0, 1) := by decide +kernel
theorem dL_law_960 : decode cL_law 960 = .ok (.iload_n 3, 1) := by decide +kernel
theorem dL_law_961 : decode cL_law 961 = .ok (.iconst 2, 1) := by decide +kernel
theorem dL_law_962 : decode cL_law 962 = .ok (.iadd, 1) := by decide +kernel
theorem dL_law_963 : decode cL_law 963 = .ok (.iaload, 1) := by decide +kernel
theorem dL_law_964 : decode cL_law 964 = .ok (.aload_n 0, 1) := by decide +kernel
theorem dL_law_965 : decode cL_law 965 = .ok (.iload_n 3, 1) := by decide +kernel
theorem dL_law_966 : decode cL_law 966 = .ok (.iconst 3, 1) := by decide +kernel
theorem dL_law_967 : decode cL_law 967 = .ok (.iadd, 1) := by decide +kernel
theorem dL_law_968 : decode cL_law 968 = .ok (.iaload, 1) := by decide +kernel
theorem dL_law_969 : decode cL_law 969 = .ok (.invokevirtual 80, 3) := by decide +kernel
theorem dL_law_972 : decode cL_law 972 = .ok (.if_icmp .eq 1066, 3) := by decide +kernel
theorem dL_law_975 : decode cL_law 975 = .ok (.iconst 0, 1) := by decide +kernel
theorem dL_law_976 : decode cL_law 976 = .ok (.ireturn, 1) := by decide +kernel
theorem dL_law_977 : decode cL_law 977 = .ok (.aload_n 1, 1) := by decide +kernel
theorem dL_law_978 : decode cL_law 978 = .ok (.aload_n 0, 1) := by decide +kernel
theorem dL_law_979 : decode cL_law 979 = .ok (.iload_n 3, 1) := by decide +kernel
theorem dL_law_980 : decode cL_law 980 = .ok (.iconst 1, 1) := by decide +kernel
theorem dL_law_981 : decode cL_law 981 = .ok (.iadd, 1) := by decide +kernel
theorem dL_law_982 : decode cL_law 982 = .ok (.iaload, 1) := by decide +kernel
theorem dL_law_983 : decode cL_law 983 = .ok (.aload_n 0, 1) := by decide +kernel
theorem dL_law_984 : decode cL_law 984 = .ok (.iload_n 3, 1) := by decide +kernel
theorem dL_law_985 : decode cL_law 985 = .ok (.iconst 2, 1) := by decide +kernel
theorem dL_law_986 : decode cL_law 986 = .ok (.iadd, 1) := by decide +kernel
theorem dL_law_987 : decode cL_law 987 = .ok (.iaload, 1) := by decide +kernel
theorem dL_law_988 : decode cL_law 988 = .ok (.invokevirtual 81, 3) := by decide +kernel
theorem dL_law_991 : decode cL_law 991 = .ok (.aload_n 2, 1) := by decide +kernel
theorem dL_law_992 : decode cL_law 992 = .ok (.aload_n 0, 1) := by decide +kernel
theorem dL_law_993 : decode cL_law 993 = .ok (.iload_n 3, 1) := by decide +kernel
theorem dL_law_994 : decode cL_law 994 = .ok (.iconst 1, 1) := by decide +kernel
theorem dL_law_995 : decode cL_law 995 = .ok (.iadd, 1) := by decide +kernel
theorem dL_law_996 : decode cL_law 996 = .ok (.iaload, 1) := by decide +kernel
theorem dL_law_997 : decode cL_law 997 = .ok (.aload_n 0, 1) := by decide +kernel
theorem dL_law_998 : decode cL_law 998 = .ok (.iload_n 3, 1) := by decide +kernel
theorem dL_law_999 : decode cL_law 999 = .ok (.iconst 2, 1) := by decide +kernel
theorem dL_law_1000 : decode cL_law 1000 = .ok (.iadd, 1) := by decide +kernel
theorem dL_law_1001 : decode cL_law 1001 = .ok (.iaload, 1) := by decide +kernel
theorem dL_law_1002 : decode cL_law 1002 = .ok (.invokevirtual 84, 3) := by decide +kernel
theorem dL_law_1005 : decode cL_law 1005 = .ok (.if_icmp .eq 1033, 3) := by decide +kernel
theorem dL_law_1008 : decode cL_law 1008 = .ok (.iconst 0, 1) := by decide +kernel
theorem dL_law_1009 : decode cL_law 1009 = .ok (.ireturn, 1) := by decide +kernel
theorem dL_law_1010 : decode cL_law 1010 = .ok (.aload_n 1, 1) := by decide +kernel
theorem dL_law_1011 : decode cL_law 1011 = .ok (.aload_n 0, 1) := by decide +kernel
theorem dL_law_1012 : decode cL_law 1012 = .ok (.iload_n 3, 1) := by decide +kernel
theorem dL_law_1013 : decode cL_law 1013 = .ok (.iconst 1, 1) := by decide +kernel
theorem dL_law_1014 : decode cL_law 1014 = .ok (.iadd, 1) := by decide +kernel
theorem dL_law_1015 : decode cL_law 1015 = .ok (.iaload, 1) := by decide +kernel
theorem dL_law_1016 : decode cL_law 1016 = .ok (.invokevirtual 85, 3) := by decide +kernel
theorem dL_law_1019 : decode cL_law 1019 = .ok (.aload_n 2, 1) := by decide +kernel
theorem dL_law_1020 : decode cL_law 1020 = .ok (.aload_n 0, 1) := by decide +kernel
theorem dL_law_1021 : decode cL_law 1021 = .ok (.iload_n 3, 1) := by decide +kernel
theorem dL_law_1022 : decode cL_law 1022 = .ok (.iconst 1, 1) := by decide +kernel
theorem dL_law_1023 : decode cL_law 1023 = .ok (.iadd, 1) := by decide +kernel
theorem dL_law_1024 : decode cL_law 1024 = .ok (.iaload, 1) := by decide +kernel
theorem dL_law_1025 : decode cL_law 1025 = .ok (.invokevirtual 88, 3) := by decide +kernel
theorem dL_law_1028 : decode cL_law 1028 = .ok (.if_icmp .eq 1010, 3) := by decide +kernel
theorem dL_law_1031 : decode cL_law 1031 = .ok (.iconst 0, 1) := by decide +kernel
theorem dL_law_1032 : decode cL_law 1032 = .ok (.ireturn, 1) := by decide +kernel
theorem dL_law_1033 : decode cL_law 1033 = .ok (.aload_n 1, 1) := by decide +kernel
theorem dL_law_1034 : decode cL_law 1034 = .ok (.invokevirtual 89, 3) := by decide +kernel
theorem dL_law_1037 : decode cL_law 1037 = .ok (.aload_n 2, 1) := by decide +kernel
theorem dL_law_1038 : decode cL_law 1038 = .ok (.invokevirtual 92, 3) := by decide +kernel
theorem dL_law_1041 : decode cL_law 1041 = .ok (.if_icmp .eq 997, 3) := by decide +kernel
theorem dL_law_1044 : decode cL_law 1044 = .ok (.iconst 0, 1) := by decide +kernel
theorem dL_law_1045 : decode cL_law 1045 = .ok (.ireturn, 1) := by decide +kernel
theorem dL_law_1046 : decode cL_law 1046 = .ok (.aload_n 1, 1) := by decide +kernel
theorem dL_law_1047 : decode cL_law 1047 = .ok (.aload_n 0, 1) := by decide +kernel
theorem dL_law_1048 : decode cL_law 1048 = .ok (.iload_n 3, 1) := by decide +kernel
theorem dL_law_1049 : decode cL_law 1049 = .ok (.iconst 1, 1) := by decide +kernel
theorem dL_law_1050 : decode cL_law 1050 = .ok (.iadd, 1) := by decide +kernel
theorem dL_law_1051 : decode cL_law 1051 = .ok (.iaload, 1) := by decide +kernel
theorem dL_law_1052 : decode cL_law 1052 = .ok (.invokevirtual 93, 3) := by decide +kernel
theorem dL_law_1055 : decode cL_law 1055 = .ok (.aload_n 2, 1) := by decide +kernel
theorem dL_law_1056 : decode cL_law 1056 = .ok (.aload_n 0, 1) := by decide +kernel
theorem dL_law_1057 : decode cL_law 1057 = .ok (.iload_n 3, 1) := by decide +kernel
theorem dL_law_1058 : decode cL_law 1058 = .ok (.iconst 1, 1) := by decide +kernel
theorem dL_law_1059 : decode cL_law 1059 = .ok (.iadd, 1) := by decide +kernel
theorem dL_law_1060 : decode cL_law 1060 = .ok (.iaload, 1) := by decide +kernel
theorem dL_law_1061 : decode cL_law 1061 = .ok (.invokevirtual 96, 3) := by decide +kernel
theorem dL_law_1064 : decode cL_law 1064 = .ok (.if_icmp .eq 974, 3) := by decide +kernel
theorem dL_law_1067 : decode cL_law 1067 = .ok (.iconst 0, 1) := by decide +kernel
theorem dL_law_1068 : decode cL_law 1068 = .ok (.ireturn, 1) := by decide +kernel
theorem dL_law_1069 : decode cL_law 1069 = .ok (.aload_n 1, 1) := by decide +kernel
theorem dL_law_1070 : decode cL_law 1070 = .ok (.aload_n 0, 1) := by decide +kernel
theorem dL_law_1071 : decode cL_law 1071 = .ok (.iload_n 3, 1) := by decide +kernel
theorem dL_law_1072 : decode cL_law 1072 = .ok (.iconst 1, 1) := by decide +kernel
theorem dL_law_1073 : decode cL_law 1073 = .ok (.iadd, 1) := by decide +kernel
theorem dL_law_1074 : decode cL_law 1074 = .ok (.iaload, 1) := by decide +kernel
theorem dL_law_1075 : decode cL_law 1075 = .ok (.invokevirtual 97, 3) := by decide +kernel
theorem dL_law_1078 : decode cL_law 1078 = .ok (.aload_n 2, 1) := by decide +kernel
theorem dL_law_1079 : decode cL_law 1079 = .ok (.aload_n 0, 1) := by decide +kernel
theorem dL_law_1080 : decode cL_law 1080 = .ok (.iload_n 3, 1) := by decide +kernel
theorem dL_law_1081 : decode cL_law 1081 = .ok (.iconst 1, 1) := by decide +kernel
theorem dL_law_1082 : decode cL_law 1082 = .ok (.iadd, 1) := by decide +kernel
theorem dL_law_1083 : decode cL_law 1083 = .ok (.iaload, 1) := by decide +kernel
theorem dL_law_1084 : decode cL_law 1084 = .ok (.invokevirtual 100, 3) := by decide +kernel
theorem dL_law_1087 : decode cL_law 1087 = .ok (.if_icmp .eq 951, 3) := by decide +kernel
theorem dL_law_1090 : decode cL_law 1090 = .ok (.iconst 0, 1) := by decide +kernel
theorem dL_law_1091 : decode cL_law 1091 = .ok (.ireturn, 1) := by decide +kernel
theorem dL_law_1092 : decode cL_law 1092 = .ok (.aload_n 1, 1) := by decide +kernel
theorem dL_law_1093 : decode cL_law 1093 = .ok (.aload_n 0, 1) := by decide +kernel
theorem dL_law_1094 : decode cL_law 1094 = .ok (.iload_n 3, 1) := by decide +kernel
theorem dL_law_1095 : decode cL_law 1095 = .ok (.iconst 1, 1) := by decide +kernel
theorem dL_law_1096 : decode cL_law 1096 = .ok (.iadd, 1) := by decide +kernel
theorem dL_law_1097 : decode cL_law 1097 = .ok (.iaload, 1) := by decide +kernel
theorem dL_law_1098 : decode cL_law 1098 = .ok (.invokevirtual 101, 3) := by decide +kernel
theorem dL_law_1101 : decode cL_law 1101 = .ok (.aload_n 2, 1) := by decide +kernel
theorem dL_law_1102 : decode cL_law 1102 = .ok (.aload_n 0, 1) := by decide +kernel
theorem dL_law_1103 : decode cL_law 1103 = .ok (.iload_n 3, 1) := by decide +kernel
theorem dL_law_1104 : decode cL_law 1104 = .ok (.iconst 1, 1) := by decide +kernel
theorem dL_law_1105 : decode cL_law 1105 = .ok (.iadd, 1) := by decide +kernel
theorem dL_law_1106 : decode cL_law 1106 = .ok (.iaload, 1) := by decide +kernel
theorem dL_law_1107 : decode cL_law 1107 = .ok (.invokevirtual 104, 3) := by decide +kernel
theorem dL_law_1110 : decode cL_law 1110 = .ok (.if_icmp .eq 928, 3) := by decide +kernel
theorem dL_law_1113 : decode cL_law 1113 = .ok (.iconst 0, 1) := by decide +kernel
theorem dL_law_1114 : decode cL_law 1114 = .ok (.ireturn, 1) := by decide +kernel
theorem dL_law_1115 : decode cL_law 1115 = .ok (.aload_n 1, 1) := by decide +kernel
theorem dL_law_1116 : decode cL_law 1116 = .ok (.aload_n 0, 1) := by decide +kernel
theorem dL_law_1117 : decode cL_law 1117 = .ok (.iload_n 3, 1) := by decide +kernel
theorem dL_law_1118 : decode cL_law 1118 = .ok (.iconst 1, 1) := by decide +kernel
theorem dL_law_1119 : decode cL_law 1119 = .ok (.iadd, 1) := by decide +kernel
theorem dL_law_1120 : decode cL_law 1120 = .ok (.iaload, 1) := by decide +kernel
theorem dL_law_1121 : decode cL_law 1121 = .ok (.aload_n 0, 1) := by decide +kernel
theorem dL_law_1122 : decode cL_law 1122 = .ok (.iload_n 3, 1) := by decide +kernel
theorem dL_law_1123 : decode cL_law 1123 = .ok (.iconst 2, 1) := by decide +kernel
theorem dL_law_1124 : decode cL_law 1124 = .ok (.iadd, 1) := by decide +kernel
theorem dL_law_1125 : decode cL_law 1125 = .ok (.iaload, 1) := by decide +kernel
theorem dL_law_1126 : decode cL_law 1126 = .ok (.invokevirtual 105, 3) := by decide +kernel
theorem dL_law_1129 : decode cL_law 1129 = .ok (.aload_n 2, 1) := by decide +kernel
theorem dL_law_1130 : decode cL_law 1130 = .ok (.aload_n 0, 1) := by decide +kernel
theorem dL_law_1131 : decode cL_law 1131 = .ok (.iload_n 3, 1) := by decide +kernel
theorem dL_law_1132 : decode cL_law 1132 = .ok (.iconst 1, 1) := by decide +kernel
theorem dL_law_1133 : decode cL_law 1133 = .ok (.iadd, 1) := by decide +kernel
theorem dL_law_1134 : decode cL_law 1134 = .ok (.iaload, 1) := by decide +kernel
theorem dL_law_1135 : decode cL_law 1135 = .ok (.aload_n 0, 1) := by decide +kernel
theorem dL_law_1136 : decode cL_law 1136 = .ok (.iload_n 3, 1) := by decide +kernel
theorem dL_law_1137 : decode cL_law 1137 = .ok (.iconst 2, 1) := by decide +kernel
theorem dL_law_1138 : decode cL_law 1138 = .ok (.iadd, 1) := by decide +kernel
theorem dL_law_1139 : decode cL_law 1139 = .ok (.iaload, 1) := by decide +kernel
theorem dL_law_1140 : decode cL_law 1140 = .ok (.invokevirtual 108, 3) := by decide +kernel
theorem dL_law_1143 : decode cL_law 1143 = .ok (.if_icmp .eq 895, 3) := by decide +kernel
theorem dL_law_1146 : decode cL_law 1146 = .ok (.iconst 0, 1) := by decide +kernel
theorem dL_law_1147 : decode cL_law 1147 = .ok (.ireturn, 1) := by decide +kernel
theorem dL_law_1148 : decode cL_law 1148 = .ok (.aload_n 1, 1) := by decide +kernel
theorem dL_law_1149 : decode cL_law 1149 = .ok (.aload_n 0, 1) := by decide +kernel
theorem dL_law_1150 : decode cL_law 1150 = .ok (.iload_n 3, 1) := by decide +kernel
theorem dL_law_1151 : decode cL_law 1151 = .ok (.iconst 1, 1) := by decide +kernel
theorem dL_law_1152 : decode cL_law 1152 = .ok (.iadd, 1) := by decide +kernel
theorem dL_law_1153 : decode cL_law 1153 = .ok (.iaload, 1) := by decide +kernel
theorem dL_law_1154 : decode cL_law 1154 = .ok (.aload_n 0, 1) := by decide +kernel
theorem dL_law_1155 : decode cL_law 1155 = .ok (.iload_n 3, 1) := by decide +kernel
theorem dL_law_1156 : decode cL_law 1156 = .ok (.iconst 2, 1) := by decide +kernel
theorem dL_law_1157 : decode cL_law 1157 = .ok (.iadd, 1) := by decide +kernel
theorem dL_law_1158 : decode cL_law 1158 = .ok (.iaload, 1) := by decide +kernel
theorem dL_law_1159 : decode cL_law 1159 = .ok (.aload_n 0, 1) := by decide +kernel
theorem dL_law_1160 : decode cL_law 1160 = .ok (.iload_n 3, 1) := by decide +kernel
theorem dL_law_1161 : decode cL_law 1161 = .ok (.iconst 3, 1) := by decide +kernel
theorem dL_law_1162 : decode cL_law 1162 = .ok (.iadd, 1) := by decide +kernel
theorem dL_law_1163 : decode cL_law 1163 = .ok (.iaload, 1) := by decide +kernel
theorem dL_law_1164 : decode cL_law 1164 = .ok (.aload_n 0, 1) := by decide +kernel
theorem dL_law_1165 : decode cL_law 1165 = .ok (.iload_n 3, 1) := by decide +kernel
theorem dL_law_1166 : decode cL_law 1166 = .ok (.iconst 4, 1) := by decide +kernel
theorem dL_law_1167 : decode cL_law 1167 = .ok (.iadd, 1) := by decide +kernel
theorem dL_law_1168 : decode cL_law 1168 = .ok (.iaload, 1) := by decide +kernel
theorem dL_law_1169 : decode cL_law 1169 = .ok (.aload_n 0, 1) := by decide +kernel
theorem dL_law_1170 : decode cL_law 1170 = .ok (.iload_n 3, 1) := by decide +kernel
theorem dL_law_1171 : decode cL_law 1171 = .ok (.iconst 5, 1) := by decide +kernel
theorem dL_law_1172 : decode cL_law 1172 = .ok (.iadd, 1) := by decide +kernel
theorem dL_law_1173 : decode cL_law 1173 = .ok (.iaload, 1) := by decide +kernel
theorem dL_law_1174 : decode cL_law 1174 = .ok (.aload_n 0, 1) := by decide +kernel
theorem dL_law_1175 : decode cL_law 1175 = .ok (.iload_n 3, 1) := by decide +kernel
theorem dL_law_1176 : decode cL_law 1176 = .ok (.bipush 6, 2) := by decide +kernel
theorem dL_law_1178 : decode cL_law 1178 = .ok (.iadd, 1) := by decide +kernel
theorem dL_law_1179 : decode cL_law 1179 = .ok (.iaload, 1) := by decide +kernel
theorem dL_law_1180 : decode cL_law 1180 = .ok (.aload_n 0, 1) := by decide +kernel
theorem dL_law_1181 : decode cL_law 1181 = .ok (.iload_n 3, 1) := by decide +kernel
theorem dL_law_1182 : decode cL_law 1182 = .ok (.bipush 7, 2) := by decide +kernel
theorem dL_law_1184 : decode cL_law 1184 = .ok (.iadd, 1) := by decide +kernel
theorem dL_law_1185 : decode cL_law 1185 = .ok (.iaload, 1) := by decide +kernel
theorem dL_law_1186 : decode cL_law 1186 = .ok (.invokevirtual 109, 3) := by decide +kernel
theorem dL_law_1189 : decode cL_law 1189 = .ok (.aload_n 2, 1) := by decide +kernel
theorem dL_law_1190 : decode cL_law 1190 = .ok (.aload_n 0, 1) := by decide +kernel
theorem dL_law_1191 : decode cL_law 1191 = .ok (.iload_n 3, 1) := by decide +kernel
theorem dL_law_1192 : decode cL_law 1192 = .ok (.iconst 1, 1) := by decide +kernel
theorem dL_law_1193 : decode cL_law 1193 = .ok (.iadd, 1) := by decide +kernel
theorem dL_law_1194 : decode cL_law 1194 = .ok (.iaload, 1) := by decide +kernel
theorem dL_law_1195 : decode cL_law 1195 = .ok (.aload_n 0, 1) := by decide +kernel
theorem dL_law_1196 : decode cL_law 1196 = .ok (.iload_n 3, 1) := by decide +kernel
theorem dL_law_1197 : decode cL_law 1197 = .ok (.iconst 2, 1) := by decide +kernel
theorem dL_law_1198 : decode cL_law 1198 = .ok (.iadd, 1) := by decide +kernel
theorem dL_law_1199 : decode cL_law 1199 = .ok (.iaload, 1) := by decide +kernel
theorem dL_law_1200 : decode cL_law 1200 = .ok (.aload_n 0, 1) := by decide +kernel
theorem dL_law_1201 : decode cL_law 1201 = .ok (.iload_n 3, 1) := by decide +kernel
theorem dL_law_1202 : decode cL_law 1202 = .ok (.iconst 3, 1) := by decide +kernel
theorem dL_law_1203 : decode cL_law 1203 = .ok (.iadd, 1) := by decide +kernel
theorem dL_law_1204 : decode cL_law 1204 = .ok (.iaload, 1) := by decide +kernel
theorem dL_law_1205 : decode cL_law 1205 = .ok (.aload_n 0, 1) := by decide +kernel
theorem dL_law_1206 : decode cL_law 1206 = .ok (.iload_n 3, 1) := by decide +kernel
theorem dL_law_1207 : decode cL_law 1207 = .ok (.iconst 4, 1) := by decide +kernel
theorem dL_law_1208 : decode cL_law 1208 = .ok (.iadd, 1) := by decide +kernel
theorem dL_law_1209 : decode cL_law 1209 = .ok (.iaload, 1) := by decide +kernel
theorem dL_law_1210 : decode cL_law 1210 = .ok (.aload_n 0, 1) := by decide +kernel
theorem dL_law_1211 : decode cL_law 1211 = .ok (.iload_n 3, 1) := by decide +kernel
theorem dL_law_1212 : decode cL_law 1212 = .ok (.iconst 5, 1) := by decide +kernel
theorem dL_law_1213 : decode cL_law 1213 = .ok (.iadd, 1) := by decide +kernel
theorem dL_law_1214 : decode cL_law 1214 = .ok (.iaload, 1) := by decide +kernel
theorem dL_law_1215 : decode cL_law 1215 = .ok (.aload_n 0, 1) := by decide +kernel
theorem dL_law_1216 : decode cL_law 1216 = .ok (.iload_n 3, 1) := by decide +kernel
theorem dL_law_1217 : decode cL_law 1217 = .ok (.bipush 6, 2) := by decide +kernel
theorem dL_law_1219 : decode cL_law 1219 = .ok (.iadd, 1) := by decide +kernel
theorem dL_law_1220 : decode cL_law 1220 = .ok (.iaload, 1) := by decide +kernel
theorem dL_law_1221 : decode cL_law 1221 = .ok (.aload_n 0, 1) := by decide +kernel
theorem dL_law_1222 : decode cL_law 1222 = .ok (.iload_n 3, 1) := by decide +kernel
theorem dL_law_1223 : decode cL_law 1223 = .ok (.bipush 7, 2) := by decide +kernel
theorem dL_law_1225 : decode cL_law 1225 = .ok (.iadd, 1) := by decide +kernel
theorem dL_law_1226 : decode cL_law 1226 = .ok (.iaload, 1) := by decide +kernel
theorem dL_law_1227 : decode cL_law 1227 = .ok (.invokevirtual 113, 3) := by decide +kernel
theorem dL_law_1230 : decode cL_law 1230 = .ok (.if_icmp .eq 808, 3) := by decide +kernel
theorem dL_law_1233 : decode cL_law 1233 = .ok (.iconst 0, 1) := by decide +kernel
theorem dL_law_1234 : decode cL_law 1234 = .ok (.ireturn, 1) := by decide +kernel
theorem dL_law_1235 : decode cL_law 1235 = .ok (.aload_n 1, 1) := by decide +kernel
theorem dL_law_1236 : decode cL_law 1236 = .ok (.aload_n 0, 1) := by decide +kernel
theorem dL_law_1237 : decode cL_law 1237 = .ok (.iload_n 3, 1) := by decide +kernel
theorem dL_law_1238 : decode cL_law 1238 = .ok (.iconst 1, 1) := by decide +kernel
theorem dL_law_1239 : decode cL_law 1239 = .ok (.iadd, 1) := by decide +kernel
theorem dL_law_1240 : decode cL_law 1240 = .ok (.iaload, 1) := by decide +kernel
theorem dL_law_1241 : decode cL_law 1241 = .ok (.aload_n 0, 1) := by decide +kernel
theorem dL_law_1242 : decode cL_law 1242 = .ok (.iload_n 3, 1) := by decide +kernel
theorem dL_law_1243 : decode cL_law 1243 = .ok (.iconst 2, 1) := by decide +kernel
theorem dL_law_1244 : decode cL_law 1244 = .ok (.iadd, 1) := by decide +kernel
theorem dL_law_1245 : decode cL_law 1245 = .ok (.iaload, 1) := by decide +kernel
theorem dL_law_1246 : decode cL_law 1246 = .ok (.aload_n 0, 1) := by decide +kernel
theorem dL_law_1247 : decode cL_law 1247 = .ok (.iload_n 3, 1) := by decide +kernel
theorem dL_law_1248 : decode cL_law 1248 = .ok (.iconst 3, 1) := by decide +kernel
theorem dL_law_1249 : decode cL_law 1249 = .ok (.iadd, 1) := by decide +kernel
theorem dL_law_1250 : decode cL_law 1250 = .ok (.iaload, 1) := by decide +kernel
theorem dL_law_1251 : decode cL_law 1251 = .ok (.invokevirtual 114, 3) := by decide +kernel
theorem dL_law_1254 : decode cL_law 1254 = .ok (.aload_n 2, 1) := by decide +kernel
theorem dL_law_1255 : decode cL_law 1255 = .ok (.aload_n 0, 1) := by decide +kernel
theorem dL_law_1256 : decode cL_law 1256 = .ok (.iload_n 3, 1) := by decide +kernel
theorem dL_law_1257 : decode cL_law 1257 = .ok (.iconst 1, 1) := by decide +kernel
theorem dL_law_1258 : decode cL_law 1258 = .ok (.iadd, 1) := by decide +kernel
theorem dL_law_1259 : decode cL_law 1259 = .ok (.iaload, 1) := by decide +kernel
theorem dL_law_1260 : decode cL_law 1260 = .ok (.aload_n 0, 1) := by decide +kernel
theorem dL_law_1261 : decode cL_law 1261 = .ok (.iload_n 3, 1) := by decide +kernel
theorem dL_law_1262 : decode cL_law 1262 = .ok (.iconst 2, 1) := by decide +kernel
theorem dL_law_1263 : decode cL_law 1263 = .ok (.iadd, 1) := by decide +kernel
theorem dL_law_1264 : decode cL_law 1264 = .ok (.iaload, 1) := by decide +kernel
theorem dL_law_1265 : decode cL_law 1265 = .ok (.aload_n 0, 1) := by decide +kernel
theorem dL_law_1266 : decode cL_law 1266 = .ok (.iload_n 3, 1) := by decide +kernel
theorem dL_law_1267 : decode cL_law 1267 = .ok (.iconst 3, 1) := by decide +kernel
theorem dL_law_1268 : decode cL_law 1268 = .ok (.iadd, 1) := by decide +kernel
theorem dL_law_1269 : decode cL_law 1269 = .ok (.iaload, 1) := by decide +kernel
theorem dL_law_1270 : decode cL_law 1270 = .ok (.invokevirtual 117, 3) := by decide +kernel
theorem dL_law_1273 : decode cL_law 1273 = .ok (.if_icmp .eq 765, 3) := by decide +kernel
theorem dL_law_1276 : decode cL_law 1276 = .ok (.iconst 0, 1) := by decide +kernel
theorem dL_law_1277 : decode cL_law 1277 = .ok (.ireturn, 1) := by decide +kernel
theorem dL_law_1278 : decode cL_law 1278 = .ok (.aload_n 1, 1) := by decide +kernel
theorem dL_law_1279 : decode cL_law 1279 = .ok (.aload_n 0, 1) := by decide +kernel
theorem dL_law_1280 : decode cL_law 1280 = .ok (.iload_n 3, 1) := by decide +kernel
theorem dL_law_1281 : decode cL_law 1281 = .ok (.iconst 1, 1) := by decide +kernel
theorem dL_law_1282 : decode cL_law 1282 = .ok (.iadd, 1) := by decide +kernel
theorem dL_law_1283 : decode cL_law 1283 = .ok (.iaload, 1) := by decide +kernel
theorem dL_law_1284 : decode cL_law 1284 = .ok (.aload_n 0, 1) := by decide +kernel
theorem dL_law_1285 : decode cL_law 1285 = .ok (.iload_n 3, 1) := by decide +kernel
theorem dL_law_1286 : decode cL_law 1286 = .ok (.iconst 2, 1) := by decide +kernel
theorem dL_law_1287 : decode cL_law 1287 = .ok (.iadd, 1) := by decide +kernel
theorem dL_law_1288 : decode cL_law 1288 = .ok (.iaload, 1) := by decide +kernel
theorem dL_law_1289 : decode cL_law 1289 = .ok (.invokevirtual 118, 3) := by decide +kernel
theorem dL_law_1292 : decode cL_law 1292 = .ok (.aload_n 2, 1) := by decide +kernel
theorem dL_law_1293 : decode cL_law 1293 = .ok (.aload_n 0, 1) := by decide +kernel
theorem dL_law_1294 : decode cL_law 1294 = .ok (.iload_n 3, 1) := by decide +kernel
theorem dL_law_1295 : decode cL_law 1295 = .ok (.iconst 1, 1) := by decide +kernel
theorem dL_law_1296 : decode cL_law 1296 = .ok (.iadd, 1) := by decide +kernel
theorem dL_law_1297 : decode cL_law 1297 = .ok (.iaload, 1) := by decide +kernel
theorem dL_law_1298 : decode cL_law 1298 = .ok (.aload_n 0, 1) := by decide +kernel
theorem dL_law_1299 : decode cL_law 1299 = .ok (.iload_n 3, 1) := by decide +kernel
theorem dL_law_1300 : decode cL_law 1300 = .ok (.iconst 2, 1) := by decide +kernel
theorem dL_law_1301 : decode cL_law 1301 = .ok (.iadd, 1) := by decide +kernel
theorem dL_law_1302 : decode cL_law 1302 = .ok (.iaload, 1) := by decide +kernel
theorem dL_law_1303 : decode cL_law 1303 = .ok (.invokevirtual 121, 3) := by decide +kernel
theorem dL_law_1306 : decode cL_law 1306 = .ok (.if_icmp .eq 732, 3) := by decide +kernel
theorem dL_law_1309 : decode cL_law 1309 = .ok (.iconst 0, 1) := by decide +kernel
theorem dL_law_1310 : decode cL_law 1310 = .ok (.ireturn, 1) := by decide +kernel
theorem dL_law_1311 : decode cL_law 1311 = .ok (.aload_n 1, 1) := by decide +kernel
theorem dL_law_1312 : decode cL_law 1312 = .ok (.aload_n 0, 1) := by decide +kernel
theorem dL_law_1313 : decode cL_law 1313 = .ok (.iload_n 3, 1) := by decide +kernel
theorem dL_law_1314 : decode cL_law 1314 = .ok (.iconst 1, 1) := by decide +kernel
theorem dL_law_1315 : decode cL_law 1315 = .ok (.iadd, 1) := by decide +kernel
theorem dL_law_1316 : decode cL_law 1316 = .ok (.iaload, 1) := by decide +kernel
theorem dL_law_1317 : decode cL_law 1317 = .ok (.aload_n 0, 1) := by decide +kernel
theorem dL_law_1318 : decode cL_law 1318 = .ok (.iload_n 3, 1) := by decide +kernel
theorem dL_law_1319 : decode cL_law 1319 = .ok (.iconst 2, 1) := by decide +kernel
theorem dL_law_1320 : decode cL_law 1320 = .ok (.iadd, 1) := by decide +kernel
theorem dL_law_1321 : decode cL_law 1321 = .ok (.iaload, 1) := by decide +kernel
theorem dL_law_1322 : decode cL_law 1322 = .ok (.aload_n 0, 1) := by decide +kernel
theorem dL_law_1323 : decode cL_law 1323 = .ok (.iload_n 3, 1) := by decide +kernel
theorem dL_law_1324 : decode cL_law 1324 = .ok (.iconst 3, 1) := by decide +kernel
theorem dL_law_1325 : decode cL_law 1325 = .ok (.iadd, 1) := by decide +kernel
theorem dL_law_1326 : decode cL_law 1326 = .ok (.iaload, 1) := by decide +kernel
theorem dL_law_1327 : decode cL_law 1327 = .ok (.invokevirtual 122, 3) := by decide +kernel
theorem dL_law_1330 : decode cL_law 1330 = .ok (.aload_n 2, 1) := by decide +kernel
theorem dL_law_1331 : decode cL_law 1331 = .ok (.aload_n 0, 1) := by decide +kernel
theorem dL_law_1332 : decode cL_law 1332 = .ok (.iload_n 3, 1) := by decide +kernel
theorem dL_law_1333 : decode cL_law 1333 = .ok (.iconst 1, 1) := by decide +kernel
theorem dL_law_1334 : decode cL_law 1334 = .ok (.iadd, 1) := by decide +kernel
theorem dL_law_1335 : decode cL_law 1335 = .ok (.iaload, 1) := by decide +kernel
theorem dL_law_1336 : decode cL_law 1336 = .ok (.aload_n 0, 1) := by decide +kernel
theorem dL_law_1337 : decode cL_law 1337 = .ok (.iload_n 3, 1) := by decide +kernel
theorem dL_law_1338 : decode cL_law 1338 = .ok (.iconst 2, 1) := by decide +kernel
theorem dL_law_1339 : decode cL_law 1339 = .ok (.iadd, 1) := by decide +kernel
theorem dL_law_1340 : decode cL_law 1340 = .ok (.iaload, 1) := by decide +kernel
theorem dL_law_1341 : decode cL_law 1341 = .ok (.aload_n 0, 1) := by decide +kernel
theorem dL_law_1342 : decode cL_law 1342 = .ok (.iload_n 3, 1) := by decide +kernel
theorem dL_law_1343 : decode cL_law 1343 = .ok (.iconst 3, 1) := by decide +kernel
theorem dL_law_1344 : decode cL_law 1344 = .ok (.iadd, 1) := by decide +kernel
theorem dL_law_1345 : decode cL_law 1345 = .ok (.iaload, 1) := by decide +kernel
theorem dL_law_1346 : decode cL_law 1346 = .ok (.invokevirtual 125, 3) := by decide +kernel
theorem dL_law_1349 : decode cL_law 1349 = .ok (.if_icmp .eq 689, 3) := by decide +kernel
theorem dL_law_1352 : decode cL_law 1352 = .ok (.iconst 0, 1) := by decide +kernel
theorem dL_law_1353 : decode cL_law 1353 = .ok (.ireturn, 1) := by decide +kernel
theorem dL_law_1354 : decode cL_law 1354 = .ok (.aload_n 1, 1) := by decide +kernel
theorem dL_law_1355 : decode cL_law 1355 = .ok (.aload_n 0, 1) := by decide +kernel
theorem dL_law_1356 : decode cL_law 1356 = .ok (.iload_n 3, 1) := by decide +kernel
theorem dL_law_1357 : decode cL_law 1357 = .ok (.iconst 1, 1) := by decide +kernel
theorem dL_law_1358 : decode cL_law 1358 = .ok (.iadd, 1) := by decide +kernel
theorem dL_law_1359 : decode cL_law 1359 = .ok (.iaload, 1) := by decide +kernel
theorem dL_law_1360 : decode cL_law 1360 = .ok (.aload_n 0, 1) := by decide +kernel
theorem dL_law_1361 : decode cL_law 1361 = .ok (.iload_n 3, 1) := by decide +kernel
theorem dL_law_1362 : decode cL_law 1362 = .ok (.iconst 2, 1) := by decide +kernel
theorem dL_law_1363 : decode cL_law 1363 = .ok (.iadd, 1) := by decide +kernel
theorem dL_law_1364 : decode cL_law 1364 = .ok (.iaload, 1) := by decide +kernel
theorem dL_law_1365 : decode cL_law 1365 = .ok (.aload_n 0, 1) := by decide +kernel
theorem dL_law_1366 : decode cL_law 1366 = .ok (.iload_n 3, 1) := by decide +kernel
theorem dL_law_1367 : decode cL_law 1367 = .ok (.iconst 3, 1) := by decide +kernel
theorem dL_law_1368 : decode cL_law 1368 = .ok (.iadd, 1) := by decide +kernel
theorem dL_law_1369 : decode cL_law 1369 = .ok (.iaload, 1) := by decide +kernel
theorem dL_law_1370 : decode cL_law 1370 = .ok (.aload_n 0, 1) := by decide +kernel
theorem dL_law_1371 : decode cL_law 1371 = .ok (.iload_n 3, 1) := by decide +kernel
theorem dL_law_1372 : decode cL_law 1372 = .ok (.iconst 4, 1) := by decide +kernel
theorem dL_law_1373 : decode cL_law 1373 = .ok (.iadd, 1) := by decide +kernel
theorem dL_law_1374 : decode cL_law 1374 = .ok (.iaload, 1) := by decide +kernel
theorem dL_law_1375 : decode cL_law 1375 = .ok (.invokevirtual 126, 3) := by decide +kernel
theorem dL_law_1378 : decode cL_law 1378 = .ok (.aload_n 2, 1) := by decide +kernel
theorem dL_law_1379 : decode cL_law 1379 = .ok (.aload_n 0, 1) := by decide +kernel
theorem dL_law_1380 : decode cL_law 1380 = .ok (.iload_n 3, 1) := by decide +kernel
theorem dL_law_1381 : decode cL_law 1381 = .ok (.iconst 1, 1) := by decide +kernel
theorem dL_law_1382 : decode cL_law 1382 = .ok (.iadd, 1) := by decide +kernel
theorem dL_law_1383 : decode cL_law 1383 = .ok (.iaload, 1) := by decide +kernel
theorem dL_law_1384 : decode cL_law 1384 = .ok (.aload_n 0, 1) := by decide +kernel
theorem dL_law_1385 : decode cL_law 1385 = .ok (.iload_n 3, 1) := by decide +kernel
theorem dL_law_1386 : decode cL_law 1386 = .ok (.iconst 2, 1) := by decide +kernel
theorem dL_law_1387 : decode cL_law 1387 = .ok (.iadd, 1) := by decide +kernel
theorem dL_law_1388 : decode cL_law 1388 = .ok (.iaload, 1) := by decide +kernel
theorem dL_law_1389 : decode cL_law 1389 = .ok (.aload_n 0, 1) := by decide +kernel
theorem dL_law_1390 : decode cL_law 1390 = .ok (.iload_n 3, 1) := by decide +kernel
theorem dL_law_1391 : decode cL_law 1391 = .ok (.iconst 3, 1) := by decide +kernel
theorem dL_law_1392 : decode cL_law 1392 = .ok (.iadd, 1) := by decide +kernel
theorem dL_law_1393 : decode cL_law 1393 = .ok (.iaload, 1) := by decide +kernel
theorem dL_law_1394 : decode cL_law 1394 = .ok (.aload_n 0, 1) := by decide +kernel
theorem dL_law_1395 : decode cL_law 1395 = .ok (.iload_n 3, 1) := by decide +kernel
theorem dL_law_1396 : decode cL_law 1396 = .ok (.iconst 4, 1) := by decide +kernel
theorem dL_law_1397 : decode cL_law 1397 = .ok (.iadd, 1) := by decide +kernel
theorem dL_law_1398 : decode cL_law 1398 = .ok (.iaload, 1) := by decide +kernel
theorem dL_law_1399 : decode cL_law 1399 = .ok (.invokevirtual 129, 3) := by decide +kernel
theorem dL_law_1402 : decode cL_law 1402 = .ok (.if_icmp .eq 636, 3) := by decide +kernel
theorem dL_law_1405 : decode cL_law 1405 = .ok (.iconst 0, 1) := by decide +kernel
theorem dL_law_1406 : decode cL_law 1406 = .ok (.ireturn, 1) := by decide +kernel
theorem dL_law_1407 : decode cL_law 1407 = .ok (.aload_n 1, 1) := by decide +kernel
theorem dL_law_1408 : decode cL_law 1408 = .ok (.aload_n 0, 1) := by decide +kernel
theorem dL_law_1409 : decode cL_law 1409 = .ok (.iload_n 3, 1) := by decide +kernel
theorem dL_law_1410 : decode cL_law 1410 = .ok (.iconst 1, 1) := by decide +kernel
theorem dL_law_1411 : decode cL_law 1411 = .ok (.iadd, 1) := by decide +kernel
theorem dL_law_1412 : decode cL_law 1412 = .ok (.iaload, 1) := by decide +kernel
theorem dL_law_1413 : decode cL_law 1413 = .ok (.aload_n 0, 1) := by decide +kernel
theorem dL_law_1414 : decode cL_law 1414 = .ok (.iload_n 3, 1) := by decide +kernel
theorem dL_law_1415 : decode cL_law 1415 = .ok (.iconst 2, 1) := by decide +kernel
theorem dL_law_1416 : decode cL_law 1416 = .ok (.iadd, 1) := by decide +kernel
theorem dL_law_1417 : decode cL_law 1417 = .ok (.iaload, 1) := by decide +kernel
theorem dL_law_1418 : decode cL_law 1418 = .ok (.aload_n 0, 1) := by decide +kernel
theorem dL_law_1419 : decode cL_law 1419 = .ok (.iload_n 3, 1) := by decide +kernel
theorem dL_law_1420 : decode cL_law 1420 = .ok (.iconst 3, 1) := by decide +kernel
theorem dL_law_1421 : decode cL_law 1421 = .ok (.iadd, 1) := by decide +kernel
theorem dL_law_1422 : decode cL_law 1422 = .ok (.iaload, 1) := by decide +kernel
theorem dL_law_1423 : decode cL_law 1423 = .ok (.aload_n 0, 1) := by decide +kernel
theorem dL_law_1424 : decode cL_law 1424 = .ok (.iload_n 3, 1) := by decide +kernel
theorem dL_law_1425 : decode cL_law 1425 = .ok (.iconst 4, 1) := by decide +kernel
theorem dL_law_1426 : decode cL_law 1426 = .ok (.iadd, 1) := by decide +kernel
theorem dL_law_1427 : decode cL_law 1427 = .ok (.iaload, 1) := by decide +kernel
theorem dL_law_1428 : decode cL_law 1428 = .ok (.invokevirtual 130, 3) := by decide +kernel
theorem dL_law_1431 : decode cL_law 1431 = .ok (.aload_n 2, 1) := by decide +kernel
theorem dL_law_1432 : decode cL_law 1432 = .ok (.aload_n 0, 1) := by decide +kernel
theorem dL_law_1433 : decode cL_law 1433 = .ok (.iload_n 3, 1) := by decide +kernel
theorem dL_law_1434 : decode cL_law 1434 = .ok (.iconst 1, 1) := by decide +kernel
theorem dL_law_1435 : decode cL_law 1435 = .ok (.iadd, 1) := by decide +kernel
theorem dL_law_1436 : decode cL_law 1436 = .ok (.iaload, 1) := by decide +kernel
theorem dL_law_1437 : decode cL_law 1437 = .ok (.aload_n 0, 1) := by decide +kernel
theorem dL_law_1438 : decode cL_law 1438 = .ok (.iload_n 3, 1) := by decide +kernel
theorem dL_law_1439 : decode cL_law 1439 = .ok (.iconst 2, 1) := by decide +kernel
theorem dL_law_1440 : decode cL_law 1440 = .ok (.iadd, 1) := by decide +kernel
theorem dL_law_1441 : decode cL_law 1441 = .ok (.iaload, 1) := by decide +kernel
theorem dL_law_1442 : decode cL_law 1442 = .ok (.aload_n 0, 1) := by decide +kernel
theorem dL_law_1443 : decode cL_law 1443 = .ok (.iload_n 3, 1) := by decide +kernel
theorem dL_law_1444 : decode cL_law 1444 = .ok (.iconst 3, 1) := by decide +kernel
theorem dL_law_1445 : decode cL_law 1445 = .ok (.iadd, 1) := by decide +kernel
theorem dL_law_1446 : decode cL_law 1446 = .ok (.iaload, 1) := by decide +kernel
theorem dL_law_1447 : decode cL_law 1447 = .ok (.aload_n 0, 1) := by decide +kernel
theorem dL_law_1448 : decode cL_law 1448 = .ok (.iload_n 3, 1) := by decide +kernel
theorem dL_law_1449 : decode cL_law 1449 = .ok (.iconst 4, 1) := by decide +kernel
theorem dL_law_1450 : decode cL_law 1450 = .ok (.iadd, 1) := by decide +kernel
theorem dL_law_1451 : decode cL_law 1451 = .ok (.iaload, 1) := by decide +kernel
theorem dL_law_1452 : decode cL_law 1452 = .ok (.invokevirtual 133, 3) := by decide +kernel
theorem dL_law_1455 : decode cL_law 1455 = .ok (.if_icmp .eq 583, 3) := by decide +kernel
theorem dL_law_1458 : decode cL_law 1458 = .ok (.iconst 0, 1) := by decide +kernel
theorem dL_law_1459 : decode cL_law 1459 = .ok (.ireturn, 1) := by decide +kernel
theorem dL_law_1460 : decode cL_law 1460 = .ok (.aload_n 1, 1) := by decide +kernel
theorem dL_law_1461 : decode cL_law 1461 = .ok (.aload_n 0, 1) := by decide +kernel
theorem dL_law_1462 : decode cL_law 1462 = .ok (.iload_n 3, 1) := by decide +kernel
theorem dL_law_1463 : decode cL_law 1463 = .ok (.iconst 1, 1) := by decide +kernel
theorem dL_law_1464 : decode cL_law 1464 = .ok (.iadd, 1) := by decide +kernel
theorem dL_law_1465 : decode cL_law 1465 = .ok (.iaload, 1) := by decide +kernel
theorem dL_law_1466 : decode cL_law 1466 = .ok (.invokevirtual 134, 3) := by decide +kernel
theorem dL_law_1469 : decode cL_law 1469 = .ok (.aload_n 2, 1) := by decide +kernel
theorem dL_law_1470 : decode cL_law 1470 = .ok (.aload_n 0, 1) := by decide +kernel
theorem dL_law_1471 : decode cL_law 1471 = .ok (.iload_n 3, 1) := by decide +kernel
theorem dL_law_1472 : decode cL_law 1472 = .ok (.iconst 1, 1) := by decide +kernel
theorem dL_law_1473 : decode cL_law 1473 = .ok (.iadd, 1) := by decide +kernel
theorem dL_law_1474 : decode cL_law 1474 = .ok (.iaload, 1) := by decide +kernel
theorem dL_law_1475 : decode cL_law 1475 = .ok (.invokevirtual 137, 3) := by decide +kernel
theorem dL_law_1478 : decode cL_law 1478 = .ok (.if_icmp .eq 560, 3) := by decide +kernel
theorem dL_law_1481 : decode cL_law 1481 = .ok (.iconst 0, 1) := by decide +kernel
theorem dL_law_1482 : decode cL_law 1482 = .ok (.ireturn, 1) := by decide +kernel
theorem dL_law_1483 : decode cL_law 1483 = .ok (.aload_n 1, 1) := by decide +kernel
theorem dL_law_1484 : decode cL_law 1484 = .ok (.aload_n 0, 1) := by decide +kernel
theorem dL_law_1485 : decode cL_law 1485 = .ok (.iload_n 3, 1) := by decide +kernel
theorem dL_law_1486 : decode cL_law 1486 = .ok (.iconst 1, 1) := by decide +kernel
theorem dL_law_1487 : decode cL_law 1487 = .ok (.iadd, 1) := by decide +kernel
theorem dL_law_1488 : decode cL_law 1488 = .ok (.iaload, 1) := by decide +kernel
theorem dL_law_1489 : decode cL_law 1489 = .ok (.aload_n 0, 1) := by decide +kernel
theorem dL_law_1490 : decode cL_law 1490 = .ok (.iload_n 3, 1) := by decide +kernel
theorem dL_law_1491 : decode cL_law 1491 = .ok (.iconst 2, 1) := by decide +kernel
theorem dL_law_1492 : decode cL_law 1492 = .ok (.iadd, 1) := by decide +kernel
theorem dL_law_1493 : decode cL_law 1493 = .ok (.iaload, 1) := by decide +kernel
theorem dL_law_1494 : decode cL_law 1494 = .ok (.aload_n 0, 1) := by decide +kernel
theorem dL_law_1495 : decode cL_law 1495 = .ok (.iload_n 3, 1) := by decide +kernel
theorem dL_law_1496 : decode cL_law 1496 = .ok (.iconst 3, 1) := by decide +kernel
theorem dL_law_1497 : decode cL_law 1497 = .ok (.iadd, 1) := by decide +kernel
theorem dL_law_1498 : decode cL_law 1498 = .ok (.iaload, 1) := by decide +kernel
theorem dL_law_1499 : decode cL_law 1499 = .ok (.invokevirtual 138, 3) := by decide +kernel
theorem dL_law_1502 : decode cL_law 1502 = .ok (.aload_n 2, 1) := by decide +kernel
theorem dL_law_1503 : decode cL_law 1503 = .ok (.aload_n 0, 1) := by decide +kernel
theorem dL_law_1504 : decode cL_law 1504 = .ok (.iload_n 3, 1) := by decide +kernel
theorem dL_law_1505 : decode cL_law 1505 = .ok (.iconst 1, 1) := by decide +kernel
theorem dL_law_1506 : decode cL_law 1506 = .ok (.iadd, 1) := by decide +kernel
theorem dL_law_1507 : decode cL_law 1507 = .ok (.iaload, 1) := by decide +kernel
theorem dL_law_1508 : decode cL_law 1508 = .ok (.aload_n 0, 1) := by decide +kernel
theorem dL_law_1509 : decode cL_law 1509 = .ok (.iload_n 3, 1) := by decide +kernel
theorem dL_law_1510 : decode cL_law 1510 = .ok (.iconst 2, 1) := by decide +kernel
theorem dL_law_1511 : decode cL_law 1511 = .ok (.iadd, 1) := by decide +kernel
theorem dL_law_1512 : decode cL_law 1512 = .ok (.iaload, 1) := by decide +kernel
theorem dL_law_1513 : decode cL_law 1513 = .ok (.aload_n 0, 1) := by decide +kernel
theorem dL_law_1514 : decode cL_law 1514 = .ok (.iload_n 3, 1) := by decide +kernel
theorem dL_law_1515 : decode cL_law 1515 = .ok (.iconst 3, 1) := by decide +kernel
theorem dL_law_1516 : decode cL_law 1516 = .ok (.iadd, 1) := by decide +kernel
theorem dL_law_1517 : decode cL_law 1517 = .ok (.iaload, 1) := by decide +kernel
theorem dL_law_1518 : decode cL_law 1518 = .ok (.invokevirtual 141, 3) := by decide +kernel
theorem dL_law_1521 : decode cL_law 1521 = .ok (.if_icmp .eq 517, 3) := by decide +kernel
theorem dL_law_1524 : decode cL_law 1524 = .ok (.iconst 0, 1) := by decide +kernel
theorem dL_law_1525 : decode cL_law 1525 = .ok (.ireturn, 1) := by decide +kernel
theorem dL_law_1526 : decode cL_law 1526 = .ok (.aload_n 1, 1) := by decide +kernel
theorem dL_law_1527 : decode cL_law 1527 = .ok (.aload_n 0, 1) := by decide +kernel
theorem dL_law_1528 : decode cL_law 1528 = .ok (.iload_n 3, 1) := by decide +kernel
theorem dL_law_1529 : decode cL_law 1529 = .ok (.iconst 1, 1) := by decide +kernel
theorem dL_law_1530 : decode cL_law 1530 = .ok (.iadd, 1) := by decide +kernel
theorem dL_law_1531 : decode cL_law 1531 = .ok (.iaload, 1) := by decide +kernel
theorem dL_law_1532 : decode cL_law 1532 = .ok (.aload_n 0, 1) := by decide +kernel
theorem dL_law_1533 : decode cL_law 1533 = .ok (.iload_n 3, 1) := by decide +kernel
theorem dL_law_1534 : decode cL_law 1534 = .ok (.iconst 2, 1) := by decide +kernel
theorem dL_law_1535 : decode cL_law 1535 = .ok (.iadd, 1) := by decide +kernel
theorem dL_law_1536 : decode cL_law 1536 = .ok (.iaload, 1) := by decide +kernel
theorem dL_law_1537 : decode cL_law 1537 = .ok (.invokevirtual 142, 3) := by decide +kernel
theorem dL_law_1540 : decode cL_law 1540 = .ok (.aload_n 2, 1) := by decide +kernel
theorem dL_law_1541 : decode cL_law 1541 = .ok (.aload_n 0, 1) := by decide +kernel
theorem dL_law_1542 : decode cL_law 1542 = .ok (.iload_n 3, 1) := by decide +kernel
theorem dL_law_1543 : decode cL_law 1543 = .ok (.iconst 1, 1) := by decide +kernel
theorem dL_law_1544 : decode cL_law 1544 = .ok (.iadd, 1) := by decide +kernel
theorem dL_law_1545 : decode cL_law 1545 = .ok (.iaload, 1) := by decide +kernel
theorem dL_law_1546 : decode cL_law 1546 = .ok (.aload_n 0, 1) := by decide +kernel
theorem dL_law_1547 : decode cL_law 1547 = .ok (.iload_n 3, 1) := by decide +kernel
theorem dL_law_1548 : decode cL_law 1548 = .ok (.iconst 2, 1) := by decide +kernel
theorem dL_law_1549 : decode cL_law 1549 = .ok (.iadd, 1) := by decide +kernel
theorem dL_law_1550 : decode cL_law 1550 = .ok (.iaload, 1) := by decide +kernel
theorem dL_law_1551 : decode cL_law 1551 = .ok (.invokevirtual 145, 3) := by decide +kernel
theorem dL_law_1554 : decode cL_law 1554 = .ok (.if_icmp .eq 484, 3) := by decide +kernel
theorem dL_law_1557 : decode cL_law 1557 = .ok (.iconst 0, 1) := by decide +kernel
theorem dL_law_1558 : decode cL_law 1558 = .ok (.ireturn, 1) := by decide +kernel
theorem dL_law_1559 : decode cL_law 1559 = .ok (.aload_n 1, 1) := by decide +kernel
theorem dL_law_1560 : decode cL_law 1560 = .ok (.aload_n 0, 1) := by decide +kernel
theorem dL_law_1561 : decode cL_law 1561 = .ok (.iload_n 3, 1) := by decide +kernel
theorem dL_law_1562 : decode cL_law 1562 = .ok (.iconst 1, 1) := by decide +kernel
theorem dL_law_1563 : decode cL_law 1563 = .ok (.iadd, 1) := by decide +kernel
theorem dL_law_1564 : decode cL_law 1564 = .ok (.iaload, 1) := by decide +kernel
theorem dL_law_1565 : decode cL_law 1565 = .ok (.aload_n 0, 1) := by decide +kernel
theorem dL_law_1566 : decode cL_law 1566 = .ok (.iload_n 3, 1) := by decide +kernel
theorem dL_law_1567 : decode cL_law 1567 = .ok (.iconst 2, 1) := by decide +kernel
theorem dL_law_1568 : decode cL_law 1568 = .ok (.iadd, 1) := by decide +kernel
theorem dL_law_1569 : decode cL_law 1569 = .ok (.iaload, 1) := by decide +kernel
theorem dL_law_1570 : decode cL_law 1570 = .ok (.aload_n 0, 1) := by decide +kernel
theorem dL_law_1571 : decode cL_law 1571 = .ok (.iload_n 3, 1) := by decide +kernel
theorem dL_law_1572 : decode cL_law 1572 = .ok (.iconst 3, 1) := by decide +kernel
theorem dL_law_1573 : decode cL_law 1573 = .ok (.iadd, 1) := by decide +kernel
theorem dL_law_1574 : decode cL_law 1574 = .ok (.iaload, 1) := by decide +kernel
theorem dL_law_1575 : decode cL_law 1575 = .ok (.invokevirtual 146, 3) := by decide +kernel
theorem dL_law_1578 : decode cL_law 1578 = .ok (.aload_n 2, 1) := by decide +kernel
theorem dL_law_1579 : decode cL_law 1579 = .ok (.aload_n 0, 1) := by decide +kernel
theorem dL_law_1580 : decode cL_law 1580 = .ok (.iload_n 3, 1) := by decide +kernel
theorem dL_law_1581 : decode cL_law 1581 = .ok (.iconst 1, 1) := by decide +kernel
theorem dL_law_1582 : decode cL_law 1582 = .ok (.iadd, 1) := by decide +kernel
theorem dL_law_1583 : decode cL_law 1583 = .ok (.iaload, 1) := by decide +kernel
theorem dL_law_1584 : decode cL_law 1584 = .ok (.aload_n 0, 1) := by decide +kernel
theorem dL_law_1585 : decode cL_law 1585 = .ok (.iload_n 3, 1) := by decide +kernel
theorem dL_law_1586 : decode cL_law 1586 = .ok (.iconst 2, 1) := by decide +kernel
theorem dL_law_1587 : decode cL_law 1587 = .ok (.iadd, 1) := by decide +kernel
theorem dL_law_1588 : decode cL_law 1588 = .ok (.iaload, 1) := by decide +kernel
theorem dL_law_1589 : decode cL_law 1589 = .ok (.aload_n 0, 1) := by decide +kernel
theorem dL_law_1590 : decode cL_law 1590 = .ok (.iload_n 3, 1) := by decide +kernel
theorem dL_law_1591 : decode cL_law 1591 = .ok (.iconst 3, 1) := by decide +kernel
theorem dL_law_1592 : decode cL_law 1592 = .ok (.iadd, 1) := by decide +kernel
theorem dL_law_1593 : decode cL_law 1593 = .ok (.iaload, 1) := by decide +kernel
theorem dL_law_1594 : decode cL_law 1594 = .ok (.invokevirtual 149, 3) := by decide +kernel
theorem dL_law_1597 : decode cL_law 1597 = .ok (.if_icmp .eq 441, 3) := by decide +kernel
theorem dL_law_1600 : decode cL_law 1600 = .ok (.iconst 0, 1) := by decide +kernel
theorem dL_law_1601 : decode cL_law 1601 = .ok (.ireturn, 1) := by decide +kernel
theorem dL_law_1602 : decode cL_law 1602 = .ok (.aload_n 1, 1) := by decide +kernel
theorem dL_law_1603 : decode cL_law 1603 = .ok (.aload_n 0, 1) := by decide +kernel
theorem dL_law_1604 : decode cL_law 1604 = .ok (.iload_n 3, 1) := by decide +kernel
theorem dL_law_1605 : decode cL_law 1605 = .ok (.iconst 1, 1) := by decide +kernel
theorem dL_law_1606 : decode cL_law 1606 = .ok (.iadd, 1) := by decide +kernel
theorem dL_law_1607 : decode cL_law 1607 = .ok (.iaload, 1) := by decide +kernel
theorem dL_law_1608 : decode cL_law 1608 = .ok (.aload_n 0, 1) := by decide +kernel
theorem dL_law_1609 : decode cL_law 1609 = .ok (.iload_n 3, 1) := by decide +kernel
theorem dL_law_1610 : decode cL_law 1610 = .ok (.iconst 2, 1) := by decide +kernel
theorem dL_law_1611 : decode cL_law 1611 = .ok (.iadd, 1) := by decide +kernel
theorem dL_law_1612 : decode cL_law 1612 = .ok (.iaload, 1) := by decide +kernel
theorem dL_law_1613 : decode cL_law 1613 = .ok (.invokevirtual 150, 3) := by decide +kernel
theorem dL_law_1616 : decode cL_law 1616 = .ok (.aload_n 2, 1) := by decide +kernel
theorem dL_law_1617 : decode cL_law 1617 = .ok (.aload_n 0, 1) := by decide +kernel
theorem dL_law_1618 : decode cL_law 1618 = .ok (.iload_n 3, 1) := by decide +kernel
theorem dL_law_1619 : decode cL_law 1619 = .ok (.iconst 1, 1) := by decide +kernel
theorem dL_law_1620 : decode cL_law 1620 = .ok (.iadd, 1) := by decide +kernel
theorem dL_law_1621 : decode cL_law 1621 = .ok (.iaload, 1) := by decide +kernel
theorem dL_law_1622 : decode cL_law 1622 = .ok (.aload_n 0, 1) := by decide +kernel
theorem dL_law_1623 : decode cL_law 1623 = .ok (.iload_n 3, 1) := by decide +kernel
theorem dL_law_1624 : decode cL_law 1624 = .ok (.iconst 2, 1) := by decide +kernel
theorem dL_law_1625 : decode cL_law 1625 = .ok (.iadd, 1) := by decide +kernel
theorem dL_law_1626 : decode cL_law 1626 = .ok (.iaload, 1) := by decide +kernel
theorem dL_law_1627 : decode cL_law 1627 = .ok (.invokevirtual 153, 3) := by decide +kernel
theorem dL_law_1630 : decode cL_law 1630 = .ok (.if_icmp .eq 408, 3) := by decide +kernel
theorem dL_law_1633 : decode cL_law 1633 = .ok (.iconst 0, 1) := by decide +kernel
theorem dL_law_1634 : decode cL_law 1634 = .ok (.ireturn, 1) := by decide +kernel
theorem dL_law_1635 : decode cL_law 1635 = .ok (.aload_n 1, 1) := by decide +kernel
theorem dL_law_1636 : decode cL_law 1636 = .ok (.aload_n 0, 1) := by decide +kernel
theorem dL_law_1637 : decode cL_law 1637 = .ok (.iload_n 3, 1) := by decide +kernel
theorem dL_law_1638 : decode cL_law 1638 = .ok (.iconst 1, 1) := by decide +kernel
theorem dL_law_1639 : decode cL_law 1639 = .ok (.iadd, 1) := by decide +kernel
theorem dL_law_1640 : decode cL_law 1640 = .ok (.iaload, 1) := by decide +kernel
theorem dL_law_1641 : decode cL_law 1641 = .ok (.aload_n 0, 1) := by decide +kernel
theorem dL_law_1642 : decode cL_law 1642 = .ok (.iload_n 3, 1) := by decide +kernel
theorem dL_law_1643 : decode cL_law 1643 = .ok (.iconst 2, 1) := by decide +kernel
theorem dL_law_1644 : decode cL_law 1644 = .ok (.iadd, 1) := by decide +kernel
theorem dL_law_1645 : decode cL_law 1645 = .ok (.iaload, 1) := by decide +kernel
theorem dL_law_1646 : decode cL_law 1646 = .ok (.aload_n 0, 1) := by decide +kernel
theorem dL_law_1647 : decode cL_law 1647 = .ok (.iload_n 3, 1) := by decide +kernel
theorem dL_law_1648 : decode cL_law 1648 = .ok (.iconst 3, 1) := by decide +kernel
theorem dL_law_1649 : decode cL_law 1649 = .ok (.iadd, 1) := by decide +kernel
theorem dL_law_1650 : decode cL_law 1650 = .ok (.iaload, 1) := by decide +kernel
theorem dL_law_1651 : decode cL_law 1651 = .ok (.invokevirtual 154, 3) := by decide +kernel
theorem dL_law_1654 : decode cL_law 1654 = .ok (.aload_n 2, 1) := by decide +kernel
theorem dL_law_1655 : decode cL_law 1655 = .ok (.aload_n 0, 1) := by decide +kernel
theorem dL_law_1656 : decode cL_law 1656 = .ok (.iload_n 3, 1) := by decide +kernel
theorem dL_law_1657 : decode cL_law 1657 = .ok (.iconst 1, 1) := by decide +kernel
theorem dL_law_1658 : decode cL_law 1658 = .ok (.iadd, 1) := by decide +kernel
theorem dL_law_1659 : decode cL_law 1659 = .ok (.iaload, 1) := by decide +kernel
theorem dL_law_1660 : decode cL_law 1660 = .ok (.aload_n 0, 1) := by decide +kernel
theorem dL_law_1661 : decode cL_law 1661 = .ok (.iload_n 3, 1) := by decide +kernel
theorem dL_law_1662 : decode cL_law 1662 = .ok (.iconst 2, 1) := by decide +kernel
theorem dL_law_1663 : decode cL_law 1663 = .ok (.iadd, 1) := by decide +kernel
theorem dL_law_1664 : decode cL_law 1664 = .ok (.iaload, 1) := by decide +kernel
theorem dL_law_1665 : decode cL_law 1665 = .ok (.aload_n 0, 1) := by decide +kernel
theorem dL_law_1666 : decode cL_law 1666 = .ok (.iload_n 3, 1) := by decide +kernel
theorem dL_law_1667 : decode cL_law 1667 = .ok (.iconst 3, 1) := by decide +kernel
theorem dL_law_1668 : decode cL_law 1668 = .ok (.iadd, 1) := by decide +kernel
theorem dL_law_1669 : decode cL_law 1669 = .ok (.iaload, 1) := by decide +kernel
theorem dL_law_1670 : decode cL_law 1670 = .ok (.invokevirtual 157, 3) := by decide +kernel
theorem dL_law_1673 : decode cL_law 1673 = .ok (.if_icmp .eq 365, 3) := by decide +kernel
theorem dL_law_1676 : decode cL_law 1676 = .ok (.iconst 0, 1) := by decide +kernel
theorem dL_law_1677 : decode cL_law 1677 = .ok (.ireturn, 1) := by decide +kernel
theorem dL_law_1678 : decode cL_law 1678 = .ok (.aload_n 1, 1) := by decide +kernel
theorem dL_law_1679 : decode cL_law 1679 = .ok (.aload_n 0, 1) := by decide +kernel
theorem dL_law_1680 : decode cL_law 1680 = .ok (.iload_n 3, 1) := by decide +kernel
theorem dL_law_1681 : decode cL_law 1681 = .ok (.iconst 1, 1) := by decide +kernel
theorem dL_law_1682 : decode cL_law 1682 = .ok (.iadd, 1) := by decide +kernel
theorem dL_law_1683 : decode cL_law 1683 = .ok (.iaload, 1) := by decide +kernel
theorem dL_law_1684 : decode cL_law 1684 = .ok (.aload_n 0, 1) := by decide +kernel
theorem dL_law_1685 : decode cL_law 1685 = .ok (.iload_n 3, 1) := by decide +kernel
theorem dL_law_1686 : decode cL_law 1686 = .ok (.iconst 2, 1) := by decide +kernel
theorem dL_law_1687 : decode cL_law 1687 = .ok (.iadd, 1) := by decide +kernel
theorem dL_law_1688 : decode cL_law 1688 = .ok (.iaload, 1) := by decide +kernel
theorem dL_law_1689 : decode cL_law 1689 = .ok (.aload_n 0, 1) := by decide +kernel
theorem dL_law_1690 : decode cL_law 1690 = .ok (.iload_n 3, 1) := by decide +kernel
theorem dL_law_1691 : decode cL_law 1691 = .ok (.iconst 3, 1) := by decide +kernel
theorem dL_law_1692 : decode cL_law 1692 = .ok (.iadd, 1) := by decide +kernel
theorem dL_law_1693 : decode cL_law 1693 = .ok (.iaload, 1) := by decide +kernel
theorem dL_law_1694 : decode cL_law 1694 = .ok (.aload_n 0, 1) := by decide +kernel
theorem dL_law_1695 : decode cL_law 1695 = .ok (.iload_n 3, 1) := by decide +kernel
theorem dL_law_1696 : decode cL_law 1696 = .ok (.iconst 4, 1) := by decide +kernel
theorem dL_law_1697 : decode cL_law 1697 = .ok (.iadd, 1) := by decide +kernel
theorem dL_law_1698 : decode cL_law 1698 = .ok (.iaload, 1) := by decide +kernel
theorem dL_law_1699 : decode cL_law 1699 = .ok (.invokevirtual 158, 3) := by decide +kernel
theorem dL_law_1702 : decode cL_law 1702 = .ok (.aload_n 2, 1) := by decide +kernel
theorem dL_law_1703 : decode cL_law 1703 = .ok (.aload_n 0, 1) := by decide +kernel
theorem dL_law_1704 : decode cL_law 1704 = .ok (.iload_n 3, 1) := by decide +kernel
theorem dL_law_1705 : decode cL_law 1705 = .ok (.iconst 1, 1) := by decide +kernel
theorem dL_law_1706 : decode cL_law 1706 = .ok (.iadd, 1) := by decide +kernel
theorem dL_law_1707 : decode cL_law 1707 = .ok (.iaload, 1) := by decide +kernel
theorem dL_law_1708 : decode cL_law 1708 = .ok (.aload_n 0, 1) := by decide +kernel
theorem dL_law_1709 : decode cL_law 1709 = .ok (.iload_n 3, 1) := by decide +kernel
theorem dL_law_1710 : decode cL_law 1710 = .ok (.iconst 2, 1) := by decide +kernel
theorem dL_law_1711 : decode cL_law 1711 = .ok (.iadd, 1) := by decide +kernel
theorem dL_law_1712 : decode cL_law 1712 = .ok (.iaload, 1) := by decide +kernel
theorem dL_law_1713 : decode cL_law 1713 = .ok (.aload_n 0, 1) := by decide +kernel
theorem dL_law_1714 : decode cL_law 1714 = .ok (.iload_n 3, 1) := by decide +kernel
theorem dL_law_1715 : decode cL_law 1715 = .ok (.iconst 3, 1) := by decide +kernel
theorem dL_law_1716 : decode cL_law 1716 = .ok (.iadd, 1) := by decide +kernel
theorem dL_law_1717 : decode cL_law 1717 = .ok (.iaload, 1) := by decide +kernel
theorem dL_law_1718 : decode cL_law 1718 = .ok (.aload_n 0, 1) := by decide +kernel
theorem dL_law_1719 : decode cL_law 1719 = .ok (.iload_n 3, 1) := by decide +kernel
theorem dL_law_1720 : decode cL_law 1720 = .ok (.iconst 4, 1) := by decide +kernel
theorem dL_law_1721 : decode cL_law 1721 = .ok (.iadd, 1) := by decide +kernel
theorem dL_law_1722 : decode cL_law 1722 = .ok (.iaload, 1) := by decide +kernel
theorem dL_law_1723 : decode cL_law 1723 = .ok (.invokevirtual 161, 3) := by decide +kernel
theorem dL_law_1726 : decode cL_law 1726 = .ok (.if_icmp .eq 312, 3) := by decide +kernel
theorem dL_law_1729 : decode cL_law 1729 = .ok (.iconst 0, 1) := by decide +kernel
theorem dL_law_1730 : decode cL_law 1730 = .ok (.ireturn, 1) := by decide +kernel
theorem dL_law_1731 : decode cL_law 1731 = .ok (.aload_n 1, 1) := by decide +kernel
theorem dL_law_1732 : decode cL_law 1732 = .ok (.aload_n 0, 1) := by decide +kernel
theorem dL_law_1733 : decode cL_law 1733 = .ok (.iload_n 3, 1) := by decide +kernel
theorem dL_law_1734 : decode cL_law 1734 = .ok (.iconst 1, 1) := by decide +kernel
theorem dL_law_1735 : decode cL_law 1735 = .ok (.iadd, 1) := by decide +kernel
theorem dL_law_1736 : decode cL_law 1736 = .ok (.iaload, 1) := by decide +kernel
theorem dL_law_1737 : decode cL_law 1737 = .ok (.aload_n 0, 1) := by decide +kernel
theorem dL_law_1738 : decode cL_law 1738 = .ok (.iload_n 3, 1) := by decide +kernel
theorem dL_law_1739 : decode cL_law 1739 = .ok (.iconst 2, 1) := by decide +kernel
theorem dL_law_1740 : decode cL_law 1740 = .ok (.iadd, 1) := by decide +kernel
theorem dL_law_1741 : decode cL_law 1741 = .ok (.iaload, 1) := by decide +kernel
theorem dL_law_1742 : decode cL_law 1742 = .ok (.invokevirtual 162, 3) := by decide +kernel
theorem dL_law_1745 : decode cL_law 1745 = .ok (.aload_n 2, 1) := by decide +kernel
theorem dL_law_1746 : decode cL_law 1746 = .ok (.aload_n 0, 1) := by decide +kernel
theorem dL_law_1747 : decode cL_law 1747 = .ok (.iload_n 3, 1) := by decide +kernel
theorem dL_law_1748 : decode cL_law 1748 = .ok (.iconst 1, 1) := by decide +kernel
theorem dL_law_1749 : decode cL_law 1749 = .ok (.iadd, 1) := by decide +kernel
theorem dL_law_1750 : decode cL_law 1750 = .ok (.iaload, 1) := by decide +kernel
theorem dL_law_1751 : decode cL_law 1751 = .ok (.aload_n 0, 1) := by decide +kernel
theorem dL_law_1752 : decode cL_law 1752 = .ok (.iload_n 3, 1) := by decide +kernel
theorem dL_law_1753 : decode cL_law 1753 = .ok (.iconst 2, 1) := by decide +kernel
theorem dL_law_1754 : decode cL_law 1754 = .ok (.iadd, 1) := by decide +kernel
theorem dL_law_1755 : decode cL_law 1755 = .ok (.iaload, 1) := by decide +kernel
theorem dL_law_1756 : decode cL_law 1756 = .ok (.invokevirtual 165, 3) := by decide +kernel
theorem dL_law_1759 : decode cL_law 1759 = .ok (.if_icmp .eq 279, 3) := by decide +kernel
theorem dL_law_1762 : decode cL_law 1762 = .ok (.iconst 0, 1) := by decide +kernel
theorem dL_law_1763 : decode cL_law 1763 = .ok (.ireturn, 1) := by decide +kernel
theorem dL_law_1764 : decode cL_law 1764 = .ok (.aload_n 1, 1) := by decide +kernel
theorem dL_law_1765 : decode cL_law 1765 = .ok (.aload_n 0, 1) := by decide +kernel
theorem dL_law_1766 : decode cL_law 1766 = .ok (.iload_n 3, 1) := by decide +kernel
theorem dL_law_1767 : decode cL_law 1767 = .ok (.iconst 1, 1) := by decide +kernel
theorem dL_law_1768 : decode cL_law 1768 = .ok (.iadd, 1) := by decide +kernel
theorem dL_law_1769 : decode cL_law 1769 = .ok (.iaload, 1) := by decide +kernel
theorem dL_law_1770 : decode cL_law 1770 = .ok (.aload_n 0, 1) := by decide +kernel
theorem dL_law_1771 : decode cL_law 1771 = .ok (.iload_n 3, 1) := by decide +kernel
theorem dL_law_1772 : decode cL_law 1772 = .ok (.iconst 2, 1) := by decide +kernel
theorem dL_law_1773 : decode cL_law 1773 = .ok (.iadd, 1) := by decide +kernel
theorem dL_law_1774 : decode cL_law 1774 = .ok (.iaload, 1) := by decide +kernel
theorem dL_law_1775 : decode cL_law 1775 = .ok (.aload_n 0, 1) := by decide +kernel
theorem dL_law_1776 : decode cL_law 1776 = .ok (.iload_n 3, 1) := by decide +kernel
theorem dL_law_1777 : decode cL_law 1777 = .ok (.iconst 3, 1) := by decide +kernel
theorem dL_law_1778 : decode cL_law 1778 = .ok (.iadd, 1) := by decide +kernel
theorem dL_law_1779 : decode cL_law 1779 = .ok (.iaload, 1) := by decide +kernel
theorem dL_law_1780 : decode cL_law 1780 = .ok (.invokevirtual 166, 3) := by decide +kernel
theorem dL_law_1783 : decode cL_law 1783 = .ok (.aload_n 2, 1) := by decide +kernel
theorem dL_law_1784 : decode cL_law 1784 = .ok (.aload_n 0, 1) := by decide +kernel
theorem dL_law_1785 : decode cL_law 1785 = .ok (.iload_n 3, 1) := by decide +kernel
theorem dL_law_1786 : decode cL_law 1786 = .ok (.iconst 1, 1) := by decide +kernel
theorem dL_law_1787 : decode cL_law 1787 = .ok (.iadd, 1) := by decide +kernel
theorem dL_law_1788 : decode cL_law 1788 = .ok (.iaload, 1) := by decide +kernel
theorem dL_law_1789 : decode cL_law 1789 = .ok (.aload_n 0, 1) := by decide +kernel
theorem dL_law_1790 : decode cL_law 1790 = .ok (.iload_n 3, 1) := by decide +kernel
theorem dL_law_1791 : decode cL_law 1791 = .ok (.iconst 2, 1) := by decide +kernel
theorem dL_law_1792 : decode cL_law 1792 = .ok (.iadd, 1) := by decide +kernel
theorem dL_law_1793 : decode cL_law 1793 = .ok (.iaload, 1) := by decide +kernel
theorem dL_law_1794 : decode cL_law 1794 = .ok (.aload_n 0, 1) := by decide +kernel
theorem dL_law_1795 : decode cL_law 1795 = .ok (.iload_n 3, 1) := by decide +kernel
theorem dL_law_1796 : decode cL_law 1796 = .ok (.iconst 3, 1) := by decide +kernel
theorem dL_law_1797 : decode cL_law 1797 = .ok (.iadd, 1) := by decide +kernel
theorem dL_law_1798 : decode cL_law 1798 = .ok (.iaload, 1) := by decide +kernel
theorem dL_law_1799 : decode cL_law 1799 = .ok (.invokevirtual 169, 3) := by decide +kernel
theorem dL_law_1802 : decode cL_law 1802 = .ok (.if_icmp .eq 236, 3) := by decide +kernel
theorem dL_law_1805 : decode cL_law 1805 = .ok (.iconst 0, 1) := by decide +kernel
theorem dL_law_1806 : decode cL_law 1806 = .ok (.ireturn, 1) := by decide +kernel
theorem dL_law_1807 : decode cL_law 1807 = .ok (.aload_n 1, 1) := by decide +kernel
theorem dL_law_1808 : decode cL_law 1808 = .ok (.aload_n 0, 1) := by decide +kernel
theorem dL_law_1809 : decode cL_law 1809 = .ok (.iload_n 3, 1) := by decide +kernel
theorem dL_law_1810 : decode cL_law 1810 = .ok (.iconst 1, 1) := by decide +kernel
theorem dL_law_1811 : decode cL_law 1811 = .ok (.iadd, 1) := by decide +kernel
theorem dL_law_1812 : decode cL_law 1812 = .ok (.iaload, 1) := by decide +kernel
theorem dL_law_1813 : decode cL_law 1813 = .ok (.aload_n 0, 1) := by decide +kernel
theorem dL_law_1814 : decode cL_law 1814 = .ok (.iload_n 3, 1) := by decide +kernel
theorem dL_law_1815 : decode cL_law 1815 = .ok (.iconst 2, 1) := by decide +kernel
theorem dL_law_1816 : decode cL_law 1816 = .ok (.iadd, 1) := by decide +kernel
theorem dL_law_1817 : decode cL_law 1817 = .ok (.iaload, 1) := by decide +kernel
theorem dL_law_1818 : decode cL_law 1818 = .ok (.aload_n 0, 1) := by decide +kernel
theorem dL_law_1819 : decode cL_law 1819 = .ok (.iload_n 3, 1) := by decide +kernel
theorem dL_law_1820 : decode cL_law 1820 = .ok (.iconst 3, 1) := by decide +kernel
theorem dL_law_1821 : decode cL_law 1821 = .ok (.iadd, 1) := by decide +kernel
theorem dL_law_1822 : decode cL_law 1822 = .ok (.iaload, 1) := by decide +kernel
theorem dL_law_1823 : decode cL_law 1823 = .ok (.aload_n 0, 1) := by decide +kernel
theorem dL_law_1824 : decode cL_law 1824 = .ok (.iload_n 3, 1) := by decide +kernel
theorem dL_law_1825 : decode cL_law 1825 = .ok (.iconst 4, 1) := by decide +kernel
theorem dL_law_1826 : decode cL_law 1826 = .ok (.iadd, 1) := by decide +kernel
theorem dL_law_1827 : decode cL_law 1827 = .ok (.iaload, 1) := by decide +kernel
theorem dL_law_1828 : decode cL_law 1828 = .ok (.invokevirtual 170, 3) := by decide +kernel
theorem dL_law_1831 : decode cL_law 1831 = .ok (.aload_n 2, 1) := by decide +kernel
theorem dL_law_1832 : decode cL_law 1832 = .ok (.aload_n 0, 1) := by decide +kernel
theorem dL_law_1833 : decode cL_law 1833 = .ok (.iload_n 3, 1) := by decide +kernel
theorem dL_law_1834 : decode cL_law 1834 = .ok (.iconst 1, 1) := by decide +kernel
theorem dL_law_1835 : decode cL_law 1835 = .ok (.iadd, 1) := by decide +kernel
theorem dL_law_1836 : decode cL_law 1836 = .ok (.iaload, 1) := by decide +kernel
theorem dL_law_1837 : decode cL_law 1837 = .ok (.aload_n 0, 1) := by decide +kernel
theorem dL_law_1838 : decode cL_law 1838 = .ok (.iload_n 3, 1) := by decide +kernel
theorem dL_law_1839 : decode cL_law 1839 = .ok (.iconst 2, 1) := by decide +kernel
theorem dL_law_1840 : decode cL_law 1840 = .ok (.iadd, 1) := by decide +kernel
theorem dL_law_1841 : decode cL_law 1841 = .ok (.iaload, 1) := by decide +kernel
theorem dL_law_1842 : decode cL_law 1842 = .ok (.aload_n 0, 1) := by decide +kernel
theorem dL_law_1843 : decode cL_law 1843 = .ok (.iload_n 3, 1) := by decide +kernel
theorem dL_law_1844 : decode cL_law 1844 = .ok (.iconst 3, 1) := by decide +kernel
theorem dL_law_1845 : decode cL_law 1845 = .ok (.iadd, 1) := by decide +kernel
theorem dL_law_1846 : decode cL_law 1846 = .ok (.iaload, 1) := by decide +kernel
theorem dL_law_1847 : decode cL_law 1847 = .ok (.aload_n 0, 1) := by decide +kernel
theorem dL_law_1848 : decode cL_law 1848 = .ok (.iload_n 3, 1) := by decide +kernel
theorem dL_law_1849 : decode cL_law 1849 = .ok (.iconst 4, 1) := by decide +kernel
theorem dL_law_1850 : decode cL_law 1850 = .ok (.iadd, 1) := by decide +kernel
theorem dL_law_1851 : decode cL_law 1851 = .ok (.iaload, 1) := by decide +kernel
theorem dL_law_1852 : decode cL_law 1852 = .ok (.invokevirtual 173, 3) := by decide +kernel
theorem dL_law_1855 : decode cL_law 1855 = .ok (.if_icmp .eq 183, 3) := by decide +kernel
theorem dL_law_1858 : decode cL_law 1858 = .ok (.iconst 0, 1) := by decide +kernel
theorem dL_law_1859 : decode cL_law 1859 = .ok (.ireturn, 1) := by decide +kernel
theorem dL_law_1860 : decode cL_law 1860 = .ok (.aload_n 1, 1) := by decide +kernel
theorem dL_law_1861 : decode cL_law 1861 = .ok (.aload_n 0, 1) := by decide +kernel
theorem dL_law_1862 : decode cL_law 1862 = .ok (.iload_n 3, 1) := by decide +kernel
theorem dL_law_1863 : decode cL_law 1863 = .ok (.iconst 1, 1) := by decide +kernel
theorem dL_law_1864 : decode cL_law 1864 = .ok (.iadd, 1) := by decide +kernel
theorem dL_law_1865 : decode cL_law 1865 = .ok (.iaload, 1) := by decide +kernel
theorem dL_law_1866 : decode cL_law 1866 = .ok (.aload_n 0, 1) := by decide +kernel
theorem dL_law_1867 : decode cL_law 1867 = .ok (.iload_n 3, 1) := by decide +kernel
theorem dL_law_1868 : decode cL_law 1868 = .ok (.iconst 2, 1) := by decide +kernel
theorem dL_law_1869 : decode cL_law 1869 = .ok (.iadd, 1) := by decide +kernel
theorem dL_law_1870 : decode cL_law 1870 = .ok (.iaload, 1) := by decide +kernel
theorem dL_law_1871 : decode cL_law 1871 = .ok (.aload_n 0, 1) := by decide +kernel
theorem dL_law_1872 : decode cL_law 1872 = .ok (.iload_n 3, 1) := by decide +kernel
theorem dL_law_1873 : decode cL_law 1873 = .ok (.iconst 3, 1) := by decide +kernel
theorem dL_law_1874 : decode cL_law 1874 = .ok (.iadd, 1) := by decide +kernel
theorem dL_law_1875 : decode cL_law 1875 = .ok (.iaload, 1) := by decide +kernel
theorem dL_law_1876 : decode cL_law 1876 = .ok (.aload_n 0, 1) := by decide +kernel
theorem dL_law_1877 : decode cL_law 1877 = .ok (.iload_n 3, 1) := by decide +kernel
theorem dL_law_1878 : decode cL_law 1878 = .ok (.iconst 4, 1) := by decide +kernel
theorem dL_law_1879 : decode cL_law 1879 = .ok (.iadd, 1) := by decide +kernel
theorem dL_law_1880 : decode cL_law 1880 = .ok (.iaload, 1) := by decide +kernel
theorem dL_law_1881 : decode cL_law 1881 = .ok (.invokevirtual 174, 3) := by decide +kernel
theorem dL_law_1884 : decode cL_law 1884 = .ok (.aload_n 2, 1) := by decide +kernel
theorem dL_law_1885 : decode cL_law 1885 = .ok (.aload_n 0, 1) := by decide +kernel
theorem dL_law_1886 : decode cL_law 1886 = .ok (.iload_n 3, 1) := by decide +kernel
theorem dL_law_1887 : decode cL_law 1887 = .ok (.iconst 1, 1) := by decide +kernel
theorem dL_law_1888 : decode cL_law 1888 = .ok (.iadd, 1) := by decide +kernel
theorem dL_law_1889 : decode cL_law 1889 = .ok (.iaload, 1) := by decide +kernel
theorem dL_law_1890 : decode cL_law 1890 = .ok (.aload_n 0, 1) := by decide +kernel
theorem dL_law_1891 : decode cL_law 1891 = .ok (.iload_n 3, 1) := by decide +kernel
theorem dL_law_1892 : decode cL_law 1892 = .ok (.iconst 2, 1) := by decide +kernel
theorem dL_law_1893 : decode cL_law 1893 = .ok (.iadd, 1) := by decide +kernel
theorem dL_law_1894 : decode cL_law 1894 = .ok (.iaload, 1) := by decide +kernel
theorem dL_law_1895 : decode cL_law 1895 = .ok (.aload_n 0, 1) := by decide +kernel
theorem dL_law_1896 : decode cL_law 1896 = .ok (.iload_n 3, 1) := by decide +kernel
theorem dL_law_1897 : decode cL_law 1897 = .ok (.iconst 3, 1) := by decide +kernel
theorem dL_law_1898 : decode cL_law 1898 = .ok (.iadd, 1) := by decide +kernel
theorem dL_law_1899 : decode cL_law 1899 = .ok (.iaload, 1) := by decide +kernel
theorem dL_law_1900 : decode cL_law 1900 = .ok (.aload_n 0, 1) := by decide +kernel
theorem dL_law_1901 : decode cL_law 1901 = .ok (.iload_n 3, 1) := by decide +kernel
theorem dL_law_1902 : decode cL_law 1902 = .ok (.iconst 4, 1) := by decide +kernel
theorem dL_law_1903 : decode cL_law 1903 = .ok (.iadd, 1) := by decide +kernel
theorem dL_law_1904 : decode cL_law 1904 = .ok (.iaload, 1) := by decide +kernel
theorem dL_law_1905 : decode cL_law 1905 = .ok (.invokevirtual 177, 3) := by decide +kernel
theorem dL_law_1908 : decode cL_law 1908 = .ok (.if_icmp .eq 130, 3) := by decide +kernel
theorem dL_law_1911 : decode cL_law 1911 = .ok (.iconst 0, 1) := by decide +kernel
theorem dL_law_1912 : decode cL_law 1912 = .ok (.ireturn, 1) := by decide +kernel
theorem dL_law_1913 : decode cL_law 1913 = .ok (.aload_n 1, 1) := by decide +kernel
theorem dL_law_1914 : decode cL_law 1914 = .ok (.aload_n 0, 1) := by decide +kernel
theorem dL_law_1915 : decode cL_law 1915 = .ok (.iload_n 3, 1) := by decide +kernel
theorem dL_law_1916 : decode cL_law 1916 = .ok (.iconst 1, 1) := by decide +kernel
theorem dL_law_1917 : decode cL_law 1917 = .ok (.iadd, 1) := by decide +kernel
theorem dL_law_1918 : decode cL_law 1918 = .ok (.iaload, 1) := by decide +kernel
theorem dL_law_1919 : decode cL_law 1919 = .ok (.aload_n 0, 1) := by decide +kernel
theorem dL_law_1920 : decode cL_law 1920 = .ok (.iload_n 3, 1) := by decide +kernel
theorem dL_law_1921 : decode cL_law 1921 = .ok (.iconst 2, 1) := by decide +kernel
theorem dL_law_1922 : decode cL_law 1922 = .ok (.iadd, 1) := by decide +kernel
theorem dL_law_1923 : decode cL_law 1923 = .ok (.iaload, 1) := by decide +kernel
theorem dL_law_1924 : decode cL_law 1924 = .ok (.aload_n 0, 1) := by decide +kernel
theorem dL_law_1925 : decode cL_law 1925 = .ok (.iload_n 3, 1) := by decide +kernel
theorem dL_law_1926 : decode cL_law 1926 = .ok (.iconst 3, 1) := by decide +kernel
theorem dL_law_1927 : decode cL_law 1927 = .ok (.iadd, 1) := by decide +kernel
theorem dL_law_1928 : decode cL_law 1928 = .ok (.iaload, 1) := by decide +kernel
theorem dL_law_1929 : decode cL_law 1929 = .ok (.invokevirtual 178, 3) := by decide +kernel
theorem dL_law_1932 : decode cL_law 1932 = .ok (.aload_n 2, 1) := by decide +kernel
theorem dL_law_1933 : decode cL_law 1933 = .ok (.aload_n 0, 1) := by decide +kernel
theorem dL_law_1934 : decode cL_law 1934 = .ok (.iload_n 3, 1) := by decide +kernel
theorem dL_law_1935 : decode cL_law 1935 = .ok (.iconst 1, 1) := by decide +kernel
theorem dL_law_1936 : decode cL_law 1936 = .ok (.iadd, 1) := by decide +kernel
theorem dL_law_1937 : decode cL_law 1937 = .ok (.iaload, 1) := by decide +kernel
theorem dL_law_1938 : decode cL_law 1938 = .ok (.aload_n 0, 1) := by decide +kernel
theorem dL_law_1939 : decode cL_law 1939 = .ok (.iload_n 3, 1) := by decide +kernel
theorem dL_law_1940 : decode cL_law 1940 = .ok (.iconst 2, 1) := by decide +kernel
theorem dL_law_1941 : decode cL_law 1941 = .ok (.iadd, 1) := by decide +kernel
theorem dL_law_1942 : decode cL_law 1942 = .ok (.iaload, 1) := by decide +kernel
theorem dL_law_1943 : decode cL_law 1943 = .ok (.aload_n 0, 1) := by decide +kernel
theorem dL_law_1944 : decode cL_law 1944 = .ok (.iload_n 3, 1) := by decide +kernel
theorem dL_law_1945 : decode cL_law 1945 = .ok (.iconst 3, 1) := by decide +kernel
theorem dL_law_1946 : decode cL_law 1946 = .ok (.iadd, 1) := by decide +kernel
theorem dL_law_1947 : decode cL_law 1947 = .ok (.iaload, 1) := by decide +kernel
theorem dL_law_1948 : decode cL_law 1948 = .ok (.invokevirtual 181, 3) := by decide +kernel
theorem dL_law_1951 : decode cL_law 1951 = .ok (.if_icmp .eq 87, 3) := by decide +kernel
theorem dL_law_1954 : decode cL_law 1954 = .ok (.iconst 0, 1) := by decide +kernel
theorem dL_law_1955 : decode cL_law 1955 = .ok (.ireturn, 1) := by decide +kernel
theorem dL_law_1956 : decode cL_law 1956 = .ok (.aload_n 1, 1) := by decide +kernel
theorem dL_law_1957 : decode cL_law 1957 = .ok (.aload_n 0, 1) := by decide +kernel
theorem dL_law_1958 : decode cL_law 1958 = .ok (.iload_n 3, 1) := by decide +kernel
theorem dL_law_1959 : decode cL_law 1959 = .ok (.iconst 1, 1) := by decide +kernel
theorem dL_law_1960 : decode cL_law 1960 = .ok (.iadd, 1) := by decide +kernel
theorem dL_law_1961 : decode cL_law 1961 = .ok (.iaload, 1) := by decide +kernel
theorem dL_law_1962 : decode cL_law 1962 = .ok (.invokevirtual 182, 3) := by decide +kernel
theorem dL_law_1965 : decode cL_law 1965 = .ok (.aload_n 2, 1) := by decide +kernel
theorem dL_law_1966 : decode cL_law 1966 = .ok (.aload_n 0, 1) := by decide +kernel
theorem dL_law_1967 : decode cL_law 1967 = .ok (.iload_n 3, 1) := by decide +kernel
theorem dL_law_1968 : decode cL_law 1968 = .ok (.iconst 1, 1) := by decide +kernel
theorem dL_law_1969 : decode cL_law 1969 = .ok (.iadd, 1) := by decide +kernel
theorem dL_law_1970 : decode cL_law 1970 = .ok (.iaload, 1) := by decide +kernel
theorem dL_law_1971 : decode cL_law 1971 = .ok (.invokevirtual 185, 3) := by decide +kernel
theorem dL_law_1974 : decode cL_law 1974 = .ok (.if_icmp .eq 64, 3) := by decide +kernel
theorem dL_law_1977 : decode cL_law 1977 = .ok (.iconst 0, 1) := by decide +kernel
theorem dL_law_1978 : decode cL_law 1978 = .ok (.ireturn, 1) := by decide +kernel
theorem dL_law_1979 : decode cL_law 1979 = .ok (.aload_n 1, 1) := by decide +kernel
theorem dL_law_1980 : decode cL_law 1980 = .ok (.aload_n 0, 1) := by decide +kernel
theorem dL_law_1981 : decode cL_law 1981 = .ok (.iload_n 3, 1) := by decide +kernel
theorem dL_law_1982 : decode cL_law 1982 = .ok (.iconst 1, 1) := by decide +kernel
theorem dL_law_1983 : decode cL_law 1983 = .ok (.iadd, 1) := by decide +kernel
theorem dL_law_1984 : decode cL_law 1984 = .ok (.iaload, 1) := by decide +kernel
theorem dL_law_1985 : decode cL_law 1985 = .ok (.invokevirtual 186, 3) := by decide +kernel
theorem dL_law_1988 : decode cL_law 1988 = .ok (.aload_n 2, 1) := by decide +kernel
theorem dL_law_1989 : decode cL_law 1989 = .ok (.aload_n 0, 1) := by decide +kernel
theorem dL_law_1990 : decode cL_law 1990 = .ok (.iload_n 3, 1) := by decide +kernel
theorem dL_law_1991 : decode cL_law 1991 = .ok (.iconst 1, 1) := by decide +kernel
theorem dL_law_1992 : decode cL_law 1992 = .ok (.iadd, 1) := by decide +kernel
theorem dL_law_1993 : decode cL_law 1993 = .ok (.iaload, 1) := by decide +kernel
theorem dL_law_1994 : decode cL_law 1994 = .ok (.invokevirtual 189, 3) := by decide +kernel
theorem dL_law_1997 : decode cL_law 1997 = .ok (.if_icmp .eq 41, 3) := by decide +kernel
theorem dL_law_2000 : decode cL_law 2000 = .ok (.iconst 0, 1) := by decide +kernel
theorem dL_law_2001 : decode cL_law 2001 = .ok (.ireturn, 1) := by decide +kernel
theorem dL_law_2002 : decode cL_law 2002 = .ok (.aload_n 1, 1) := by decide +kernel
theorem dL_law_2003 : decode cL_law 2003 = .ok (.aload_n 0, 1) := by decide +kernel
theorem dL_law_2004 : decode cL_law 2004 = .ok (.iload_n 3, 1) := by decide +kernel
theorem dL_law_2005 : decode cL_law 2005 = .ok (.iconst 1, 1) := by decide +kernel
theorem dL_law_2006 : decode cL_law 2006 = .ok (.iadd, 1) := by decide +kernel
theorem dL_law_2007 : decode cL_law 2007 = .ok (.iaload, 1) := by decide +kernel
theorem dL_law_2008 : decode cL_law 2008 = .ok (.invokevirtual 190, 3) := by decide +kernel
theorem dL_law_2011 : decode cL_law 2011 = .ok (.aload_n 2, 1) := by decide +kernel
theorem dL_law_2012 : decode cL_law 2012 = .ok (.aload_n 0, 1) := by decide +kernel
theorem dL_law_2013 : decode cL_law 2013 = .ok (.iload_n 3, 1) := by decide +kernel
theorem dL_law_2014 : decode cL_law 2014 = .ok (.iconst 1, 1) := by decide +kernel
theorem dL_law_2015 : decode cL_law 2015 = .ok (.iadd, 1) := by decide +kernel
theorem dL_law_2016 : decode cL_law 2016 = .ok (.iaload, 1) := by decide +kernel
theorem dL_law_2017 : decode cL_law 2017 = .ok (.invokevirtual 193, 3) := by decide +kernel
theorem dL_law_2020 : decode cL_law 2020 = .ok (.if_icmp .eq 18, 3) := by decide +kernel
theorem dL_law_2023 : decode cL_law 2023 = .ok (.iconst 0, 1) := by decide +kernel
theorem dL_law_2024 : decode cL_law 2024 = .ok (.ireturn, 1) := by decide +kernel
theorem dL_law_2025 : decode cL_law 2025 = .ok (.aload_n 1, 1) := by decide +kernel
theorem dL_law_2026 : decode cL_law 2026 = .ok (.invokevirtual 194, 3) := by decide +kernel
theorem dL_law_2029 : decode cL_law 2029 = .ok (.aload_n 2, 1) := by decide +kernel
theorem dL_law_2030 : decode cL_law 2030 = .ok (.invokevirtual 197, 3) := by decide +kernel
theorem dL_law_2033 : decode cL_law 2033 = .ok (.if_icmp .eq 5, 3) := by decide +kernel
theorem dL_law_2036 : decode cL_law 2036 = .ok (.iconst 0, 1) := by decide +kernel
theorem dL_law_2037 : decode cL_law 2037 = .ok (.ireturn, 1) := by decide +kernel
theorem dL_law_2038 : decode cL_law 2038 = .ok (.iinc 3 9, 3) := by decide +kernel
theorem dL_law_2041 : decode cL_law 2041 = .ok (.goto (-2023), 3) := by decide +kernel
theorem dL_law_2044 : decode cL_law 2044 = .ok (.iconst 1, 1) := by decide +kernel
theorem dL_law_2045 : decode cL_law 2045 = .ok (.ireturn, 1) := by decide +kernel
def W_L_law_0 (X : Sx) (l : Launch) (D : Nat) (x0 : Nat) (σ : AH) (r : Option Value) (σ' : AH) : Prop := ∃ nx0 : Nat, kd σ x0 = (100, nx0) ∧ x0 < nx σ ∧ (∀ τ1 : AH, τ1 = (aw σ 11 (NO 11)) → ∃ d8 : Nat, ∃ σ9 : AH, d8 + 1 ≤ D ∧ Call X l m_X11_init d8 [.ref (nx σ)] τ1 none σ9 ∧ (∀ τ17 : AH, τ17 = (aw σ9 12 (NO 12)) → ∃ d26 : Nat, ∃ σ27 : AH, d26 + 1 ≤ D ∧ Call X l m_X12_init d26 [.ref (nx σ9)] τ17 none σ27 ∧ E X l m_L_law D 18 [(0, .ref x0), (1, .ref (nx σ)), (2, .ref (nx σ9)), (3, .int (0 : Int32))] [] σ27 r σ'))
set_option maxRecDepth 100000 in
theorem w_L_law_0 {X : Sx} {l : Launch} {D : Nat} {x0 : Nat} {σ : AH} {r : Option Value} {σ' : AH} (h : W_L_law_0 X l D x0 σ r σ') : E X l m_L_law D 0 [(0, .ref x0)] [] σ r σ' := by
  unfold W_L_law_0 at h
  obtain ⟨nx0, hkx0, hbx0, h⟩ := h
  refine E_new 11 dL_law_0 (by decide) ck_L_7 ?_
  obtain ⟨τ1, e2⟩ : ∃ τ : AH, τ = (aw σ 11 (NO 11)) := ⟨_, rfl⟩
  replace h := h τ1 e2
  rw [← e2]
  have hk4 : kd _ x0 = (100, nx0) := (congrFun (congrArg kd e2) _).trans ((up_ne _ _ _ (Nat.ne_of_lt hbx0)).trans hkx0)
  have hb5 := Nat.lt_of_lt_of_eq (Nat.lt_succ_of_lt hbx0) (congrArg nx e2).symm
  have hk6 : kd _ (nx σ) = (11, NO 11) := (congrFun (congrArg kd e2) _).trans (up_same _ _ _)
  have hb7 := Nat.lt_of_lt_of_eq (Nat.lt_succ_self _) (congrArg nx e2).symm
  refine E_dup dL_law_3 rfl ?_
  obtain ⟨d8, σ9, hD10, hC11, h⟩ := h
  have hk13 := (hC11.1.2.2.1 _ hb5).trans hk4
  have hb14 := Nat.lt_of_lt_of_le hb5 hC11.1.1
  have hk15 := (hC11.1.2.2.1 _ hb7).trans hk6
  have hb16 := Nat.lt_of_lt_of_le hb7 hC11.1.1
  refine E_callI (As := []) (rest := [.ref (nx σ)]) (r1 := none) (b := (nx σ)) dL_law_4 ok_X11_init in_X11_init rfl rfl ml_L_9 hD10 rfl rfl (Nat.le_of_ble_eq_true rfl) (by decide +kernel) hC11 ?_
  refine E_astore_n [(1, .ref (nx σ)), (0, .ref x0)] dL_law_7 rfl (by decide) rfl ?_
  refine E_new 12 dL_law_8 (by decide) ck_L_10 ?_
  obtain ⟨τ17, e18⟩ : ∃ τ : AH, τ = (aw σ9 12 (NO 12)) := ⟨_, rfl⟩
  replace h := h τ17 e18
  rw [← e18]
  have hk20 : kd _ (nx σ) = (11, NO 11) := (congrFun (congrArg kd e18) _).trans ((up_ne _ _ _ (Nat.ne_of_lt hb16)).trans hk15)
  have hb21 := Nat.lt_of_lt_of_eq (Nat.lt_succ_of_lt hb16) (congrArg nx e18).symm
  have hk22 : kd _ x0 = (100, nx0) := (congrFun (congrArg kd e18) _).trans ((up_ne _ _ _ (Nat.ne_of_lt hb14)).trans hk13)
  have hb23 := Nat.lt_of_lt_of_eq (Nat.lt_succ_of_lt hb14) (congrArg nx e18).symm
  have hk24 : kd _ (nx σ9) = (12, NO 12) := (congrFun (congrArg kd e18) _).trans (up_same _ _ _)
  have hb25 := Nat.lt_of_lt_of_eq (Nat.lt_succ_self _) (congrArg nx e18).symm
  refine E_dup dL_law_11 rfl ?_
  obtain ⟨d26, σ27, hD28, hC29, h⟩ := h
  have hk31 := (hC29.1.2.2.1 _ hb21).trans hk20
  have hb32 := Nat.lt_of_lt_of_le hb21 hC29.1.1
  have hk33 := (hC29.1.2.2.1 _ hb23).trans hk22
  have hb34 := Nat.lt_of_lt_of_le hb23 hC29.1.1
  have hk35 := (hC29.1.2.2.1 _ hb25).trans hk24
  have hb36 := Nat.lt_of_lt_of_le hb25 hC29.1.1
  refine E_callI (As := []) (rest := [.ref (nx σ9)]) (r1 := none) (b := (nx σ9)) dL_law_12 ok_X12_init in_X12_init rfl rfl ml_L_12 hD28 rfl rfl (Nat.le_of_ble_eq_true rfl) (by decide +kernel) hC29 ?_
  refine E_astore_n [(2, .ref (nx σ9)), (1, .ref (nx σ)), (0, .ref x0)] dL_law_15 rfl (by decide) rfl ?_
  refine E_iconst (0 : Int32) dL_law_16 (by decide) ?_
  refine E_istore_n [(3, .int (0 : Int32)), (2, .ref (nx σ9)), (1, .ref (nx σ)), (0, .ref x0)] dL_law_17 rfl (by decide) rfl ?_
  exact E_lv [3, 2, 1, 0] rfl h
def W_L_law_2038 (X : Sx) (l : Launch) (D : Nat) (x0 : Nat) (x3 : Int32) (σ : AH) (r : Option Value) (σ' : AH) : Prop := ∃ nx0 : Nat, kd σ x0 = (100, nx0) ∧ x0 < nx σ ∧ E X l m_L_law D 18 [(0, .ref x0), (1, .ref 0), (2, .ref 124), (3, .int (x3 + 9))] [] σ r σ'
set_option maxRecDepth 100000 in
theorem w_L_law_2038 {X : Sx} {l : Launch} {D : Nat} {x0 : Nat} {x3 : Int32} {σ : AH} {r : Option Value} {σ' : AH} (hs : Sh σ) (h : W_L_law_2038 X l D x0 x3 σ r σ') : E X l m_L_law D 2038 [(0, .ref x0), (1, .ref 0), (2, .ref 124), (3, .int x3)] [] σ r σ' := by
  unfold W_L_law_2038 at h
  obtain ⟨nx0, hkx0, hbx0, h⟩ := h
  refine E_iinc 3 (x3 + 9) [(3, .int (x3 + 9)), (0, .ref x0), (1, .ref 0), (2, .ref 124)] dL_law_2038 rfl (congrArg (x3 + ·) (by decide : Int32.ofInt 9 = 9)) (by decide) rfl ?_
  refine E_goto 18 dL_law_2041 (by decide) ?_
  exact E_lv [1, 2, 3, 0] rfl h
def W_L_law_1010 (X : Sx) (l : Launch) (D : Nat) (x0 : Nat) (x3 : Int32) (σ : AH) (r : Option Value) (σ' : AH) : Prop := ∃ nx0 : Nat, kd σ x0 = (100, nx0) ∧ x0 < nx σ ∧ vp_in (x3 + (1 : Int32)) nx0 ∧ ∃ d409 : Nat, ∃ v414 : Int32, ∃ σ410 : AH, d409 + 1 ≤ D ∧ Call X l m_X11_wish d409 [.ref 0, .int (gI σ x0 (x3 + (1 : Int32)).toNatClampNeg)] σ (some (.int v414)) σ410 ∧ vp_in (x3 + (1 : Int32)) nx0 ∧ ∃ d418 : Nat, ∃ v423 : Int32, ∃ σ419 : AH, d418 + 1 ≤ D ∧ Call X l m_X12_wish d418 [.ref 124, .int (gI σ410 x0 (x3 + (1 : Int32)).toNatClampNeg)] σ410 (some (.int v423)) σ419 ∧ (if v414 = v423 then W_L_law_2038 X l D x0 x3 σ419 r σ' else (r = some (.int (0 : Int32)) ∧ σ' = σ419))
set_option maxRecDepth 100000 in
theorem w_L_law_1010 {X : Sx} {l : Launch} {D : Nat} {x0 : Nat} {x3 : Int32} {σ : AH} {r : Option Value} {σ' : AH} (hs : Sh σ) (h : W_L_law_1010 X l D x0 x3 σ r σ') : E X l m_L_law D 1010 [(0, .ref x0), (1, .ref 0), (2, .ref 124), (3, .int x3)] [] σ r σ' := by
  unfold W_L_law_1010 at h
  obtain ⟨nx0, hkx0, hbx0, h⟩ := h
  refine E_aload_n 1 dL_law_1010 rfl rfl ?_
  refine E_aload_n 0 dL_law_1011 rfl rfl ?_
  refine E_iload_n 3 dL_law_1012 rfl rfl ?_
  refine E_iconst (1 : Int32) dL_law_1013 (by decide) ?_
  refine E_iadd dL_law_1014 ?_
  obtain ⟨g408, h⟩ := h
  refine E_iald2 ((x3 + (1 : Int32)).toNatClampNeg) dL_law_1015 hkx0 hbx0 g408 rfl ?_
  obtain ⟨d409, v414, σ410, hD411, hC412, h⟩ := h
  have hs413 := hC412.1.2.2.2.1 hs
  have hk415 := (hC412.1.2.2.1 _ hbx0).trans hkx0
  have hb416 := Nat.lt_of_lt_of_le hbx0 hC412.1.1
  refine E_callV (As := [.int (gI σ x0 (x3 + (1 : Int32)).toNatClampNeg)]) (rest := []) (r1 := (some (.int v414))) (b := 0) dL_law_1016 ok_X11_wish in_X11_wish se_X11_wish ml_L_85 hD411 rfl rfl (Nat.le_of_ble_eq_true rfl) (sk_0 hs) (sn hs (by decide)) (by decide) rfl (by decide +kernel) hC412 ?_
  refine E_aload_n 2 dL_law_1019 rfl rfl ?_
  refine E_aload_n 0 dL_law_1020 rfl rfl ?_
  refine E_iload_n 3 dL_law_1021 rfl rfl ?_
  refine E_iconst (1 : Int32) dL_law_1022 (by decide) ?_
  refine E_iadd dL_law_1023 ?_
  obtain ⟨g417, h⟩ := h
  refine E_iald2 ((x3 + (1 : Int32)).toNatClampNeg) dL_law_1024 hk415 hb416 g417 rfl ?_
  obtain ⟨d418, v423, σ419, hD420, hC421, h⟩ := h
  have hs422 := hC421.1.2.2.2.1 hs413
  have hk424 := (hC421.1.2.2.1 _ hb416).trans hk415
  have hb425 := Nat.lt_of_lt_of_le hb416 hC421.1.1
  refine E_callV (As := [.int (gI σ410 x0 (x3 + (1 : Int32)).toNatClampNeg)]) (rest := [.int v414]) (r1 := (some (.int v423))) (b := 124) dL_law_1025 ok_X12_wish in_X12_wish se_X12_wish ml_L_88 hD420 rfl rfl (Nat.le_of_ble_eq_true rfl) (sk_124 hs413) (sn hs413 (by decide)) (by decide) rfl (by decide +kernel) hC421 ?_
  refine E_icmp_eq 2038 dL_law_1028 (by decide) (fun c => ?_) (fun c => ?_)
  · rw [if_pos c] at h
    exact E_lv [0, 1, 2, 3] rfl (w_L_law_2038 hs422 h)
  · rw [if_neg c] at h
    refine E_iconst (0 : Int32) dL_law_1031 (by decide) ?_
    obtain ⟨rfl, rfl⟩ := h
    exact E_zret dL_law_1032 rfl (Or.inl rfl)
def W_L_law_1033 (X : Sx) (l : Launch) (D : Nat) (x0 : Nat) (x3 : Int32) (σ : AH) (r : Option Value) (σ' : AH) : Prop := ∃ nx0 : Nat, kd σ x0 = (100, nx0) ∧ x0 < nx σ ∧ ∃ d426 : Nat, ∃ v431 : Int32, ∃ σ427 : AH, d426 + 1 ≤ D ∧ Call X l m_X11_clear d426 [.ref 0] σ (some (.int v431)) σ427 ∧ ∃ d434 : Nat, ∃ v439 : Int32, ∃ σ435 : AH, d434 + 1 ≤ D ∧ Call X l m_X12_clear d434 [.ref 124] σ427 (some (.int v439)) σ435 ∧ (if v431 = v439 then W_L_law_2038 X l D x0 x3 σ435 r σ' else (r = some (.int (0 : Int32)) ∧ σ' = σ435))
set_option maxRecDepth 100000 in
theorem w_L_law_1033 {X : Sx} {l : Launch} {D : Nat} {x0 : Nat} {x3 : Int32} {σ : AH} {r : Option Value} {σ' : AH} (hs : Sh σ) (h : W_L_law_1033 X l D x0 x3 σ r σ') : E X l m_L_law D 1033 [(0, .ref x0), (1, .ref 0), (2, .ref 124), (3, .int x3)] [] σ r σ' := by
  unfold W_L_law_1033 at h
  obtain ⟨nx0, hkx0, hbx0, h⟩ := h
  refine E_aload_n 1 dL_law_1033 rfl rfl ?_
  obtain ⟨d426, v431, σ427, hD428, hC429, h⟩ := h
  have hs430 := hC429.1.2.2.2.1 hs
  have hk432 := (hC429.1.2.2.1 _ hbx0).trans hkx0
  have hb433 := Nat.lt_of_lt_of_le hbx0 hC429.1.1
  refine E_callV (As := []) (rest := []) (r1 := (some (.int v431))) (b := 0) dL_law_1034 ok_X11_clear in_X11_clear se_X11_clear ml_L_89 hD428 rfl rfl (Nat.le_of_ble_eq_true rfl) (sk_0 hs) (sn hs (by decide)) (by decide) rfl (by decide +kernel) hC429 ?_
  refine E_aload_n 2 dL_law_1037 rfl rfl ?_
  obtain ⟨d434, v439, σ435, hD436, hC437, h⟩ := h
  have hs438 := hC437.1.2.2.2.1 hs430
  have hk440 := (hC437.1.2.2.1 _ hb433).trans hk432
  have hb441 := Nat.lt_of_lt_of_le hb433 hC437.1.1
  refine E_callV (As := []) (rest := [.int v431]) (r1 := (some (.int v439))) (b := 124) dL_law_1038 ok_X12_clear in_X12_clear se_X12_clear ml_L_92 hD436 rfl rfl (Nat.le_of_ble_eq_true rfl) (sk_124 hs430) (sn hs430 (by decide)) (by decide) rfl (by decide +kernel) hC437 ?_
  refine E_icmp_eq 2038 dL_law_1041 (by decide) (fun c => ?_) (fun c => ?_)
  · rw [if_pos c] at h
    exact E_lv [0, 1, 2, 3] rfl (w_L_law_2038 hs438 h)
  · rw [if_neg c] at h
    refine E_iconst (0 : Int32) dL_law_1044 (by decide) ?_
    obtain ⟨rfl, rfl⟩ := h
    exact E_zret dL_law_1045 rfl (Or.inl rfl)
def W_L_law_1046 (X : Sx) (l : Launch) (D : Nat) (x0 : Nat) (x3 : Int32) (σ : AH) (r : Option Value) (σ' : AH) : Prop := ∃ nx0 : Nat, kd σ x0 = (100, nx0) ∧ x0 < nx σ ∧ vp_in (x3 + (1 : Int32)) nx0 ∧ ∃ d443 : Nat, ∃ v448 : Int32, ∃ σ444 : AH, d443 + 1 ≤ D ∧ Call X l m_X11_best d443 [.ref 0, .int (gI σ x0 (x3 + (1 : Int32)).toNatClampNeg)] σ (some (.int v448)) σ444 ∧ vp_in (x3 + (1 : Int32)) nx0 ∧ ∃ d452 : Nat, ∃ v457 : Int32, ∃ σ453 : AH, d452 + 1 ≤ D ∧ Call X l m_X12_best d452 [.ref 124, .int (gI σ444 x0 (x3 + (1 : Int32)).toNatClampNeg)] σ444 (some (.int v457)) σ453 ∧ (if v448 = v457 then W_L_law_2038 X l D x0 x3 σ453 r σ' else (r = some (.int (0 : Int32)) ∧ σ' = σ453))
set_option maxRecDepth 100000 in
theorem w_L_law_1046 {X : Sx} {l : Launch} {D : Nat} {x0 : Nat} {x3 : Int32} {σ : AH} {r : Option Value} {σ' : AH} (hs : Sh σ) (h : W_L_law_1046 X l D x0 x3 σ r σ') : E X l m_L_law D 1046 [(0, .ref x0), (1, .ref 0), (2, .ref 124), (3, .int x3)] [] σ r σ' := by
  unfold W_L_law_1046 at h
  obtain ⟨nx0, hkx0, hbx0, h⟩ := h
  refine E_aload_n 1 dL_law_1046 rfl rfl ?_
  refine E_aload_n 0 dL_law_1047 rfl rfl ?_
  refine E_iload_n 3 dL_law_1048 rfl rfl ?_
  refine E_iconst (1 : Int32) dL_law_1049 (by decide) ?_
  refine E_iadd dL_law_1050 ?_
  obtain ⟨g442, h⟩ := h
  refine E_iald2 ((x3 + (1 : Int32)).toNatClampNeg) dL_law_1051 hkx0 hbx0 g442 rfl ?_
  obtain ⟨d443, v448, σ444, hD445, hC446, h⟩ := h
  have hs447 := hC446.1.2.2.2.1 hs
  have hk449 := (hC446.1.2.2.1 _ hbx0).trans hkx0
  have hb450 := Nat.lt_of_lt_of_le hbx0 hC446.1.1
  refine E_callV (As := [.int (gI σ x0 (x3 + (1 : Int32)).toNatClampNeg)]) (rest := []) (r1 := (some (.int v448))) (b := 0) dL_law_1052 ok_X11_best in_X11_best se_X11_best ml_L_93 hD445 rfl rfl (Nat.le_of_ble_eq_true rfl) (sk_0 hs) (sn hs (by decide)) (by decide) rfl (by decide +kernel) hC446 ?_
  refine E_aload_n 2 dL_law_1055 rfl rfl ?_
  refine E_aload_n 0 dL_law_1056 rfl rfl ?_
  refine E_iload_n 3 dL_law_1057 rfl rfl ?_
  refine E_iconst (1 : Int32) dL_law_1058 (by decide) ?_
  refine E_iadd dL_law_1059 ?_
  obtain ⟨g451, h⟩ := h
  refine E_iald2 ((x3 + (1 : Int32)).toNatClampNeg) dL_law_1060 hk449 hb450 g451 rfl ?_
  obtain ⟨d452, v457, σ453, hD454, hC455, h⟩ := h
  have hs456 := hC455.1.2.2.2.1 hs447
  have hk458 := (hC455.1.2.2.1 _ hb450).trans hk449
  have hb459 := Nat.lt_of_lt_of_le hb450 hC455.1.1
  refine E_callV (As := [.int (gI σ444 x0 (x3 + (1 : Int32)).toNatClampNeg)]) (rest := [.int v448]) (r1 := (some (.int v457))) (b := 124) dL_law_1061 ok_X12_best in_X12_best se_X12_best ml_L_96 hD454 rfl rfl (Nat.le_of_ble_eq_true rfl) (sk_124 hs447) (sn hs447 (by decide)) (by decide) rfl (by decide +kernel) hC455 ?_
  refine E_icmp_eq 2038 dL_law_1064 (by decide) (fun c => ?_) (fun c => ?_)
  · rw [if_pos c] at h
    exact E_lv [0, 1, 2, 3] rfl (w_L_law_2038 hs456 h)
  · rw [if_neg c] at h
    refine E_iconst (0 : Int32) dL_law_1067 (by decide) ?_
    obtain ⟨rfl, rfl⟩ := h
    exact E_zret dL_law_1068 rfl (Or.inl rfl)
def W_L_law_1069 (X : Sx) (l : Launch) (D : Nat) (x0 : Nat) (x3 : Int32) (σ : AH) (r : Option Value) (σ' : AH) : Prop := ∃ nx0 : Nat, kd σ x0 = (100, nx0) ∧ x0 < nx σ ∧ vp_in (x3 + (1 : Int32)) nx0 ∧ ∃ d461 : Nat, ∃ v466 : Int32, ∃ σ462 : AH, d461 + 1 ≤ D ∧ Call X l m_X11_chosen d461 [.ref 0, .int (gI σ x0 (x3 + (1 : Int32)).toNatClampNeg)] σ (some (.int v466)) σ462 ∧ vp_in (x3 + (1 : Int32)) nx0 ∧ ∃ d470 : Nat, ∃ v475 : Int32, ∃ σ471 : AH, d470 + 1 ≤ D ∧ Call X l m_X12_chosen d470 [.ref 124, .int (gI σ462 x0 (x3 + (1 : Int32)).toNatClampNeg)] σ462 (some (.int v475)) σ471 ∧ (if v466 = v475 then W_L_law_2038 X l D x0 x3 σ471 r σ' else (r = some (.int (0 : Int32)) ∧ σ' = σ471))
set_option maxRecDepth 100000 in
theorem w_L_law_1069 {X : Sx} {l : Launch} {D : Nat} {x0 : Nat} {x3 : Int32} {σ : AH} {r : Option Value} {σ' : AH} (hs : Sh σ) (h : W_L_law_1069 X l D x0 x3 σ r σ') : E X l m_L_law D 1069 [(0, .ref x0), (1, .ref 0), (2, .ref 124), (3, .int x3)] [] σ r σ' := by
  unfold W_L_law_1069 at h
  obtain ⟨nx0, hkx0, hbx0, h⟩ := h
  refine E_aload_n 1 dL_law_1069 rfl rfl ?_
  refine E_aload_n 0 dL_law_1070 rfl rfl ?_
  refine E_iload_n 3 dL_law_1071 rfl rfl ?_
  refine E_iconst (1 : Int32) dL_law_1072 (by decide) ?_
  refine E_iadd dL_law_1073 ?_
  obtain ⟨g460, h⟩ := h
  refine E_iald2 ((x3 + (1 : Int32)).toNatClampNeg) dL_law_1074 hkx0 hbx0 g460 rfl ?_
  obtain ⟨d461, v466, σ462, hD463, hC464, h⟩ := h
  have hs465 := hC464.1.2.2.2.1 hs
  have hk467 := (hC464.1.2.2.1 _ hbx0).trans hkx0
  have hb468 := Nat.lt_of_lt_of_le hbx0 hC464.1.1
  refine E_callV (As := [.int (gI σ x0 (x3 + (1 : Int32)).toNatClampNeg)]) (rest := []) (r1 := (some (.int v466))) (b := 0) dL_law_1075 ok_X11_chosen in_X11_chosen se_X11_chosen ml_L_97 hD463 rfl rfl (Nat.le_of_ble_eq_true rfl) (sk_0 hs) (sn hs (by decide)) (by decide) rfl (by decide +kernel) hC464 ?_
  refine E_aload_n 2 dL_law_1078 rfl rfl ?_
  refine E_aload_n 0 dL_law_1079 rfl rfl ?_
  refine E_iload_n 3 dL_law_1080 rfl rfl ?_
  refine E_iconst (1 : Int32) dL_law_1081 (by decide) ?_
  refine E_iadd dL_law_1082 ?_
  obtain ⟨g469, h⟩ := h
  refine E_iald2 ((x3 + (1 : Int32)).toNatClampNeg) dL_law_1083 hk467 hb468 g469 rfl ?_
  obtain ⟨d470, v475, σ471, hD472, hC473, h⟩ := h
  have hs474 := hC473.1.2.2.2.1 hs465
  have hk476 := (hC473.1.2.2.1 _ hb468).trans hk467
  have hb477 := Nat.lt_of_lt_of_le hb468 hC473.1.1
  refine E_callV (As := [.int (gI σ462 x0 (x3 + (1 : Int32)).toNatClampNeg)]) (rest := [.int v466]) (r1 := (some (.int v475))) (b := 124) dL_law_1084 ok_X12_chosen in_X12_chosen se_X12_chosen ml_L_100 hD472 rfl rfl (Nat.le_of_ble_eq_true rfl) (sk_124 hs465) (sn hs465 (by decide)) (by decide) rfl (by decide +kernel) hC473 ?_
  refine E_icmp_eq 2038 dL_law_1087 (by decide) (fun c => ?_) (fun c => ?_)
  · rw [if_pos c] at h
    exact E_lv [0, 1, 2, 3] rfl (w_L_law_2038 hs474 h)
  · rw [if_neg c] at h
    refine E_iconst (0 : Int32) dL_law_1090 (by decide) ?_
    obtain ⟨rfl, rfl⟩ := h
    exact E_zret dL_law_1091 rfl (Or.inl rfl)
def W_L_law_1092 (X : Sx) (l : Launch) (D : Nat) (x0 : Nat) (x3 : Int32) (σ : AH) (r : Option Value) (σ' : AH) : Prop := ∃ nx0 : Nat, kd σ x0 = (100, nx0) ∧ x0 < nx σ ∧ vp_in (x3 + (1 : Int32)) nx0 ∧ ∃ d479 : Nat, ∃ v484 : Int32, ∃ σ480 : AH, d479 + 1 ≤ D ∧ Call X l m_X11_bound d479 [.ref 0, .int (gI σ x0 (x3 + (1 : Int32)).toNatClampNeg)] σ (some (.int v484)) σ480 ∧ vp_in (x3 + (1 : Int32)) nx0 ∧ ∃ d488 : Nat, ∃ v493 : Int32, ∃ σ489 : AH, d488 + 1 ≤ D ∧ Call X l m_X12_bound d488 [.ref 124, .int (gI σ480 x0 (x3 + (1 : Int32)).toNatClampNeg)] σ480 (some (.int v493)) σ489 ∧ (if v484 = v493 then W_L_law_2038 X l D x0 x3 σ489 r σ' else (r = some (.int (0 : Int32)) ∧ σ' = σ489))
set_option maxRecDepth 100000 in
theorem w_L_law_1092 {X : Sx} {l : Launch} {D : Nat} {x0 : Nat} {x3 : Int32} {σ : AH} {r : Option Value} {σ' : AH} (hs : Sh σ) (h : W_L_law_1092 X l D x0 x3 σ r σ') : E X l m_L_law D 1092 [(0, .ref x0), (1, .ref 0), (2, .ref 124), (3, .int x3)] [] σ r σ' := by
  unfold W_L_law_1092 at h
  obtain ⟨nx0, hkx0, hbx0, h⟩ := h
  refine E_aload_n 1 dL_law_1092 rfl rfl ?_
  refine E_aload_n 0 dL_law_1093 rfl rfl ?_
  refine E_iload_n 3 dL_law_1094 rfl rfl ?_
  refine E_iconst (1 : Int32) dL_law_1095 (by decide) ?_
  refine E_iadd dL_law_1096 ?_
  obtain ⟨g478, h⟩ := h
  refine E_iald2 ((x3 + (1 : Int32)).toNatClampNeg) dL_law_1097 hkx0 hbx0 g478 rfl ?_
  obtain ⟨d479, v484, σ480, hD481, hC482, h⟩ := h
  have hs483 := hC482.1.2.2.2.1 hs
  have hk485 := (hC482.1.2.2.1 _ hbx0).trans hkx0
  have hb486 := Nat.lt_of_lt_of_le hbx0 hC482.1.1
  refine E_callV (As := [.int (gI σ x0 (x3 + (1 : Int32)).toNatClampNeg)]) (rest := []) (r1 := (some (.int v484))) (b := 0) dL_law_1098 ok_X11_bound in_X11_bound se_X11_bound ml_L_101 hD481 rfl rfl (Nat.le_of_ble_eq_true rfl) (sk_0 hs) (sn hs (by decide)) (by decide) rfl (by decide +kernel) hC482 ?_
  refine E_aload_n 2 dL_law_1101 rfl rfl ?_
  refine E_aload_n 0 dL_law_1102 rfl rfl ?_
  refine E_iload_n 3 dL_law_1103 rfl rfl ?_
  refine E_iconst (1 : Int32) dL_law_1104 (by decide) ?_
  refine E_iadd dL_law_1105 ?_
  obtain ⟨g487, h⟩ := h
  refine E_iald2 ((x3 + (1 : Int32)).toNatClampNeg) dL_law_1106 hk485 hb486 g487 rfl ?_
  obtain ⟨d488, v493, σ489, hD490, hC491, h⟩ := h
  have hs492 := hC491.1.2.2.2.1 hs483
  have hk494 := (hC491.1.2.2.1 _ hb486).trans hk485
  have hb495 := Nat.lt_of_lt_of_le hb486 hC491.1.1
  refine E_callV (As := [.int (gI σ480 x0 (x3 + (1 : Int32)).toNatClampNeg)]) (rest := [.int v484]) (r1 := (some (.int v493))) (b := 124) dL_law_1107 ok_X12_bound in_X12_bound se_X12_bound ml_L_104 hD490 rfl rfl (Nat.le_of_ble_eq_true rfl) (sk_124 hs483) (sn hs483 (by decide)) (by decide) rfl (by decide +kernel) hC491 ?_
  refine E_icmp_eq 2038 dL_law_1110 (by decide) (fun c => ?_) (fun c => ?_)
  · rw [if_pos c] at h
    exact E_lv [0, 1, 2, 3] rfl (w_L_law_2038 hs492 h)
  · rw [if_neg c] at h
    refine E_iconst (0 : Int32) dL_law_1113 (by decide) ?_
    obtain ⟨rfl, rfl⟩ := h
    exact E_zret dL_law_1114 rfl (Or.inl rfl)
def W_L_law_1115 (X : Sx) (l : Launch) (D : Nat) (x0 : Nat) (x3 : Int32) (σ : AH) (r : Option Value) (σ' : AH) : Prop := ∃ nx0 : Nat, kd σ x0 = (100, nx0) ∧ x0 < nx σ ∧ vp_in (x3 + (1 : Int32)) nx0 ∧ vp_in (x3 + (2 : Int32)) nx0 ∧ ∃ d498 : Nat, ∃ v503 : Int32, ∃ σ499 : AH, d498 + 1 ≤ D ∧ Call X l m_X11_judge d498 [.ref 0, .int (gI σ x0 (x3 + (1 : Int32)).toNatClampNeg), .int (gI σ x0 (x3 + (2 : Int32)).toNatClampNeg)] σ (some (.int v503)) σ499 ∧ vp_in (x3 + (1 : Int32)) nx0 ∧ vp_in (x3 + (2 : Int32)) nx0 ∧ ∃ d508 : Nat, ∃ v513 : Int32, ∃ σ509 : AH, d508 + 1 ≤ D ∧ Call X l m_X12_judge d508 [.ref 124, .int (gI σ499 x0 (x3 + (1 : Int32)).toNatClampNeg), .int (gI σ499 x0 (x3 + (2 : Int32)).toNatClampNeg)] σ499 (some (.int v513)) σ509 ∧ (if v503 = v513 then W_L_law_2038 X l D x0 x3 σ509 r σ' else (r = some (.int (0 : Int32)) ∧ σ' = σ509))
set_option maxRecDepth 100000 in
theorem w_L_law_1115 {X : Sx} {l : Launch} {D : Nat} {x0 : Nat} {x3 : Int32} {σ : AH} {r : Option Value} {σ' : AH} (hs : Sh σ) (h : W_L_law_1115 X l D x0 x3 σ r σ') : E X l m_L_law D 1115 [(0, .ref x0), (1, .ref 0), (2, .ref 124), (3, .int x3)] [] σ r σ' := by
  unfold W_L_law_1115 at h
  obtain ⟨nx0, hkx0, hbx0, h⟩ := h
  refine E_aload_n 1 dL_law_1115 rfl rfl ?_
  refine E_aload_n 0 dL_law_1116 rfl rfl ?_
  refine E_iload_n 3 dL_law_1117 rfl rfl ?_
  refine E_iconst (1 : Int32) dL_law_1118 (by decide) ?_
  refine E_iadd dL_law_1119 ?_
  obtain ⟨g496, h⟩ := h
  refine E_iald2 ((x3 + (1 : Int32)).toNatClampNeg) dL_law_1120 hkx0 hbx0 g496 rfl ?_
  refine E_aload_n 0 dL_law_1121 rfl rfl ?_
  refine E_iload_n 3 dL_law_1122 rfl rfl ?_
  refine E_iconst (2 : Int32) dL_law_1123 (by decide) ?_
  refine E_iadd dL_law_1124 ?_
  obtain ⟨g497, h⟩ := h
  refine E_iald2 ((x3 + (2 : Int32)).toNatClampNeg) dL_law_1125 hkx0 hbx0 g497 rfl ?_
  obtain ⟨d498, v503, σ499, hD500, hC501, h⟩ := h
  have hs502 := hC501.1.2.2.2.1 hs
  have hk504 := (hC501.1.2.2.1 _ hbx0).trans hkx0
  have hb505 := Nat.lt_of_lt_of_le hbx0 hC501.1.1
  refine E_callV (As := [.int (gI σ x0 (x3 + (1 : Int32)).toNatClampNeg), .int (gI σ x0 (x3 + (2 : Int32)).toNatClampNeg)]) (rest := []) (r1 := (some (.int v503))) (b := 0) dL_law_1126 ok_X11_judge in_X11_judge se_X11_judge ml_L_105 hD500 rfl rfl (Nat.le_of_ble_eq_true rfl) (sk_0 hs) (sn hs (by decide)) (by decide) rfl (by decide +kernel) hC501 ?_
  refine E_aload_n 2 dL_law_1129 rfl rfl ?_
  refine E_aload_n 0 dL_law_1130 rfl rfl ?_
  refine E_iload_n 3 dL_law_1131 rfl rfl ?_
  refine E_iconst (1 : Int32) dL_law_1132 (by decide) ?_
  refine E_iadd dL_law_1133 ?_
  obtain ⟨g506, h⟩ := h
  refine E_iald2 ((x3 + (1 : Int32)).toNatClampNeg) dL_law_1134 hk504 hb505 g506 rfl ?_
  refine E_aload_n 0 dL_law_1135 rfl rfl ?_
  refine E_iload_n 3 dL_law_1136 rfl rfl ?_
  refine E_iconst (2 : Int32) dL_law_1137 (by decide) ?_
  refine E_iadd dL_law_1138 ?_
  obtain ⟨g507, h⟩ := h
  refine E_iald2 ((x3 + (2 : Int32)).toNatClampNeg) dL_law_1139 hk504 hb505 g507 rfl ?_
  obtain ⟨d508, v513, σ509, hD510, hC511, h⟩ := h
  have hs512 := hC511.1.2.2.2.1 hs502
  have hk514 := (hC511.1.2.2.1 _ hb505).trans hk504
  have hb515 := Nat.lt_of_lt_of_le hb505 hC511.1.1
  refine E_callV (As := [.int (gI σ499 x0 (x3 + (1 : Int32)).toNatClampNeg), .int (gI σ499 x0 (x3 + (2 : Int32)).toNatClampNeg)]) (rest := [.int v503]) (r1 := (some (.int v513))) (b := 124) dL_law_1140 ok_X12_judge in_X12_judge se_X12_judge ml_L_108 hD510 rfl rfl (Nat.le_of_ble_eq_true rfl) (sk_124 hs502) (sn hs502 (by decide)) (by decide) rfl (by decide +kernel) hC511 ?_
  refine E_icmp_eq 2038 dL_law_1143 (by decide) (fun c => ?_) (fun c => ?_)
  · rw [if_pos c] at h
    exact E_lv [0, 1, 2, 3] rfl (w_L_law_2038 hs512 h)
  · rw [if_neg c] at h
    refine E_iconst (0 : Int32) dL_law_1146 (by decide) ?_
    obtain ⟨rfl, rfl⟩ := h
    exact E_zret dL_law_1147 rfl (Or.inl rfl)
def W_L_law_1148 (X : Sx) (l : Launch) (D : Nat) (x0 : Nat) (x3 : Int32) (σ : AH) (r : Option Value) (σ' : AH) : Prop := ∃ nx0 : Nat, kd σ x0 = (100, nx0) ∧ x0 < nx σ ∧ vp_in (x3 + (1 : Int32)) nx0 ∧ vp_in (x3 + (2 : Int32)) nx0 ∧ vp_in (x3 + (3 : Int32)) nx0 ∧ vp_in (x3 + (4 : Int32)) nx0 ∧ vp_in (x3 + (5 : Int32)) nx0 ∧ vp_in (x3 + (6 : Int32)) nx0 ∧ vp_in (x3 + (7 : Int32)) nx0 ∧ ∃ d523 : Nat, ∃ v528 : Int32, ∃ σ524 : AH, d523 + 1 ≤ D ∧ Call X l m_X11_entry d523 [.ref 0, .int (gI σ x0 (x3 + (1 : Int32)).toNatClampNeg), .int (gI σ x0 (x3 + (2 : Int32)).toNatClampNeg), .int (gI σ x0 (x3 + (3 : Int32)).toNatClampNeg), .int (gI σ x0 (x3 + (4 : Int32)).toNatClampNeg), .int (gI σ x0 (x3 + (5 : Int32)).toNatClampNeg), .int (gI σ x0 (x3 + (6 : Int32)).toNatClampNeg), .int (gI σ x0 (x3 + (7 : Int32)).toNatClampNeg)] σ (some (.int v528)) σ524 ∧ vp_in (x3 + (1 : Int32)) nx0 ∧ vp_in (x3 + (2 : Int32)) nx0 ∧ vp_in (x3 + (3 : Int32)) nx0 ∧ vp_in (x3 + (4 : Int32)) nx0 ∧ vp_in (x3 + (5 : Int32)) nx0 ∧ vp_in (x3 + (6 : Int32)) nx0 ∧ vp_in (x3 + (7 : Int32)) nx0 ∧ ∃ d538 : Nat, ∃ v543 : Int32, ∃ σ539 : AH, d538 + 1 ≤ D ∧ Call X l m_X12_entry d538 [.ref 124, .int (gI σ524 x0 (x3 + (1 : Int32)).toNatClampNeg), .int (gI σ524 x0 (x3 + (2 : Int32)).toNatClampNeg), .int (gI σ524 x0 (x3 + (3 : Int32)).toNatClampNeg), .int (gI σ524 x0 (x3 + (4 : Int32)).toNatClampNeg), .int (gI σ524 x0 (x3 + (5 : Int32)).toNatClampNeg), .int (gI σ524 x0 (x3 + (6 : Int32)).toNatClampNeg), .int (gI σ524 x0 (x3 + (7 : Int32)).toNatClampNeg)] σ524 (some (.int v543)) σ539 ∧ (if v528 = v543 then W_L_law_2038 X l D x0 x3 σ539 r σ' else (r = some (.int (0 : Int32)) ∧ σ' = σ539))
set_option maxRecDepth 100000 in
theorem w_L_law_1148 {X : Sx} {l : Launch} {D : Nat} {x0 : Nat} {x3 : Int32} {σ : AH} {r : Option Value} {σ' : AH} (hs : Sh σ) (h : W_L_law_1148 X l D x0 x3 σ r σ') : E X l m_L_law D 1148 [(0, .ref x0), (1, .ref 0), (2, .ref 124), (3, .int x3)] [] σ r σ' := by
  unfold W_L_law_1148 at h
  obtain ⟨nx0, hkx0, hbx0, h⟩ := h
  refine E_aload_n 1 dL_law_1148 rfl rfl ?_
  refine E_aload_n 0 dL_law_1149 rfl rfl ?_
  refine E_iload_n 3 dL_law_1150 rfl rfl ?_
  refine E_iconst (1 : Int32) dL_law_1151 (by decide) ?_
  refine E_iadd dL_law_1152 ?_
  obtain ⟨g516, h⟩ := h
  refine E_iald2 ((x3 + (1 : Int32)).toNatClampNeg) dL_law_1153 hkx0 hbx0 g516 rfl ?_
  refine E_aload_n 0 dL_law_1154 rfl rfl ?_
  refine E_iload_n 3 dL_law_1155 rfl rfl ?_
  refine E_iconst (2 : Int32) dL_law_1156 (by decide) ?_
  refine E_iadd dL_law_1157 ?_
  obtain ⟨g517, h⟩ := h
  refine E_iald2 ((x3 + (2 : Int32)).toNatClampNeg) dL_law_1158 hkx0 hbx0 g517 rfl ?_
  refine E_aload_n 0 dL_law_1159 rfl rfl ?_
  refine E_iload_n 3 dL_law_1160 rfl rfl ?_
  refine E_iconst (3 : Int32) dL_law_1161 (by decide) ?_
  refine E_iadd dL_law_1162 ?_
  obtain ⟨g518, h⟩ := h
  refine E_iald2 ((x3 + (3 : Int32)).toNatClampNeg) dL_law_1163 hkx0 hbx0 g518 rfl ?_
  refine E_aload_n 0 dL_law_1164 rfl rfl ?_
  refine E_iload_n 3 dL_law_1165 rfl rfl ?_
  refine E_iconst (4 : Int32) dL_law_1166 (by decide) ?_
  refine E_iadd dL_law_1167 ?_
  obtain ⟨g519, h⟩ := h
  refine E_iald2 ((x3 + (4 : Int32)).toNatClampNeg) dL_law_1168 hkx0 hbx0 g519 rfl ?_
  refine E_aload_n 0 dL_law_1169 rfl rfl ?_
  refine E_iload_n 3 dL_law_1170 rfl rfl ?_
  refine E_iconst (5 : Int32) dL_law_1171 (by decide) ?_
  refine E_iadd dL_law_1172 ?_
  obtain ⟨g520, h⟩ := h
  refine E_iald2 ((x3 + (5 : Int32)).toNatClampNeg) dL_law_1173 hkx0 hbx0 g520 rfl ?_
  refine E_aload_n 0 dL_law_1174 rfl rfl ?_
  refine E_iload_n 3 dL_law_1175 rfl rfl ?_
  refine E_bipush (6 : Int32) dL_law_1176 (by decide) ?_
  refine E_iadd dL_law_1178 ?_
  obtain ⟨g521, h⟩ := h
  refine E_iald2 ((x3 + (6 : Int32)).toNatClampNeg) dL_law_1179 hkx0 hbx0 g521 rfl ?_
  refine E_aload_n 0 dL_law_1180 rfl rfl ?_
  refine E_iload_n 3 dL_law_1181 rfl rfl ?_
  refine E_bipush (7 : Int32) dL_law_1182 (by decide) ?_
  refine E_iadd dL_law_1184 ?_
  obtain ⟨g522, h⟩ := h
  refine E_iald2 ((x3 + (7 : Int32)).toNatClampNeg) dL_law_1185 hkx0 hbx0 g522 rfl ?_
  obtain ⟨d523, v528, σ524, hD525, hC526, h⟩ := h
  have hs527 := hC526.1.2.2.2.1 hs
  have hk529 := (hC526.1.2.2.1 _ hbx0).trans hkx0
  have hb530 := Nat.lt_of_lt_of_le hbx0 hC526.1.1
  refine E_callV (As := [.int (gI σ x0 (x3 + (1 : Int32)).toNatClampNeg), .int (gI σ x0 (x3 + (2 : Int32)).toNatClampNeg), .int (gI σ x0 (x3 + (3 : Int32)).toNatClampNeg), .int (gI σ x0 (x3 + (4 : Int32)).toNatClampNeg), .int (gI σ x0 (x3 + (5 : Int32)).toNatClampNeg), .int (gI σ x0 (x3 + (6 : Int32)).toNatClampNeg), .int (gI σ x0 (x3 + (7 : Int32)).toNatClampNeg)]) (rest := []) (r1 := (some (.int v528))) (b := 0) dL_law_1186 ok_X11_entry in_X11_entry se_X11_entry ml_L_109 hD525 rfl rfl (Nat.le_of_ble_eq_true rfl) (sk_0 hs) (sn hs (by decide)) (by decide) rfl (by decide +kernel) hC526 ?_
  refine E_aload_n 2 dL_law_1189 rfl rfl ?_
  refine E_aload_n 0 dL_law_1190 rfl rfl ?_
  refine E_iload_n 3 dL_law_1191 rfl rfl ?_
  refine E_iconst (1 : Int32) dL_law_1192 (by decide) ?_
  refine E_iadd dL_law_1193 ?_
  obtain ⟨g531, h⟩ := h
  refine E_iald2 ((x3 + (1 : Int32)).toNatClampNeg) dL_law_1194 hk529 hb530 g531 rfl ?_
  refine E_aload_n 0 dL_law_1195 rfl rfl ?_
  refine E_iload_n 3 dL_law_1196 rfl rfl ?_
  refine E_iconst (2 : Int32) dL_law_1197 (by decide) ?_
  refine E_iadd dL_law_1198 ?_
  obtain ⟨g532, h⟩ := h
  refine E_iald2 ((x3 + (2 : Int32)).toNatClampNeg) dL_law_1199 hk529 hb530 g532 rfl ?_
  refine E_aload_n 0 dL_law_1200 rfl rfl ?_
  refine E_iload_n 3 dL_law_1201 rfl rfl ?_
  refine E_iconst (3 : Int32) dL_law_1202 (by decide) ?_
  refine E_iadd dL_law_1203 ?_
  obtain ⟨g533, h⟩ := h
  refine E_iald2 ((x3 + (3 : Int32)).toNatClampNeg) dL_law_1204 hk529 hb530 g533 rfl ?_
  refine E_aload_n 0 dL_law_1205 rfl rfl ?_
  refine E_iload_n 3 dL_law_1206 rfl rfl ?_
  refine E_iconst (4 : Int32) dL_law_1207 (by decide) ?_
  refine E_iadd dL_law_1208 ?_
  obtain ⟨g534, h⟩ := h
  refine E_iald2 ((x3 + (4 : Int32)).toNatClampNeg) dL_law_1209 hk529 hb530 g534 rfl ?_
  refine E_aload_n 0 dL_law_1210 rfl rfl ?_
  refine E_iload_n 3 dL_law_1211 rfl rfl ?_
  refine E_iconst (5 : Int32) dL_law_1212 (by decide) ?_
  refine E_iadd dL_law_1213 ?_
  obtain ⟨g535, h⟩ := h
  refine E_iald2 ((x3 + (5 : Int32)).toNatClampNeg) dL_law_1214 hk529 hb530 g535 rfl ?_
  refine E_aload_n 0 dL_law_1215 rfl rfl ?_
  refine E_iload_n 3 dL_law_1216 rfl rfl ?_
  refine E_bipush (6 : Int32) dL_law_1217 (by decide) ?_
  refine E_iadd dL_law_1219 ?_
  obtain ⟨g536, h⟩ := h
  refine E_iald2 ((x3 + (6 : Int32)).toNatClampNeg) dL_law_1220 hk529 hb530 g536 rfl ?_
  refine E_aload_n 0 dL_law_1221 rfl rfl ?_
  refine E_iload_n 3 dL_law_1222 rfl rfl ?_
  refine E_bipush (7 : Int32) dL_law_1223 (by decide) ?_
  refine E_iadd dL_law_1225 ?_
  obtain ⟨g537, h⟩ := h
  refine E_iald2 ((x3 + (7 : Int32)).toNatClampNeg) dL_law_1226 hk529 hb530 g537 rfl ?_
  obtain ⟨d538, v543, σ539, hD540, hC541, h⟩ := h
  have hs542 := hC541.1.2.2.2.1 hs527
  have hk544 := (hC541.1.2.2.1 _ hb530).trans hk529
  have hb545 := Nat.lt_of_lt_of_le hb530 hC541.1.1
  refine E_callV (As := [.int (gI σ524 x0 (x3 + (1 : Int32)).toNatClampNeg), .int (gI σ524 x0 (x3 + (2 : Int32)).toNatClampNeg), .int (gI σ524 x0 (x3 + (3 : Int32)).toNatClampNeg), .int (gI σ524 x0 (x3 + (4 : Int32)).toNatClampNeg), .int (gI σ524 x0 (x3 + (5 : Int32)).toNatClampNeg), .int (gI σ524 x0 (x3 + (6 : Int32)).toNatClampNeg), .int (gI σ524 x0 (x3 + (7 : Int32)).toNatClampNeg)]) (rest := [.int v528]) (r1 := (some (.int v543))) (b := 124) dL_law_1227 ok_X12_entry in_X12_entry se_X12_entry ml_L_113 hD540 rfl rfl (Nat.le_of_ble_eq_true rfl) (sk_124 hs527) (sn hs527 (by decide)) (by decide) rfl (by decide +kernel) hC541 ?_
  refine E_icmp_eq 2038 dL_law_1230 (by decide) (fun c => ?_) (fun c => ?_)
  · rw [if_pos c] at h
    exact E_lv [0, 1, 2, 3] rfl (w_L_law_2038 hs542 h)
  · rw [if_neg c] at h
    refine E_iconst (0 : Int32) dL_law_1233 (by decide) ?_
    obtain ⟨rfl, rfl⟩ := h
    exact E_zret dL_law_1234 rfl (Or.inl rfl)
def W_L_law_1235 (X : Sx) (l : Launch) (D : Nat) (x0 : Nat) (x3 : Int32) (σ : AH) (r : Option Value) (σ' : AH) : Prop := ∃ nx0 : Nat, kd σ x0 = (100, nx0) ∧ x0 < nx σ ∧ vp_in (x3 + (1 : Int32)) nx0 ∧ vp_in (x3 + (2 : Int32)) nx0 ∧ vp_in (x3 + (3 : Int32)) nx0 ∧ ∃ d549 : Nat, ∃ v554 : Int32, ∃ σ550 : AH, d549 + 1 ≤ D ∧ Call X l m_X11_mark d549 [.ref 0, .int (gI σ x0 (x3 + (1 : Int32)).toNatClampNeg), .int (gI σ x0 (x3 + (2 : Int32)).toNatClampNeg), .int (gI σ x0 (x3 + (3 : Int32)).toNatClampNeg)] σ (some (.int v554)) σ550 ∧ vp_in (x3 + (1 : Int32)) nx0 ∧ vp_in (x3 + (2 : Int32)) nx0 ∧ vp_in (x3 + (3 : Int32)) nx0 ∧ ∃ d560 : Nat, ∃ v565 : Int32, ∃ σ561 : AH, d560 + 1 ≤ D ∧ Call X l m_X12_mark d560 [.ref 124, .int (gI σ550 x0 (x3 + (1 : Int32)).toNatClampNeg), .int (gI σ550 x0 (x3 + (2 : Int32)).toNatClampNeg), .int (gI σ550 x0 (x3 + (3 : Int32)).toNatClampNeg)] σ550 (some (.int v565)) σ561 ∧ (if v554 = v565 then W_L_law_2038 X l D x0 x3 σ561 r σ' else (r = some (.int (0 : Int32)) ∧ σ' = σ561))
set_option maxRecDepth 100000 in
theorem w_L_law_1235 {X : Sx} {l : Launch} {D : Nat} {x0 : Nat} {x3 : Int32} {σ : AH} {r : Option Value} {σ' : AH} (hs : Sh σ) (h : W_L_law_1235 X l D x0 x3 σ r σ') : E X l m_L_law D 1235 [(0, .ref x0), (1, .ref 0), (2, .ref 124), (3, .int x3)] [] σ r σ' := by
  unfold W_L_law_1235 at h
  obtain ⟨nx0, hkx0, hbx0, h⟩ := h
  refine E_aload_n 1 dL_law_1235 rfl rfl ?_
  refine E_aload_n 0 dL_law_1236 rfl rfl ?_
  refine E_iload_n 3 dL_law_1237 rfl rfl ?_
  refine E_iconst (1 : Int32) dL_law_1238 (by decide) ?_
  refine E_iadd dL_law_1239 ?_
  obtain ⟨g546, h⟩ := h
  refine E_iald2 ((x3 + (1 : Int32)).toNatClampNeg) dL_law_1240 hkx0 hbx0 g546 rfl ?_
  refine E_aload_n 0 dL_law_1241 rfl rfl ?_
  refine E_iload_n 3 dL_law_1242 rfl rfl ?_
  refine E_iconst (2 : Int32) dL_law_1243 (by decide) ?_
  refine E_iadd dL_law_1244 ?_
  obtain ⟨g547, h⟩ := h
  refine E_iald2 ((x3 + (2 : Int32)).toNatClampNeg) dL_law_1245 hkx0 hbx0 g547 rfl ?_
  refine E_aload_n 0 dL_law_1246 rfl rfl ?_
  refine E_iload_n 3 dL_law_1247 rfl rfl ?_
  refine E_iconst (3 : Int32) dL_law_1248 (by decide) ?_
  refine E_iadd dL_law_1249 ?_
  obtain ⟨g548, h⟩ := h
  refine E_iald2 ((x3 + (3 : Int32)).toNatClampNeg) dL_law_1250 hkx0 hbx0 g548 rfl ?_
  obtain ⟨d549, v554, σ550, hD551, hC552, h⟩ := h
  have hs553 := hC552.1.2.2.2.1 hs
  have hk555 := (hC552.1.2.2.1 _ hbx0).trans hkx0
  have hb556 := Nat.lt_of_lt_of_le hbx0 hC552.1.1
  refine E_callV (As := [.int (gI σ x0 (x3 + (1 : Int32)).toNatClampNeg), .int (gI σ x0 (x3 + (2 : Int32)).toNatClampNeg), .int (gI σ x0 (x3 + (3 : Int32)).toNatClampNeg)]) (rest := []) (r1 := (some (.int v554))) (b := 0) dL_law_1251 ok_X11_mark in_X11_mark se_X11_mark ml_L_114 hD551 rfl rfl (Nat.le_of_ble_eq_true rfl) (sk_0 hs) (sn hs (by decide)) (by decide) rfl (by decide +kernel) hC552 ?_
  refine E_aload_n 2 dL_law_1254 rfl rfl ?_
  refine E_aload_n 0 dL_law_1255 rfl rfl ?_
  refine E_iload_n 3 dL_law_1256 rfl rfl ?_
  refine E_iconst (1 : Int32) dL_law_1257 (by decide) ?_
  refine E_iadd dL_law_1258 ?_
  obtain ⟨g557, h⟩ := h
  refine E_iald2 ((x3 + (1 : Int32)).toNatClampNeg) dL_law_1259 hk555 hb556 g557 rfl ?_
  refine E_aload_n 0 dL_law_1260 rfl rfl ?_
  refine E_iload_n 3 dL_law_1261 rfl rfl ?_
  refine E_iconst (2 : Int32) dL_law_1262 (by decide) ?_
  refine E_iadd dL_law_1263 ?_
  obtain ⟨g558, h⟩ := h
  refine E_iald2 ((x3 + (2 : Int32)).toNatClampNeg) dL_law_1264 hk555 hb556 g558 rfl ?_
  refine E_aload_n 0 dL_law_1265 rfl rfl ?_
  refine E_iload_n 3 dL_law_1266 rfl rfl ?_
  refine E_iconst (3 : Int32) dL_law_1267 (by decide) ?_
  refine E_iadd dL_law_1268 ?_
  obtain ⟨g559, h⟩ := h
  refine E_iald2 ((x3 + (3 : Int32)).toNatClampNeg) dL_law_1269 hk555 hb556 g559 rfl ?_
  obtain ⟨d560, v565, σ561, hD562, hC563, h⟩ := h
  have hs564 := hC563.1.2.2.2.1 hs553
  have hk566 := (hC563.1.2.2.1 _ hb556).trans hk555
  have hb567 := Nat.lt_of_lt_of_le hb556 hC563.1.1
  refine E_callV (As := [.int (gI σ550 x0 (x3 + (1 : Int32)).toNatClampNeg), .int (gI σ550 x0 (x3 + (2 : Int32)).toNatClampNeg), .int (gI σ550 x0 (x3 + (3 : Int32)).toNatClampNeg)]) (rest := [.int v554]) (r1 := (some (.int v565))) (b := 124) dL_law_1270 ok_X12_mark in_X12_mark se_X12_mark ml_L_117 hD562 rfl rfl (Nat.le_of_ble_eq_true rfl) (sk_124 hs553) (sn hs553 (by decide)) (by decide) rfl (by decide +kernel) hC563 ?_
  refine E_icmp_eq 2038 dL_law_1273 (by decide) (fun c => ?_) (fun c => ?_)
  · rw [if_pos c] at h
    exact E_lv [0, 1, 2, 3] rfl (w_L_law_2038 hs564 h)
  · rw [if_neg c] at h
    refine E_iconst (0 : Int32) dL_law_1276 (by decide) ?_
    obtain ⟨rfl, rfl⟩ := h
    exact E_zret dL_law_1277 rfl (Or.inl rfl)
def W_L_law_1278 (X : Sx) (l : Launch) (D : Nat) (x0 : Nat) (x3 : Int32) (σ : AH) (r : Option Value) (σ' : AH) : Prop := ∃ nx0 : Nat, kd σ x0 = (100, nx0) ∧ x0 < nx σ ∧ vp_in (x3 + (1 : Int32)) nx0 ∧ vp_in (x3 + (2 : Int32)) nx0 ∧ ∃ d570 : Nat, ∃ v575 : Int32, ∃ σ571 : AH, d570 + 1 ≤ D ∧ Call X l m_X11_family d570 [.ref 0, .int (gI σ x0 (x3 + (1 : Int32)).toNatClampNeg), .int (gI σ x0 (x3 + (2 : Int32)).toNatClampNeg)] σ (some (.int v575)) σ571 ∧ vp_in (x3 + (1 : Int32)) nx0 ∧ vp_in (x3 + (2 : Int32)) nx0 ∧ ∃ d580 : Nat, ∃ v585 : Int32, ∃ σ581 : AH, d580 + 1 ≤ D ∧ Call X l m_X12_family d580 [.ref 124, .int (gI σ571 x0 (x3 + (1 : Int32)).toNatClampNeg), .int (gI σ571 x0 (x3 + (2 : Int32)).toNatClampNeg)] σ571 (some (.int v585)) σ581 ∧ (if v575 = v585 then W_L_law_2038 X l D x0 x3 σ581 r σ' else (r = some (.int (0 : Int32)) ∧ σ' = σ581))
set_option maxRecDepth 100000 in
theorem w_L_law_1278 {X : Sx} {l : Launch} {D : Nat} {x0 : Nat} {x3 : Int32} {σ : AH} {r : Option Value} {σ' : AH} (hs : Sh σ) (h : W_L_law_1278 X l D x0 x3 σ r σ') : E X l m_L_law D 1278 [(0, .ref x0), (1, .ref 0), (2, .ref 124), (3, .int x3)] [] σ r σ' := by
  unfold W_L_law_1278 at h
  obtain ⟨nx0, hkx0, hbx0, h⟩ := h
  refine E_aload_n 1 dL_law_1278 rfl rfl ?_
  refine E_aload_n 0 dL_law_1279 rfl rfl ?_
  refine E_iload_n 3 dL_law_1280 rfl rfl ?_
  refine E_iconst (1 : Int32) dL_law_1281 (by decide) ?_
  refine E_iadd dL_law_1282 ?_
  obtain ⟨g568, h⟩ := h
  refine E_iald2 ((x3 + (1 : Int32)).toNatClampNeg) dL_law_1283 hkx0 hbx0 g568 rfl ?_
  refine E_aload_n 0 dL_law_1284 rfl rfl ?_
  refine E_iload_n 3 dL_law_1285 rfl rfl ?_
  refine E_iconst (2 : Int32) dL_law_1286 (by decide) ?_
  refine E_iadd dL_law_1287 ?_
  obtain ⟨g569, h⟩ := h
  refine E_iald2 ((x3 + (2 : Int32)).toNatClampNeg) dL_law_1288 hkx0 hbx0 g569 rfl ?_
  obtain ⟨d570, v575, σ571, hD572, hC573, h⟩ := h
  have hs574 := hC573.1.2.2.2.1 hs
  have hk576 := (hC573.1.2.2.1 _ hbx0).trans hkx0
  have hb577 := Nat.lt_of_lt_of_le hbx0 hC573.1.1
  refine E_callV (As := [.int (gI σ x0 (x3 + (1 : Int32)).toNatClampNeg), .int (gI σ x0 (x3 + (2 : Int32)).toNatClampNeg)]) (rest := []) (r1 := (some (.int v575))) (b := 0) dL_law_1289 ok_X11_family in_X11_family se_X11_family ml_L_118 hD572 rfl rfl (Nat.le_of_ble_eq_true rfl) (sk_0 hs) (sn hs (by decide)) (by decide) rfl (by decide +kernel) hC573 ?_
  refine E_aload_n 2 dL_law_1292 rfl rfl ?_
  refine E_aload_n 0 dL_law_1293 rfl rfl ?_
  refine E_iload_n 3 dL_law_1294 rfl rfl ?_
  refine E_iconst (1 : Int32) dL_law_1295 (by decide) ?_
  refine E_iadd dL_law_1296 ?_
  obtain ⟨g578, h⟩ := h
  refine E_iald2 ((x3 + (1 : Int32)).toNatClampNeg) dL_law_1297 hk576 hb577 g578 rfl ?_
  refine E_aload_n 0 dL_law_1298 rfl rfl ?_
  refine E_iload_n 3 dL_law_1299 rfl rfl ?_
  refine E_iconst (2 : Int32) dL_law_1300 (by decide) ?_
  refine E_iadd dL_law_1301 ?_
  obtain ⟨g579, h⟩ := h
  refine E_iald2 ((x3 + (2 : Int32)).toNatClampNeg) dL_law_1302 hk576 hb577 g579 rfl ?_
  obtain ⟨d580, v585, σ581, hD582, hC583, h⟩ := h
  have hs584 := hC583.1.2.2.2.1 hs574
  have hk586 := (hC583.1.2.2.1 _ hb577).trans hk576
  have hb587 := Nat.lt_of_lt_of_le hb577 hC583.1.1
  refine E_callV (As := [.int (gI σ571 x0 (x3 + (1 : Int32)).toNatClampNeg), .int (gI σ571 x0 (x3 + (2 : Int32)).toNatClampNeg)]) (rest := [.int v575]) (r1 := (some (.int v585))) (b := 124) dL_law_1303 ok_X12_family in_X12_family se_X12_family ml_L_121 hD582 rfl rfl (Nat.le_of_ble_eq_true rfl) (sk_124 hs574) (sn hs574 (by decide)) (by decide) rfl (by decide +kernel) hC583 ?_
  refine E_icmp_eq 2038 dL_law_1306 (by decide) (fun c => ?_) (fun c => ?_)
  · rw [if_pos c] at h
    exact E_lv [0, 1, 2, 3] rfl (w_L_law_2038 hs584 h)
  · rw [if_neg c] at h
    refine E_iconst (0 : Int32) dL_law_1309 (by decide) ?_
    obtain ⟨rfl, rfl⟩ := h
    exact E_zret dL_law_1310 rfl (Or.inl rfl)
def W_L_law_1311 (X : Sx) (l : Launch) (D : Nat) (x0 : Nat) (x3 : Int32) (σ : AH) (r : Option Value) (σ' : AH) : Prop := ∃ nx0 : Nat, kd σ x0 = (100, nx0) ∧ x0 < nx σ ∧ vp_in (x3 + (1 : Int32)) nx0 ∧ vp_in (x3 + (2 : Int32)) nx0 ∧ vp_in (x3 + (3 : Int32)) nx0 ∧ ∃ d591 : Nat, ∃ v596 : Int32, ∃ σ592 : AH, d591 + 1 ≤ D ∧ Call X l m_X11_points d591 [.ref 0, .int (gI σ x0 (x3 + (1 : Int32)).toNatClampNeg), .int (gI σ x0 (x3 + (2 : Int32)).toNatClampNeg), .int (gI σ x0 (x3 + (3 : Int32)).toNatClampNeg)] σ (some (.int v596)) σ592 ∧ vp_in (x3 + (1 : Int32)) nx0 ∧ vp_in (x3 + (2 : Int32)) nx0 ∧ vp_in (x3 + (3 : Int32)) nx0 ∧ ∃ d602 : Nat, ∃ v607 : Int32, ∃ σ603 : AH, d602 + 1 ≤ D ∧ Call X l m_X12_points d602 [.ref 124, .int (gI σ592 x0 (x3 + (1 : Int32)).toNatClampNeg), .int (gI σ592 x0 (x3 + (2 : Int32)).toNatClampNeg), .int (gI σ592 x0 (x3 + (3 : Int32)).toNatClampNeg)] σ592 (some (.int v607)) σ603 ∧ (if v596 = v607 then W_L_law_2038 X l D x0 x3 σ603 r σ' else (r = some (.int (0 : Int32)) ∧ σ' = σ603))
set_option maxRecDepth 100000 in
theorem w_L_law_1311 {X : Sx} {l : Launch} {D : Nat} {x0 : Nat} {x3 : Int32} {σ : AH} {r : Option Value} {σ' : AH} (hs : Sh σ) (h : W_L_law_1311 X l D x0 x3 σ r σ') : E X l m_L_law D 1311 [(0, .ref x0), (1, .ref 0), (2, .ref 124), (3, .int x3)] [] σ r σ' := by
  unfold W_L_law_1311 at h
  obtain ⟨nx0, hkx0, hbx0, h⟩ := h
  refine E_aload_n 1 dL_law_1311 rfl rfl ?_
  refine E_aload_n 0 dL_law_1312 rfl rfl ?_
  refine E_iload_n 3 dL_law_1313 rfl rfl ?_
  refine E_iconst (1 : Int32) dL_law_1314 (by decide) ?_
  refine E_iadd dL_law_1315 ?_
  obtain ⟨g588, h⟩ := h
  refine E_iald2 ((x3 + (1 : Int32)).toNatClampNeg) dL_law_1316 hkx0 hbx0 g588 rfl ?_
  refine E_aload_n 0 dL_law_1317 rfl rfl ?_
  refine E_iload_n 3 dL_law_1318 rfl rfl ?_
  refine E_iconst (2 : Int32) dL_law_1319 (by decide) ?_
  refine E_iadd dL_law_1320 ?_
  obtain ⟨g589, h⟩ := h
  refine E_iald2 ((x3 + (2 : Int32)).toNatClampNeg) dL_law_1321 hkx0 hbx0 g589 rfl ?_
  refine E_aload_n 0 dL_law_1322 rfl rfl ?_
  refine E_iload_n 3 dL_law_1323 rfl rfl ?_
  refine E_iconst (3 : Int32) dL_law_1324 (by decide) ?_
  refine E_iadd dL_law_1325 ?_
  obtain ⟨g590, h⟩ := h
  refine E_iald2 ((x3 + (3 : Int32)).toNatClampNeg) dL_law_1326 hkx0 hbx0 g590 rfl ?_
  obtain ⟨d591, v596, σ592, hD593, hC594, h⟩ := h
  have hs595 := hC594.1.2.2.2.1 hs
  have hk597 := (hC594.1.2.2.1 _ hbx0).trans hkx0
  have hb598 := Nat.lt_of_lt_of_le hbx0 hC594.1.1
  refine E_callV (As := [.int (gI σ x0 (x3 + (1 : Int32)).toNatClampNeg), .int (gI σ x0 (x3 + (2 : Int32)).toNatClampNeg), .int (gI σ x0 (x3 + (3 : Int32)).toNatClampNeg)]) (rest := []) (r1 := (some (.int v596))) (b := 0) dL_law_1327 ok_X11_points in_X11_points se_X11_points ml_L_122 hD593 rfl rfl (Nat.le_of_ble_eq_true rfl) (sk_0 hs) (sn hs (by decide)) (by decide) rfl (by decide +kernel) hC594 ?_
  refine E_aload_n 2 dL_law_1330 rfl rfl ?_
  refine E_aload_n 0 dL_law_1331 rfl rfl ?_
  refine E_iload_n 3 dL_law_1332 rfl rfl ?_
  refine E_iconst (1 : Int32) dL_law_1333 (by decide) ?_
  refine E_iadd dL_law_1334 ?_
  obtain ⟨g599, h⟩ := h
  refine E_iald2 ((x3 + (1 : Int32)).toNatClampNeg) dL_law_1335 hk597 hb598 g599 rfl ?_
  refine E_aload_n 0 dL_law_1336 rfl rfl ?_
  refine E_iload_n 3 dL_law_1337 rfl rfl ?_
  refine E_iconst (2 : Int32) dL_law_1338 (by decide) ?_
  refine E_iadd dL_law_1339 ?_
  obtain ⟨g600, h⟩ := h
  refine E_iald2 ((x3 + (2 : Int32)).toNatClampNeg) dL_law_1340 hk597 hb598 g600 rfl ?_
  refine E_aload_n 0 dL_law_1341 rfl rfl ?_
  refine E_iload_n 3 dL_law_1342 rfl rfl ?_
  refine E_iconst (3 : Int32) dL_law_1343 (by decide) ?_
  refine E_iadd dL_law_1344 ?_
  obtain ⟨g601, h⟩ := h
  refine E_iald2 ((x3 + (3 : Int32)).toNatClampNeg) dL_law_1345 hk597 hb598 g601 rfl ?_
  obtain ⟨d602, v607, σ603, hD604, hC605, h⟩ := h
  have hs606 := hC605.1.2.2.2.1 hs595
  have hk608 := (hC605.1.2.2.1 _ hb598).trans hk597
  have hb609 := Nat.lt_of_lt_of_le hb598 hC605.1.1
  refine E_callV (As := [.int (gI σ592 x0 (x3 + (1 : Int32)).toNatClampNeg), .int (gI σ592 x0 (x3 + (2 : Int32)).toNatClampNeg), .int (gI σ592 x0 (x3 + (3 : Int32)).toNatClampNeg)]) (rest := [.int v596]) (r1 := (some (.int v607))) (b := 124) dL_law_1346 ok_X12_points in_X12_points se_X12_points ml_L_125 hD604 rfl rfl (Nat.le_of_ble_eq_true rfl) (sk_124 hs595) (sn hs595 (by decide)) (by decide) rfl (by decide +kernel) hC605 ?_
  refine E_icmp_eq 2038 dL_law_1349 (by decide) (fun c => ?_) (fun c => ?_)
  · rw [if_pos c] at h
    exact E_lv [0, 1, 2, 3] rfl (w_L_law_2038 hs606 h)
  · rw [if_neg c] at h
    refine E_iconst (0 : Int32) dL_law_1352 (by decide) ?_
    obtain ⟨rfl, rfl⟩ := h
    exact E_zret dL_law_1353 rfl (Or.inl rfl)
def W_L_law_1354 (X : Sx) (l : Launch) (D : Nat) (x0 : Nat) (x3 : Int32) (σ : AH) (r : Option Value) (σ' : AH) : Prop := ∃ nx0 : Nat, kd σ x0 = (100, nx0) ∧ x0 < nx σ ∧ vp_in (x3 + (1 : Int32)) nx0 ∧ vp_in (x3 + (2 : Int32)) nx0 ∧ vp_in (x3 + (3 : Int32)) nx0 ∧ vp_in (x3 + (4 : Int32)) nx0 ∧ ∃ d614 : Nat, ∃ v619 : Int32, ∃ σ615 : AH, d614 + 1 ≤ D ∧ Call X l m_X11_order d614 [.ref 0, .int (gI σ x0 (x3 + (1 : Int32)).toNatClampNeg), .int (gI σ x0 (x3 + (2 : Int32)).toNatClampNeg), .int (gI σ x0 (x3 + (3 : Int32)).toNatClampNeg), .int (gI σ x0 (x3 + (4 : Int32)).toNatClampNeg)] σ (some (.int v619)) σ615 ∧ vp_in (x3 + (1 : Int32)) nx0 ∧ vp_in (x3 + (2 : Int32)) nx0 ∧ vp_in (x3 + (3 : Int32)) nx0 ∧ vp_in (x3 + (4 : Int32)) nx0 ∧ ∃ d626 : Nat, ∃ v631 : Int32, ∃ σ627 : AH, d626 + 1 ≤ D ∧ Call X l m_X12_order d626 [.ref 124, .int (gI σ615 x0 (x3 + (1 : Int32)).toNatClampNeg), .int (gI σ615 x0 (x3 + (2 : Int32)).toNatClampNeg), .int (gI σ615 x0 (x3 + (3 : Int32)).toNatClampNeg), .int (gI σ615 x0 (x3 + (4 : Int32)).toNatClampNeg)] σ615 (some (.int v631)) σ627 ∧ (if v619 = v631 then W_L_law_2038 X l D x0 x3 σ627 r σ' else (r = some (.int (0 : Int32)) ∧ σ' = σ627))
set_option maxRecDepth 100000 in
theorem w_L_law_1354 {X : Sx} {l : Launch} {D : Nat} {x0 : Nat} {x3 : Int32} {σ : AH} {r : Option Value} {σ' : AH} (hs : Sh σ) (h : W_L_law_1354 X l D x0 x3 σ r σ') : E X l m_L_law D 1354 [(0, .ref x0), (1, .ref 0), (2, .ref 124), (3, .int x3)] [] σ r σ' := by
  unfold W_L_law_1354 at h
  obtain ⟨nx0, hkx0, hbx0, h⟩ := h
  refine E_aload_n 1 dL_law_1354 rfl rfl ?_
  refine E_aload_n 0 dL_law_1355 rfl rfl ?_
  refine E_iload_n 3 dL_law_1356 rfl rfl ?_
  refine E_iconst (1 : Int32) dL_law_1357 (by decide) ?_
  refine E_iadd dL_law_1358 ?_
  obtain ⟨g610, h⟩ := h
  refine E_iald2 ((x3 + (1 : Int32)).toNatClampNeg) dL_law_1359 hkx0 hbx0 g610 rfl ?_
  refine E_aload_n 0 dL_law_1360 rfl rfl ?_
  refine E_iload_n 3 dL_law_1361 rfl rfl ?_
  refine E_iconst (2 : Int32) dL_law_1362 (by decide) ?_
  refine E_iadd dL_law_1363 ?_
  obtain ⟨g611, h⟩ := h
  refine E_iald2 ((x3 + (2 : Int32)).toNatClampNeg) dL_law_1364 hkx0 hbx0 g611 rfl ?_
  refine E_aload_n 0 dL_law_1365 rfl rfl ?_
  refine E_iload_n 3 dL_law_1366 rfl rfl ?_
  refine E_iconst (3 : Int32) dL_law_1367 (by decide) ?_
  refine E_iadd dL_law_1368 ?_
  obtain ⟨g612, h⟩ := h
  refine E_iald2 ((x3 + (3 : Int32)).toNatClampNeg) dL_law_1369 hkx0 hbx0 g612 rfl ?_
  refine E_aload_n 0 dL_law_1370 rfl rfl ?_
  refine E_iload_n 3 dL_law_1371 rfl rfl ?_
  refine E_iconst (4 : Int32) dL_law_1372 (by decide) ?_
  refine E_iadd dL_law_1373 ?_
  obtain ⟨g613, h⟩ := h
  refine E_iald2 ((x3 + (4 : Int32)).toNatClampNeg) dL_law_1374 hkx0 hbx0 g613 rfl ?_
  obtain ⟨d614, v619, σ615, hD616, hC617, h⟩ := h
  have hs618 := hC617.1.2.2.2.1 hs
  have hk620 := (hC617.1.2.2.1 _ hbx0).trans hkx0
  have hb621 := Nat.lt_of_lt_of_le hbx0 hC617.1.1
  refine E_callV (As := [.int (gI σ x0 (x3 + (1 : Int32)).toNatClampNeg), .int (gI σ x0 (x3 + (2 : Int32)).toNatClampNeg), .int (gI σ x0 (x3 + (3 : Int32)).toNatClampNeg), .int (gI σ x0 (x3 + (4 : Int32)).toNatClampNeg)]) (rest := []) (r1 := (some (.int v619))) (b := 0) dL_law_1375 ok_X11_order in_X11_order se_X11_order ml_L_126 hD616 rfl rfl (Nat.le_of_ble_eq_true rfl) (sk_0 hs) (sn hs (by decide)) (by decide) rfl (by decide +kernel) hC617 ?_
  refine E_aload_n 2 dL_law_1378 rfl rfl ?_
  refine E_aload_n 0 dL_law_1379 rfl rfl ?_
  refine E_iload_n 3 dL_law_1380 rfl rfl ?_
  refine E_iconst (1 : Int32) dL_law_1381 (by decide) ?_
  refine E_iadd dL_law_1382 ?_
  obtain ⟨g622, h⟩ := h
  refine E_iald2 ((x3 + (1 : Int32)).toNatClampNeg) dL_law_1383 hk620 hb621 g622 rfl ?_
  refine E_aload_n 0 dL_law_1384 rfl rfl ?_
  refine E_iload_n 3 dL_law_1385 rfl rfl ?_
  refine E_iconst (2 : Int32) dL_law_1386 (by decide) ?_
  refine E_iadd dL_law_1387 ?_
  obtain ⟨g623, h⟩ := h
  refine E_iald2 ((x3 + (2 : Int32)).toNatClampNeg) dL_law_1388 hk620 hb621 g623 rfl ?_
  refine E_aload_n 0 dL_law_1389 rfl rfl ?_
  refine E_iload_n 3 dL_law_1390 rfl rfl ?_
  refine E_iconst (3 : Int32) dL_law_1391 (by decide) ?_
  refine E_iadd dL_law_1392 ?_
  obtain ⟨g624, h⟩ := h
  refine E_iald2 ((x3 + (3 : Int32)).toNatClampNeg) dL_law_1393 hk620 hb621 g624 rfl ?_
  refine E_aload_n 0 dL_law_1394 rfl rfl ?_
  refine E_iload_n 3 dL_law_1395 rfl rfl ?_
  refine E_iconst (4 : Int32) dL_law_1396 (by decide) ?_
  refine E_iadd dL_law_1397 ?_
  obtain ⟨g625, h⟩ := h
  refine E_iald2 ((x3 + (4 : Int32)).toNatClampNeg) dL_law_1398 hk620 hb621 g625 rfl ?_
  obtain ⟨d626, v631, σ627, hD628, hC629, h⟩ := h
  have hs630 := hC629.1.2.2.2.1 hs618
  have hk632 := (hC629.1.2.2.1 _ hb621).trans hk620
  have hb633 := Nat.lt_of_lt_of_le hb621 hC629.1.1
  refine E_callV (As := [.int (gI σ615 x0 (x3 + (1 : Int32)).toNatClampNeg), .int (gI σ615 x0 (x3 + (2 : Int32)).toNatClampNeg), .int (gI σ615 x0 (x3 + (3 : Int32)).toNatClampNeg), .int (gI σ615 x0 (x3 + (4 : Int32)).toNatClampNeg)]) (rest := [.int v619]) (r1 := (some (.int v631))) (b := 124) dL_law_1399 ok_X12_order in_X12_order se_X12_order ml_L_129 hD628 rfl rfl (Nat.le_of_ble_eq_true rfl) (sk_124 hs618) (sn hs618 (by decide)) (by decide) rfl (by decide +kernel) hC629 ?_
  refine E_icmp_eq 2038 dL_law_1402 (by decide) (fun c => ?_) (fun c => ?_)
  · rw [if_pos c] at h
    exact E_lv [0, 1, 2, 3] rfl (w_L_law_2038 hs630 h)
  · rw [if_neg c] at h
    refine E_iconst (0 : Int32) dL_law_1405 (by decide) ?_
    obtain ⟨rfl, rfl⟩ := h
    exact E_zret dL_law_1406 rfl (Or.inl rfl)
def W_L_law_1407 (X : Sx) (l : Launch) (D : Nat) (x0 : Nat) (x3 : Int32) (σ : AH) (r : Option Value) (σ' : AH) : Prop := ∃ nx0 : Nat, kd σ x0 = (100, nx0) ∧ x0 < nx σ ∧ vp_in (x3 + (1 : Int32)) nx0 ∧ vp_in (x3 + (2 : Int32)) nx0 ∧ vp_in (x3 + (3 : Int32)) nx0 ∧ vp_in (x3 + (4 : Int32)) nx0 ∧ ∃ d638 : Nat, ∃ v643 : Int32, ∃ σ639 : AH, d638 + 1 ≤ D ∧ Call X l m_X11_beside d638 [.ref 0, .int (gI σ x0 (x3 + (1 : Int32)).toNatClampNeg), .int (gI σ x0 (x3 + (2 : Int32)).toNatClampNeg), .int (gI σ x0 (x3 + (3 : Int32)).toNatClampNeg), .int (gI σ x0 (x3 + (4 : Int32)).toNatClampNeg)] σ (some (.int v643)) σ639 ∧ vp_in (x3 + (1 : Int32)) nx0 ∧ vp_in (x3 + (2 : Int32)) nx0 ∧ vp_in (x3 + (3 : Int32)) nx0 ∧ vp_in (x3 + (4 : Int32)) nx0 ∧ ∃ d650 : Nat, ∃ v655 : Int32, ∃ σ651 : AH, d650 + 1 ≤ D ∧ Call X l m_X12_beside d650 [.ref 124, .int (gI σ639 x0 (x3 + (1 : Int32)).toNatClampNeg), .int (gI σ639 x0 (x3 + (2 : Int32)).toNatClampNeg), .int (gI σ639 x0 (x3 + (3 : Int32)).toNatClampNeg), .int (gI σ639 x0 (x3 + (4 : Int32)).toNatClampNeg)] σ639 (some (.int v655)) σ651 ∧ (if v643 = v655 then W_L_law_2038 X l D x0 x3 σ651 r σ' else (r = some (.int (0 : Int32)) ∧ σ' = σ651))
set_option maxRecDepth 100000 in
theorem w_L_law_1407 {X : Sx} {l : Launch} {D : Nat} {x0 : Nat} {x3 : Int32} {σ : AH} {r : Option Value} {σ' : AH} (hs : Sh σ) (h : W_L_law_1407 X l D x0 x3 σ r σ') : E X l m_L_law D 1407 [(0, .ref x0), (1, .ref 0), (2, .ref 124), (3, .int x3)] [] σ r σ' := by
  unfold W_L_law_1407 at h
  obtain ⟨nx0, hkx0, hbx0, h⟩ := h
  refine E_aload_n 1 dL_law_1407 rfl rfl ?_
  refine E_aload_n 0 dL_law_1408 rfl rfl ?_
  refine E_iload_n 3 dL_law_1409 rfl rfl ?_
  refine E_iconst (1 : Int32) dL_law_1410 (by decide) ?_
  refine E_iadd dL_law_1411 ?_
  obtain ⟨g634, h⟩ := h
  refine E_iald2 ((x3 + (1 : Int32)).toNatClampNeg) dL_law_1412 hkx0 hbx0 g634 rfl ?_
  refine E_aload_n 0 dL_law_1413 rfl rfl ?_
  refine E_iload_n 3 dL_law_1414 rfl rfl ?_
  refine E_iconst (2 : Int32) dL_law_1415 (by decide) ?_
  refine E_iadd dL_law_1416 ?_
  obtain ⟨g635, h⟩ := h
  refine E_iald2 ((x3 + (2 : Int32)).toNatClampNeg) dL_law_1417 hkx0 hbx0 g635 rfl ?_
  refine E_aload_n 0 dL_law_1418 rfl rfl ?_
  refine E_iload_n 3 dL_law_1419 rfl rfl ?_
  refine E_iconst (3 : Int32) dL_law_1420 (by decide) ?_
  refine E_iadd dL_law_1421 ?_
  obtain ⟨g636, h⟩ := h
  refine E_iald2 ((x3 + (3 : Int32)).toNatClampNeg) dL_law_1422 hkx0 hbx0 g636 rfl ?_
  refine E_aload_n 0 dL_law_1423 rfl rfl ?_
  refine E_iload_n 3 dL_law_1424 rfl rfl ?_
  refine E_iconst (4 : Int32) dL_law_1425 (by decide) ?_
  refine E_iadd dL_law_1426 ?_
  obtain ⟨g637, h⟩ := h
  refine E_iald2 ((x3 + (4 : Int32)).toNatClampNeg) dL_law_1427 hkx0 hbx0 g637 rfl ?_
  obtain ⟨d638, v643, σ639, hD640, hC641, h⟩ := h
  have hs642 := hC641.1.2.2.2.1 hs
  have hk644 := (hC641.1.2.2.1 _ hbx0).trans hkx0
  have hb645 := Nat.lt_of_lt_of_le hbx0 hC641.1.1
  refine E_callV (As := [.int (gI σ x0 (x3 + (1 : Int32)).toNatClampNeg), .int (gI σ x0 (x3 + (2 : Int32)).toNatClampNeg), .int (gI σ x0 (x3 + (3 : Int32)).toNatClampNeg), .int (gI σ x0 (x3 + (4 : Int32)).toNatClampNeg)]) (rest := []) (r1 := (some (.int v643))) (b := 0) dL_law_1428 ok_X11_beside in_X11_beside se_X11_beside ml_L_130 hD640 rfl rfl (Nat.le_of_ble_eq_true rfl) (sk_0 hs) (sn hs (by decide)) (by decide) rfl (by decide +kernel) hC641 ?_
  refine E_aload_n 2 dL_law_1431 rfl rfl ?_
  refine E_aload_n 0 dL_law_1432 rfl rfl ?_
  refine E_iload_n 3 dL_law_1433 rfl rfl ?_
  refine E_iconst (1 : Int32) dL_law_1434 (by decide) ?_
  refine E_iadd dL_law_1435 ?_
  obtain ⟨g646, h⟩ := h
  refine E_iald2 ((x3 + (1 : Int32)).toNatClampNeg) dL_law_1436 hk644 hb645 g646 rfl ?_
  refine E_aload_n 0 dL_law_1437 rfl rfl ?_
  refine E_iload_n 3 dL_law_1438 rfl rfl ?_
  refine E_iconst (2 : Int32) dL_law_1439 (by decide) ?_
  refine E_iadd dL_law_1440 ?_
  obtain ⟨g647, h⟩ := h
  refine E_iald2 ((x3 + (2 : Int32)).toNatClampNeg) dL_law_1441 hk644 hb645 g647 rfl ?_
  refine E_aload_n 0 dL_law_1442 rfl rfl ?_
  refine E_iload_n 3 dL_law_1443 rfl rfl ?_
  refine E_iconst (3 : Int32) dL_law_1444 (by decide) ?_
  refine E_iadd dL_law_1445 ?_
  obtain ⟨g648, h⟩ := h
  refine E_iald2 ((x3 + (3 : Int32)).toNatClampNeg) dL_law_1446 hk644 hb645 g648 rfl ?_
  refine E_aload_n 0 dL_law_1447 rfl rfl ?_
  refine E_iload_n 3 dL_law_1448 rfl rfl ?_
  refine E_iconst (4 : Int32) dL_law_1449 (by decide) ?_
  refine E_iadd dL_law_1450 ?_
  obtain ⟨g649, h⟩ := h
  refine E_iald2 ((x3 + (4 : Int32)).toNatClampNeg) dL_law_1451 hk644 hb645 g649 rfl ?_
  obtain ⟨d650, v655, σ651, hD652, hC653, h⟩ := h
  have hs654 := hC653.1.2.2.2.1 hs642
  have hk656 := (hC653.1.2.2.1 _ hb645).trans hk644
  have hb657 := Nat.lt_of_lt_of_le hb645 hC653.1.1
  refine E_callV (As := [.int (gI σ639 x0 (x3 + (1 : Int32)).toNatClampNeg), .int (gI σ639 x0 (x3 + (2 : Int32)).toNatClampNeg), .int (gI σ639 x0 (x3 + (3 : Int32)).toNatClampNeg), .int (gI σ639 x0 (x3 + (4 : Int32)).toNatClampNeg)]) (rest := [.int v643]) (r1 := (some (.int v655))) (b := 124) dL_law_1452 ok_X12_beside in_X12_beside se_X12_beside ml_L_133 hD652 rfl rfl (Nat.le_of_ble_eq_true rfl) (sk_124 hs642) (sn hs642 (by decide)) (by decide) rfl (by decide +kernel) hC653 ?_
  refine E_icmp_eq 2038 dL_law_1455 (by decide) (fun c => ?_) (fun c => ?_)
  · rw [if_pos c] at h
    exact E_lv [0, 1, 2, 3] rfl (w_L_law_2038 hs654 h)
  · rw [if_neg c] at h
    refine E_iconst (0 : Int32) dL_law_1458 (by decide) ?_
    obtain ⟨rfl, rfl⟩ := h
    exact E_zret dL_law_1459 rfl (Or.inl rfl)
def W_L_law_1460 (X : Sx) (l : Launch) (D : Nat) (x0 : Nat) (x3 : Int32) (σ : AH) (r : Option Value) (σ' : AH) : Prop := ∃ nx0 : Nat, kd σ x0 = (100, nx0) ∧ x0 < nx σ ∧ vp_in (x3 + (1 : Int32)) nx0 ∧ ∃ d659 : Nat, ∃ v664 : Int32, ∃ σ660 : AH, d659 + 1 ≤ D ∧ Call X l m_X11_offer d659 [.ref 0, .int (gI σ x0 (x3 + (1 : Int32)).toNatClampNeg)] σ (some (.int v664)) σ660 ∧ vp_in (x3 + (1 : Int32)) nx0 ∧ ∃ d668 : Nat, ∃ v673 : Int32, ∃ σ669 : AH, d668 + 1 ≤ D ∧ Call X l m_X12_offer d668 [.ref 124, .int (gI σ660 x0 (x3 + (1 : Int32)).toNatClampNeg)] σ660 (some (.int v673)) σ669 ∧ (if v664 = v673 then W_L_law_2038 X l D x0 x3 σ669 r σ' else (r = some (.int (0 : Int32)) ∧ σ' = σ669))
set_option maxRecDepth 100000 in
theorem w_L_law_1460 {X : Sx} {l : Launch} {D : Nat} {x0 : Nat} {x3 : Int32} {σ : AH} {r : Option Value} {σ' : AH} (hs : Sh σ) (h : W_L_law_1460 X l D x0 x3 σ r σ') : E X l m_L_law D 1460 [(0, .ref x0), (1, .ref 0), (2, .ref 124), (3, .int x3)] [] σ r σ' := by
  unfold W_L_law_1460 at h
  obtain ⟨nx0, hkx0, hbx0, h⟩ := h
  refine E_aload_n 1 dL_law_1460 rfl rfl ?_
  refine E_aload_n 0 dL_law_1461 rfl rfl ?_
  refine E_iload_n 3 dL_law_1462 rfl rfl ?_
  refine E_iconst (1 : Int32) dL_law_1463 (by decide) ?_
  refine E_iadd dL_law_1464 ?_
  obtain ⟨g658, h⟩ := h
  refine E_iald2 ((x3 + (1 : Int32)).toNatClampNeg) dL_law_1465 hkx0 hbx0 g658 rfl ?_
  obtain ⟨d659, v664, σ660, hD661, hC662, h⟩ := h
  have hs663 := hC662.1.2.2.2.1 hs
  have hk665 := (hC662.1.2.2.1 _ hbx0).trans hkx0
  have hb666 := Nat.lt_of_lt_of_le hbx0 hC662.1.1
  refine E_callV (As := [.int (gI σ x0 (x3 + (1 : Int32)).toNatClampNeg)]) (rest := []) (r1 := (some (.int v664))) (b := 0) dL_law_1466 ok_X11_offer in_X11_offer se_X11_offer ml_L_134 hD661 rfl rfl (Nat.le_of_ble_eq_true rfl) (sk_0 hs) (sn hs (by decide)) (by decide) rfl (by decide +kernel) hC662 ?_
  refine E_aload_n 2 dL_law_1469 rfl rfl ?_
  refine E_aload_n 0 dL_law_1470 rfl rfl ?_
  refine E_iload_n 3 dL_law_1471 rfl rfl ?_
  refine E_iconst (1 : Int32) dL_law_1472 (by decide) ?_
  refine E_iadd dL_law_1473 ?_
  obtain ⟨g667, h⟩ := h
  refine E_iald2 ((x3 + (1 : Int32)).toNatClampNeg) dL_law_1474 hk665 hb666 g667 rfl ?_
  obtain ⟨d668, v673, σ669, hD670, hC671, h⟩ := h
  have hs672 := hC671.1.2.2.2.1 hs663
  have hk674 := (hC671.1.2.2.1 _ hb666).trans hk665
  have hb675 := Nat.lt_of_lt_of_le hb666 hC671.1.1
  refine E_callV (As := [.int (gI σ660 x0 (x3 + (1 : Int32)).toNatClampNeg)]) (rest := [.int v664]) (r1 := (some (.int v673))) (b := 124) dL_law_1475 ok_X12_offer in_X12_offer se_X12_offer ml_L_137 hD670 rfl rfl (Nat.le_of_ble_eq_true rfl) (sk_124 hs663) (sn hs663 (by decide)) (by decide) rfl (by decide +kernel) hC671 ?_
  refine E_icmp_eq 2038 dL_law_1478 (by decide) (fun c => ?_) (fun c => ?_)
  · rw [if_pos c] at h
    exact E_lv [0, 1, 2, 3] rfl (w_L_law_2038 hs672 h)
  · rw [if_neg c] at h
    refine E_iconst (0 : Int32) dL_law_1481 (by decide) ?_
    obtain ⟨rfl, rfl⟩ := h
    exact E_zret dL_law_1482 rfl (Or.inl rfl)
def W_L_law_1483 (X : Sx) (l : Launch) (D : Nat) (x0 : Nat) (x3 : Int32) (σ : AH) (r : Option Value) (σ' : AH) : Prop := ∃ nx0 : Nat, kd σ x0 = (100, nx0) ∧ x0 < nx σ ∧ vp_in (x3 + (1 : Int32)) nx0 ∧ vp_in (x3 + (2 : Int32)) nx0 ∧ vp_in (x3 + (3 : Int32)) nx0 ∧ ∃ d679 : Nat, ∃ v684 : Int32, ∃ σ680 : AH, d679 + 1 ≤ D ∧ Call X l m_X11_lives d679 [.ref 0, .int (gI σ x0 (x3 + (1 : Int32)).toNatClampNeg), .int (gI σ x0 (x3 + (2 : Int32)).toNatClampNeg), .int (gI σ x0 (x3 + (3 : Int32)).toNatClampNeg)] σ (some (.int v684)) σ680 ∧ vp_in (x3 + (1 : Int32)) nx0 ∧ vp_in (x3 + (2 : Int32)) nx0 ∧ vp_in (x3 + (3 : Int32)) nx0 ∧ ∃ d690 : Nat, ∃ v695 : Int32, ∃ σ691 : AH, d690 + 1 ≤ D ∧ Call X l m_X12_lives d690 [.ref 124, .int (gI σ680 x0 (x3 + (1 : Int32)).toNatClampNeg), .int (gI σ680 x0 (x3 + (2 : Int32)).toNatClampNeg), .int (gI σ680 x0 (x3 + (3 : Int32)).toNatClampNeg)] σ680 (some (.int v695)) σ691 ∧ (if v684 = v695 then W_L_law_2038 X l D x0 x3 σ691 r σ' else (r = some (.int (0 : Int32)) ∧ σ' = σ691))
set_option maxRecDepth 100000 in
theorem w_L_law_1483 {X : Sx} {l : Launch} {D : Nat} {x0 : Nat} {x3 : Int32} {σ : AH} {r : Option Value} {σ' : AH} (hs : Sh σ) (h : W_L_law_1483 X l D x0 x3 σ r σ') : E X l m_L_law D 1483 [(0, .ref x0), (1, .ref 0), (2, .ref 124), (3, .int x3)] [] σ r σ' := by
  unfold W_L_law_1483 at h
  obtain ⟨nx0, hkx0, hbx0, h⟩ := h
  refine E_aload_n 1 dL_law_1483 rfl rfl ?_
  refine E_aload_n 0 dL_law_1484 rfl rfl ?_
  refine E_iload_n 3 dL_law_1485 rfl rfl ?_
  refine E_iconst (1 : Int32) dL_law_1486 (by decide) ?_
  refine E_iadd dL_law_1487 ?_
  obtain ⟨g676, h⟩ := h
  refine E_iald2 ((x3 + (1 : Int32)).toNatClampNeg) dL_law_1488 hkx0 hbx0 g676 rfl ?_
  refine E_aload_n 0 dL_law_1489 rfl rfl ?_
  refine E_iload_n 3 dL_law_1490 rfl rfl ?_
  refine E_iconst (2 : Int32) dL_law_1491 (by decide) ?_
  refine E_iadd dL_law_1492 ?_
  obtain ⟨g677, h⟩ := h
  refine E_iald2 ((x3 + (2 : Int32)).toNatClampNeg) dL_law_1493 hkx0 hbx0 g677 rfl ?_
  refine E_aload_n 0 dL_law_1494 rfl rfl ?_
  refine E_iload_n 3 dL_law_1495 rfl rfl ?_
  refine E_iconst (3 : Int32) dL_law_1496 (by decide) ?_
  refine E_iadd dL_law_1497 ?_
  obtain ⟨g678, h⟩ := h
  refine E_iald2 ((x3 + (3 : Int32)).toNatClampNeg) dL_law_1498 hkx0 hbx0 g678 rfl ?_
  obtain ⟨d679, v684, σ680, hD681, hC682, h⟩ := h
  have hs683 := hC682.1.2.2.2.1 hs
  have hk685 := (hC682.1.2.2.1 _ hbx0).trans hkx0
  have hb686 := Nat.lt_of_lt_of_le hbx0 hC682.1.1
  refine E_callV (As := [.int (gI σ x0 (x3 + (1 : Int32)).toNatClampNeg), .int (gI σ x0 (x3 + (2 : Int32)).toNatClampNeg), .int (gI σ x0 (x3 + (3 : Int32)).toNatClampNeg)]) (rest := []) (r1 := (some (.int v684))) (b := 0) dL_law_1499 ok_X11_lives in_X11_lives se_X11_lives ml_L_138 hD681 rfl rfl (Nat.le_of_ble_eq_true rfl) (sk_0 hs) (sn hs (by decide)) (by decide) rfl (by decide +kernel) hC682 ?_
  refine E_aload_n 2 dL_law_1502 rfl rfl ?_
  refine E_aload_n 0 dL_law_1503 rfl rfl ?_
  refine E_iload_n 3 dL_law_1504 rfl rfl ?_
  refine E_iconst (1 : Int32) dL_law_1505 (by decide) ?_
  refine E_iadd dL_law_1506 ?_
  obtain ⟨g687, h⟩ := h
  refine E_iald2 ((x3 + (1 : Int32)).toNatClampNeg) dL_law_1507 hk685 hb686 g687 rfl ?_
  refine E_aload_n 0 dL_law_1508 rfl rfl ?_
  refine E_iload_n 3 dL_law_1509 rfl rfl ?_
  refine E_iconst (2 : Int32) dL_law_1510 (by decide) ?_
  refine E_iadd dL_law_1511 ?_
  obtain ⟨g688, h⟩ := h
  refine E_iald2 ((x3 + (2 : Int32)).toNatClampNeg) dL_law_1512 hk685 hb686 g688 rfl ?_
  refine E_aload_n 0 dL_law_1513 rfl rfl ?_
  refine E_iload_n 3 dL_law_1514 rfl rfl ?_
  refine E_iconst (3 : Int32) dL_law_1515 (by decide) ?_
  refine E_iadd dL_law_1516 ?_
  obtain ⟨g689, h⟩ := h
  refine E_iald2 ((x3 + (3 : Int32)).toNatClampNeg) dL_law_1517 hk685 hb686 g689 rfl ?_
  obtain ⟨d690, v695, σ691, hD692, hC693, h⟩ := h
  have hs694 := hC693.1.2.2.2.1 hs683
  have hk696 := (hC693.1.2.2.1 _ hb686).trans hk685
  have hb697 := Nat.lt_of_lt_of_le hb686 hC693.1.1
  refine E_callV (As := [.int (gI σ680 x0 (x3 + (1 : Int32)).toNatClampNeg), .int (gI σ680 x0 (x3 + (2 : Int32)).toNatClampNeg), .int (gI σ680 x0 (x3 + (3 : Int32)).toNatClampNeg)]) (rest := [.int v684]) (r1 := (some (.int v695))) (b := 124) dL_law_1518 ok_X12_lives in_X12_lives se_X12_lives ml_L_141 hD692 rfl rfl (Nat.le_of_ble_eq_true rfl) (sk_124 hs683) (sn hs683 (by decide)) (by decide) rfl (by decide +kernel) hC693 ?_
  refine E_icmp_eq 2038 dL_law_1521 (by decide) (fun c => ?_) (fun c => ?_)
  · rw [if_pos c] at h
    exact E_lv [0, 1, 2, 3] rfl (w_L_law_2038 hs694 h)
  · rw [if_neg c] at h
    refine E_iconst (0 : Int32) dL_law_1524 (by decide) ?_
    obtain ⟨rfl, rfl⟩ := h
    exact E_zret dL_law_1525 rfl (Or.inl rfl)
def W_L_law_1526 (X : Sx) (l : Launch) (D : Nat) (x0 : Nat) (x3 : Int32) (σ : AH) (r : Option Value) (σ' : AH) : Prop := ∃ nx0 : Nat, kd σ x0 = (100, nx0) ∧ x0 < nx σ ∧ vp_in (x3 + (1 : Int32)) nx0 ∧ vp_in (x3 + (2 : Int32)) nx0 ∧ ∃ d700 : Nat, ∃ v705 : Int32, ∃ σ701 : AH, d700 + 1 ≤ D ∧ Call X l m_X11_roof d700 [.ref 0, .int (gI σ x0 (x3 + (1 : Int32)).toNatClampNeg), .int (gI σ x0 (x3 + (2 : Int32)).toNatClampNeg)] σ (some (.int v705)) σ701 ∧ vp_in (x3 + (1 : Int32)) nx0 ∧ vp_in (x3 + (2 : Int32)) nx0 ∧ ∃ d710 : Nat, ∃ v715 : Int32, ∃ σ711 : AH, d710 + 1 ≤ D ∧ Call X l m_X12_roof d710 [.ref 124, .int (gI σ701 x0 (x3 + (1 : Int32)).toNatClampNeg), .int (gI σ701 x0 (x3 + (2 : Int32)).toNatClampNeg)] σ701 (some (.int v715)) σ711 ∧ (if v705 = v715 then W_L_law_2038 X l D x0 x3 σ711 r σ' else (r = some (.int (0 : Int32)) ∧ σ' = σ711))
set_option maxRecDepth 100000 in
theorem w_L_law_1526 {X : Sx} {l : Launch} {D : Nat} {x0 : Nat} {x3 : Int32} {σ : AH} {r : Option Value} {σ' : AH} (hs : Sh σ) (h : W_L_law_1526 X l D x0 x3 σ r σ') : E X l m_L_law D 1526 [(0, .ref x0), (1, .ref 0), (2, .ref 124), (3, .int x3)] [] σ r σ' := by
  unfold W_L_law_1526 at h
  obtain ⟨nx0, hkx0, hbx0, h⟩ := h
  refine E_aload_n 1 dL_law_1526 rfl rfl ?_
  refine E_aload_n 0 dL_law_1527 rfl rfl ?_
  refine E_iload_n 3 dL_law_1528 rfl rfl ?_
  refine E_iconst (1 : Int32) dL_law_1529 (by decide) ?_
  refine E_iadd dL_law_1530 ?_
  obtain ⟨g698, h⟩ := h
  refine E_iald2 ((x3 + (1 : Int32)).toNatClampNeg) dL_law_1531 hkx0 hbx0 g698 rfl ?_
  refine E_aload_n 0 dL_law_1532 rfl rfl ?_
  refine E_iload_n 3 dL_law_1533 rfl rfl ?_
  refine E_iconst (2 : Int32) dL_law_1534 (by decide) ?_
  refine E_iadd dL_law_1535 ?_
  obtain ⟨g699, h⟩ := h
  refine E_iald2 ((x3 + (2 : Int32)).toNatClampNeg) dL_law_1536 hkx0 hbx0 g699 rfl ?_
  obtain ⟨d700, v705, σ701, hD702, hC703, h⟩ := h
  have hs704 := hC703.1.2.2.2.1 hs
  have hk706 := (hC703.1.2.2.1 _ hbx0).trans hkx0
  have hb707 := Nat.lt_of_lt_of_le hbx0 hC703.1.1
  refine E_callV (As := [.int (gI σ x0 (x3 + (1 : Int32)).toNatClampNeg), .int (gI σ x0 (x3 + (2 : Int32)).toNatClampNeg)]) (rest := []) (r1 := (some (.int v705))) (b := 0) dL_law_1537 ok_X11_roof in_X11_roof se_X11_roof ml_L_142 hD702 rfl rfl (Nat.le_of_ble_eq_true rfl) (sk_0 hs) (sn hs (by decide)) (by decide) rfl (by decide +kernel) hC703 ?_
  refine E_aload_n 2 dL_law_1540 rfl rfl ?_
  refine E_aload_n 0 dL_law_1541 rfl rfl ?_
  refine E_iload_n 3 dL_law_1542 rfl rfl ?_
  refine E_iconst (1 : Int32) dL_law_1543 (by decide) ?_
  refine E_iadd dL_law_1544 ?_
  obtain ⟨g708, h⟩ := h
  refine E_iald2 ((x3 + (1 : Int32)).toNatClampNeg) dL_law_1545 hk706 hb707 g708 rfl ?_
  refine E_aload_n 0 dL_law_1546 rfl rfl ?_
  refine E_iload_n 3 dL_law_1547 rfl rfl ?_
  refine E_iconst (2 : Int32) dL_law_1548 (by decide) ?_
  refine E_iadd dL_law_1549 ?_
  obtain ⟨g709, h⟩ := h
  refine E_iald2 ((x3 + (2 : Int32)).toNatClampNeg) dL_law_1550 hk706 hb707 g709 rfl ?_
  obtain ⟨d710, v715, σ711, hD712, hC713, h⟩ := h
  have hs714 := hC713.1.2.2.2.1 hs704
  have hk716 := (hC713.1.2.2.1 _ hb707).trans hk706
  have hb717 := Nat.lt_of_lt_of_le hb707 hC713.1.1
  refine E_callV (As := [.int (gI σ701 x0 (x3 + (1 : Int32)).toNatClampNeg), .int (gI σ701 x0 (x3 + (2 : Int32)).toNatClampNeg)]) (rest := [.int v705]) (r1 := (some (.int v715))) (b := 124) dL_law_1551 ok_X12_roof in_X12_roof se_X12_roof ml_L_145 hD712 rfl rfl (Nat.le_of_ble_eq_true rfl) (sk_124 hs704) (sn hs704 (by decide)) (by decide) rfl (by decide +kernel) hC713 ?_
  refine E_icmp_eq 2038 dL_law_1554 (by decide) (fun c => ?_) (fun c => ?_)
  · rw [if_pos c] at h
    exact E_lv [0, 1, 2, 3] rfl (w_L_law_2038 hs714 h)
  · rw [if_neg c] at h
    refine E_iconst (0 : Int32) dL_law_1557 (by decide) ?_
    obtain ⟨rfl, rfl⟩ := h
    exact E_zret dL_law_1558 rfl (Or.inl rfl)
def W_L_law_1559 (X : Sx) (l : Launch) (D : Nat) (x0 : Nat) (x3 : Int32) (σ : AH) (r : Option Value) (σ' : AH) : Prop := ∃ nx0 : Nat, kd σ x0 = (100, nx0) ∧ x0 < nx σ ∧ vp_in (x3 + (1 : Int32)) nx0 ∧ vp_in (x3 + (2 : Int32)) nx0 ∧ vp_in (x3 + (3 : Int32)) nx0 ∧ ∃ d721 : Nat, ∃ v726 : Int32, ∃ σ722 : AH, d721 + 1 ≤ D ∧ Call X l m_X11_squat d721 [.ref 0, .int (gI σ x0 (x3 + (1 : Int32)).toNatClampNeg), .int (gI σ x0 (x3 + (2 : Int32)).toNatClampNeg), .int (gI σ x0 (x3 + (3 : Int32)).toNatClampNeg)] σ (some (.int v726)) σ722 ∧ vp_in (x3 + (1 : Int32)) nx0 ∧ vp_in (x3 + (2 : Int32)) nx0 ∧ vp_in (x3 + (3 : Int32)) nx0 ∧ ∃ d732 : Nat, ∃ v737 : Int32, ∃ σ733 : AH, d732 + 1 ≤ D ∧ Call X l m_X12_squat d732 [.ref 124, .int (gI σ722 x0 (x3 + (1 : Int32)).toNatClampNeg), .int (gI σ722 x0 (x3 + (2 : Int32)).toNatClampNeg), .int (gI σ722 x0 (x3 + (3 : Int32)).toNatClampNeg)] σ722 (some (.int v737)) σ733 ∧ (if v726 = v737 then W_L_law_2038 X l D x0 x3 σ733 r σ' else (r = some (.int (0 : Int32)) ∧ σ' = σ733))
set_option maxRecDepth 100000 in
theorem w_L_law_1559 {X : Sx} {l : Launch} {D : Nat} {x0 : Nat} {x3 : Int32} {σ : AH} {r : Option Value} {σ' : AH} (hs : Sh σ) (h : W_L_law_1559 X l D x0 x3 σ r σ') : E X l m_L_law D 1559 [(0, .ref x0), (1, .ref 0), (2, .ref 124), (3, .int x3)] [] σ r σ' := by
  unfold W_L_law_1559 at h
  obtain ⟨nx0, hkx0, hbx0, h⟩ := h
  refine E_aload_n 1 dL_law_1559 rfl rfl ?_
  refine E_aload_n 0 dL_law_1560 rfl rfl ?_
  refine E_iload_n 3 dL_law_1561 rfl rfl ?_
  refine E_iconst (1 : Int32) dL_law_1562 (by decide) ?_
  refine E_iadd dL_law_1563 ?_
  obtain ⟨g718, h⟩ := h
  refine E_iald2 ((x3 + (1 : Int32)).toNatClampNeg) dL_law_1564 hkx0 hbx0 g718 rfl ?_
  refine E_aload_n 0 dL_law_1565 rfl rfl ?_
  refine E_iload_n 3 dL_law_1566 rfl rfl ?_
  refine E_iconst (2 : Int32) dL_law_1567 (by decide) ?_
  refine E_iadd dL_law_1568 ?_
  obtain ⟨g719, h⟩ := h
  refine E_iald2 ((x3 + (2 : Int32)).toNatClampNeg) dL_law_1569 hkx0 hbx0 g719 rfl ?_
  refine E_aload_n 0 dL_law_1570 rfl rfl ?_
  refine E_iload_n 3 dL_law_1571 rfl rfl ?_
  refine E_iconst (3 : Int32) dL_law_1572 (by decide) ?_
  refine E_iadd dL_law_1573 ?_
  obtain ⟨g720, h⟩ := h
  refine E_iald2 ((x3 + (3 : Int32)).toNatClampNeg) dL_law_1574 hkx0 hbx0 g720 rfl ?_
  obtain ⟨d721, v726, σ722, hD723, hC724, h⟩ := h
  have hs725 := hC724.1.2.2.2.1 hs
  have hk727 := (hC724.1.2.2.1 _ hbx0).trans hkx0
  have hb728 := Nat.lt_of_lt_of_le hbx0 hC724.1.1
  refine E_callV (As := [.int (gI σ x0 (x3 + (1 : Int32)).toNatClampNeg), .int (gI σ x0 (x3 + (2 : Int32)).toNatClampNeg), .int (gI σ x0 (x3 + (3 : Int32)).toNatClampNeg)]) (rest := []) (r1 := (some (.int v726))) (b := 0) dL_law_1575 ok_X11_squat in_X11_squat se_X11_squat ml_L_146 hD723 rfl rfl (Nat.le_of_ble_eq_true rfl) (sk_0 hs) (sn hs (by decide)) (by decide) rfl (by decide +kernel) hC724 ?_
  refine E_aload_n 2 dL_law_1578 rfl rfl ?_
  refine E_aload_n 0 dL_law_1579 rfl rfl ?_
  refine E_iload_n 3 dL_law_1580 rfl rfl ?_
  refine E_iconst (1 : Int32) dL_law_1581 (by decide) ?_
  refine E_iadd dL_law_1582 ?_
  obtain ⟨g729, h⟩ := h
  refine E_iald2 ((x3 + (1 : Int32)).toNatClampNeg) dL_law_1583 hk727 hb728 g729 rfl ?_
  refine E_aload_n 0 dL_law_1584 rfl rfl ?_
  refine E_iload_n 3 dL_law_1585 rfl rfl ?_
  refine E_iconst (2 : Int32) dL_law_1586 (by decide) ?_
  refine E_iadd dL_law_1587 ?_
  obtain ⟨g730, h⟩ := h
  refine E_iald2 ((x3 + (2 : Int32)).toNatClampNeg) dL_law_1588 hk727 hb728 g730 rfl ?_
  refine E_aload_n 0 dL_law_1589 rfl rfl ?_
  refine E_iload_n 3 dL_law_1590 rfl rfl ?_
  refine E_iconst (3 : Int32) dL_law_1591 (by decide) ?_
  refine E_iadd dL_law_1592 ?_
  obtain ⟨g731, h⟩ := h
  refine E_iald2 ((x3 + (3 : Int32)).toNatClampNeg) dL_law_1593 hk727 hb728 g731 rfl ?_
  obtain ⟨d732, v737, σ733, hD734, hC735, h⟩ := h
  have hs736 := hC735.1.2.2.2.1 hs725
  have hk738 := (hC735.1.2.2.1 _ hb728).trans hk727
  have hb739 := Nat.lt_of_lt_of_le hb728 hC735.1.1
  refine E_callV (As := [.int (gI σ722 x0 (x3 + (1 : Int32)).toNatClampNeg), .int (gI σ722 x0 (x3 + (2 : Int32)).toNatClampNeg), .int (gI σ722 x0 (x3 + (3 : Int32)).toNatClampNeg)]) (rest := [.int v726]) (r1 := (some (.int v737))) (b := 124) dL_law_1594 ok_X12_squat in_X12_squat se_X12_squat ml_L_149 hD734 rfl rfl (Nat.le_of_ble_eq_true rfl) (sk_124 hs725) (sn hs725 (by decide)) (by decide) rfl (by decide +kernel) hC735 ?_
  refine E_icmp_eq 2038 dL_law_1597 (by decide) (fun c => ?_) (fun c => ?_)
  · rw [if_pos c] at h
    exact E_lv [0, 1, 2, 3] rfl (w_L_law_2038 hs736 h)
  · rw [if_neg c] at h
    refine E_iconst (0 : Int32) dL_law_1600 (by decide) ?_
    obtain ⟨rfl, rfl⟩ := h
    exact E_zret dL_law_1601 rfl (Or.inl rfl)
def W_L_law_1602 (X : Sx) (l : Launch) (D : Nat) (x0 : Nat) (x3 : Int32) (σ : AH) (r : Option Value) (σ' : AH) : Prop := ∃ nx0 : Nat, kd σ x0 = (100, nx0) ∧ x0 < nx σ ∧ vp_in (x3 + (1 : Int32)) nx0 ∧ vp_in (x3 + (2 : Int32)) nx0 ∧ ∃ d742 : Nat, ∃ v747 : Int32, ∃ σ743 : AH, d742 + 1 ≤ D ∧ Call X l m_X11_out d742 [.ref 0, .int (gI σ x0 (x3 + (1 : Int32)).toNatClampNeg), .int (gI σ x0 (x3 + (2 : Int32)).toNatClampNeg)] σ (some (.int v747)) σ743 ∧ vp_in (x3 + (1 : Int32)) nx0 ∧ vp_in (x3 + (2 : Int32)) nx0 ∧ ∃ d752 : Nat, ∃ v757 : Int32, ∃ σ753 : AH, d752 + 1 ≤ D ∧ Call X l m_X12_out d752 [.ref 124, .int (gI σ743 x0 (x3 + (1 : Int32)).toNatClampNeg), .int (gI σ743 x0 (x3 + (2 : Int32)).toNatClampNeg)] σ743 (some (.int v757)) σ753 ∧ (if v747 = v757 then W_L_law_2038 X l D x0 x3 σ753 r σ' else (r = some (.int (0 : Int32)) ∧ σ' = σ753))
set_option maxRecDepth 100000 in
theorem w_L_law_1602 {X : Sx} {l : Launch} {D : Nat} {x0 : Nat} {x3 : Int32} {σ : AH} {r : Option Value} {σ' : AH} (hs : Sh σ) (h : W_L_law_1602 X l D x0 x3 σ r σ') : E X l m_L_law D 1602 [(0, .ref x0), (1, .ref 0), (2, .ref 124), (3, .int x3)] [] σ r σ' := by
  unfold W_L_law_1602 at h
  obtain ⟨nx0, hkx0, hbx0, h⟩ := h
  refine E_aload_n 1 dL_law_1602 rfl rfl ?_
  refine E_aload_n 0 dL_law_1603 rfl rfl ?_
  refine E_iload_n 3 dL_law_1604 rfl rfl ?_
  refine E_iconst (1 : Int32) dL_law_1605 (by decide) ?_
  refine E_iadd dL_law_1606 ?_
  obtain ⟨g740, h⟩ := h
  refine E_iald2 ((x3 + (1 : Int32)).toNatClampNeg) dL_law_1607 hkx0 hbx0 g740 rfl ?_
  refine E_aload_n 0 dL_law_1608 rfl rfl ?_
  refine E_iload_n 3 dL_law_1609 rfl rfl ?_
  refine E_iconst (2 : Int32) dL_law_1610 (by decide) ?_
  refine E_iadd dL_law_1611 ?_
  obtain ⟨g741, h⟩ := h
  refine E_iald2 ((x3 + (2 : Int32)).toNatClampNeg) dL_law_1612 hkx0 hbx0 g741 rfl ?_
  obtain ⟨d742, v747, σ743, hD744, hC745, h⟩ := h
  have hs746 := hC745.1.2.2.2.1 hs
  have hk748 := (hC745.1.2.2.1 _ hbx0).trans hkx0
  have hb749 := Nat.lt_of_lt_of_le hbx0 hC745.1.1
  refine E_callV (As := [.int (gI σ x0 (x3 + (1 : Int32)).toNatClampNeg), .int (gI σ x0 (x3 + (2 : Int32)).toNatClampNeg)]) (rest := []) (r1 := (some (.int v747))) (b := 0) dL_law_1613 ok_X11_out in_X11_out se_X11_out ml_L_150 hD744 rfl rfl (Nat.le_of_ble_eq_true rfl) (sk_0 hs) (sn hs (by decide)) (by decide) rfl (by decide +kernel) hC745 ?_
  refine E_aload_n 2 dL_law_1616 rfl rfl ?_
  refine E_aload_n 0 dL_law_1617 rfl rfl ?_
  refine E_iload_n 3 dL_law_1618 rfl rfl ?_
  refine E_iconst (1 : Int32) dL_law_1619 (by decide) ?_
  refine E_iadd dL_law_1620 ?_
  obtain ⟨g750, h⟩ := h
  refine E_iald2 ((x3 + (1 : Int32)).toNatClampNeg) dL_law_1621 hk748 hb749 g750 rfl ?_
  refine E_aload_n 0 dL_law_1622 rfl rfl ?_
  refine E_iload_n 3 dL_law_1623 rfl rfl ?_
  refine E_iconst (2 : Int32) dL_law_1624 (by decide) ?_
  refine E_iadd dL_law_1625 ?_
  obtain ⟨g751, h⟩ := h
  refine E_iald2 ((x3 + (2 : Int32)).toNatClampNeg) dL_law_1626 hk748 hb749 g751 rfl ?_
  obtain ⟨d752, v757, σ753, hD754, hC755, h⟩ := h
  have hs756 := hC755.1.2.2.2.1 hs746
  have hk758 := (hC755.1.2.2.1 _ hb749).trans hk748
  have hb759 := Nat.lt_of_lt_of_le hb749 hC755.1.1
  refine E_callV (As := [.int (gI σ743 x0 (x3 + (1 : Int32)).toNatClampNeg), .int (gI σ743 x0 (x3 + (2 : Int32)).toNatClampNeg)]) (rest := [.int v747]) (r1 := (some (.int v757))) (b := 124) dL_law_1627 ok_X12_out in_X12_out se_X12_out ml_L_153 hD754 rfl rfl (Nat.le_of_ble_eq_true rfl) (sk_124 hs746) (sn hs746 (by decide)) (by decide) rfl (by decide +kernel) hC755 ?_
  refine E_icmp_eq 2038 dL_law_1630 (by decide) (fun c => ?_) (fun c => ?_)
  · rw [if_pos c] at h
    exact E_lv [0, 1, 2, 3] rfl (w_L_law_2038 hs756 h)
  · rw [if_neg c] at h
    refine E_iconst (0 : Int32) dL_law_1633 (by decide) ?_
    obtain ⟨rfl, rfl⟩ := h
    exact E_zret dL_law_1634 rfl (Or.inl rfl)
def W_L_law_1635 (X : Sx) (l : Launch) (D : Nat) (x0 : Nat) (x3 : Int32) (σ : AH) (r : Option Value) (σ' : AH) : Prop := ∃ nx0 : Nat, kd σ x0 = (100, nx0) ∧ x0 < nx σ ∧ vp_in (x3 + (1 : Int32)) nx0 ∧ vp_in (x3 + (2 : Int32)) nx0 ∧ vp_in (x3 + (3 : Int32)) nx0 ∧ ∃ d763 : Nat, ∃ v768 : Int32, ∃ σ764 : AH, d763 + 1 ≤ D ∧ Call X l m_X11_rent d763 [.ref 0, .int (gI σ x0 (x3 + (1 : Int32)).toNatClampNeg), .int (gI σ x0 (x3 + (2 : Int32)).toNatClampNeg), .int (gI σ x0 (x3 + (3 : Int32)).toNatClampNeg)] σ (some (.int v768)) σ764 ∧ vp_in (x3 + (1 : Int32)) nx0 ∧ vp_in (x3 + (2 : Int32)) nx0 ∧ vp_in (x3 + (3 : Int32)) nx0 ∧ ∃ d774 : Nat, ∃ v779 : Int32, ∃ σ775 : AH, d774 + 1 ≤ D ∧ Call X l m_X12_rent d774 [.ref 124, .int (gI σ764 x0 (x3 + (1 : Int32)).toNatClampNeg), .int (gI σ764 x0 (x3 + (2 : Int32)).toNatClampNeg), .int (gI σ764 x0 (x3 + (3 : Int32)).toNatClampNeg)] σ764 (some (.int v779)) σ775 ∧ (if v768 = v779 then W_L_law_2038 X l D x0 x3 σ775 r σ' else (r = some (.int (0 : Int32)) ∧ σ' = σ775))
set_option maxRecDepth 100000 in
theorem w_L_law_1635 {X : Sx} {l : Launch} {D : Nat} {x0 : Nat} {x3 : Int32} {σ : AH} {r : Option Value} {σ' : AH} (hs : Sh σ) (h : W_L_law_1635 X l D x0 x3 σ r σ') : E X l m_L_law D 1635 [(0, .ref x0), (1, .ref 0), (2, .ref 124), (3, .int x3)] [] σ r σ' := by
  unfold W_L_law_1635 at h
  obtain ⟨nx0, hkx0, hbx0, h⟩ := h
  refine E_aload_n 1 dL_law_1635 rfl rfl ?_
  refine E_aload_n 0 dL_law_1636 rfl rfl ?_
  refine E_iload_n 3 dL_law_1637 rfl rfl ?_
  refine E_iconst (1 : Int32) dL_law_1638 (by decide) ?_
  refine E_iadd dL_law_1639 ?_
  obtain ⟨g760, h⟩ := h
  refine E_iald2 ((x3 + (1 : Int32)).toNatClampNeg) dL_law_1640 hkx0 hbx0 g760 rfl ?_
  refine E_aload_n 0 dL_law_1641 rfl rfl ?_
  refine E_iload_n 3 dL_law_1642 rfl rfl ?_
  refine E_iconst (2 : Int32) dL_law_1643 (by decide) ?_
  refine E_iadd dL_law_1644 ?_
  obtain ⟨g761, h⟩ := h
  refine E_iald2 ((x3 + (2 : Int32)).toNatClampNeg) dL_law_1645 hkx0 hbx0 g761 rfl ?_
  refine E_aload_n 0 dL_law_1646 rfl rfl ?_
  refine E_iload_n 3 dL_law_1647 rfl rfl ?_
  refine E_iconst (3 : Int32) dL_law_1648 (by decide) ?_
  refine E_iadd dL_law_1649 ?_
  obtain ⟨g762, h⟩ := h
  refine E_iald2 ((x3 + (3 : Int32)).toNatClampNeg) dL_law_1650 hkx0 hbx0 g762 rfl ?_
  obtain ⟨d763, v768, σ764, hD765, hC766, h⟩ := h
  have hs767 := hC766.1.2.2.2.1 hs
  have hk769 := (hC766.1.2.2.1 _ hbx0).trans hkx0
  have hb770 := Nat.lt_of_lt_of_le hbx0 hC766.1.1
  refine E_callV (As := [.int (gI σ x0 (x3 + (1 : Int32)).toNatClampNeg), .int (gI σ x0 (x3 + (2 : Int32)).toNatClampNeg), .int (gI σ x0 (x3 + (3 : Int32)).toNatClampNeg)]) (rest := []) (r1 := (some (.int v768))) (b := 0) dL_law_1651 ok_X11_rent in_X11_rent se_X11_rent ml_L_154 hD765 rfl rfl (Nat.le_of_ble_eq_true rfl) (sk_0 hs) (sn hs (by decide)) (by decide) rfl (by decide +kernel) hC766 ?_
  refine E_aload_n 2 dL_law_1654 rfl rfl ?_
  refine E_aload_n 0 dL_law_1655 rfl rfl ?_
  refine E_iload_n 3 dL_law_1656 rfl rfl ?_
  refine E_iconst (1 : Int32) dL_law_1657 (by decide) ?_
  refine E_iadd dL_law_1658 ?_
  obtain ⟨g771, h⟩ := h
  refine E_iald2 ((x3 + (1 : Int32)).toNatClampNeg) dL_law_1659 hk769 hb770 g771 rfl ?_
  refine E_aload_n 0 dL_law_1660 rfl rfl ?_
  refine E_iload_n 3 dL_law_1661 rfl rfl ?_
  refine E_iconst (2 : Int32) dL_law_1662 (by decide) ?_
  refine E_iadd dL_law_1663 ?_
  obtain ⟨g772, h⟩ := h
  refine E_iald2 ((x3 + (2 : Int32)).toNatClampNeg) dL_law_1664 hk769 hb770 g772 rfl ?_
  refine E_aload_n 0 dL_law_1665 rfl rfl ?_
  refine E_iload_n 3 dL_law_1666 rfl rfl ?_
  refine E_iconst (3 : Int32) dL_law_1667 (by decide) ?_
  refine E_iadd dL_law_1668 ?_
  obtain ⟨g773, h⟩ := h
  refine E_iald2 ((x3 + (3 : Int32)).toNatClampNeg) dL_law_1669 hk769 hb770 g773 rfl ?_
  obtain ⟨d774, v779, σ775, hD776, hC777, h⟩ := h
  have hs778 := hC777.1.2.2.2.1 hs767
  have hk780 := (hC777.1.2.2.1 _ hb770).trans hk769
  have hb781 := Nat.lt_of_lt_of_le hb770 hC777.1.1
  refine E_callV (As := [.int (gI σ764 x0 (x3 + (1 : Int32)).toNatClampNeg), .int (gI σ764 x0 (x3 + (2 : Int32)).toNatClampNeg), .int (gI σ764 x0 (x3 + (3 : Int32)).toNatClampNeg)]) (rest := [.int v768]) (r1 := (some (.int v779))) (b := 124) dL_law_1670 ok_X12_rent in_X12_rent se_X12_rent ml_L_157 hD776 rfl rfl (Nat.le_of_ble_eq_true rfl) (sk_124 hs767) (sn hs767 (by decide)) (by decide) rfl (by decide +kernel) hC777 ?_
  refine E_icmp_eq 2038 dL_law_1673 (by decide) (fun c => ?_) (fun c => ?_)
  · rw [if_pos c] at h
    exact E_lv [0, 1, 2, 3] rfl (w_L_law_2038 hs778 h)
  · rw [if_neg c] at h
    refine E_iconst (0 : Int32) dL_law_1676 (by decide) ?_
    obtain ⟨rfl, rfl⟩ := h
    exact E_zret dL_law_1677 rfl (Or.inl rfl)
def W_L_law_1678 (X : Sx) (l : Launch) (D : Nat) (x0 : Nat) (x3 : Int32) (σ : AH) (r : Option Value) (σ' : AH) : Prop := ∃ nx0 : Nat, kd σ x0 = (100, nx0) ∧ x0 < nx σ ∧ vp_in (x3 + (1 : Int32)) nx0 ∧ vp_in (x3 + (2 : Int32)) nx0 ∧ vp_in (x3 + (3 : Int32)) nx0 ∧ vp_in (x3 + (4 : Int32)) nx0 ∧ ∃ d786 : Nat, ∃ v791 : Int32, ∃ σ787 : AH, d786 + 1 ≤ D ∧ Call X l m_X11_lodge d786 [.ref 0, .int (gI σ x0 (x3 + (1 : Int32)).toNatClampNeg), .int (gI σ x0 (x3 + (2 : Int32)).toNatClampNeg), .int (gI σ x0 (x3 + (3 : Int32)).toNatClampNeg), .int (gI σ x0 (x3 + (4 : Int32)).toNatClampNeg)] σ (some (.int v791)) σ787 ∧ vp_in (x3 + (1 : Int32)) nx0 ∧ vp_in (x3 + (2 : Int32)) nx0 ∧ vp_in (x3 + (3 : Int32)) nx0 ∧ vp_in (x3 + (4 : Int32)) nx0 ∧ ∃ d798 : Nat, ∃ v803 : Int32, ∃ σ799 : AH, d798 + 1 ≤ D ∧ Call X l m_X12_lodge d798 [.ref 124, .int (gI σ787 x0 (x3 + (1 : Int32)).toNatClampNeg), .int (gI σ787 x0 (x3 + (2 : Int32)).toNatClampNeg), .int (gI σ787 x0 (x3 + (3 : Int32)).toNatClampNeg), .int (gI σ787 x0 (x3 + (4 : Int32)).toNatClampNeg)] σ787 (some (.int v803)) σ799 ∧ (if v791 = v803 then W_L_law_2038 X l D x0 x3 σ799 r σ' else (r = some (.int (0 : Int32)) ∧ σ' = σ799))
set_option maxRecDepth 100000 in
theorem w_L_law_1678 {X : Sx} {l : Launch} {D : Nat} {x0 : Nat} {x3 : Int32} {σ : AH} {r : Option Value} {σ' : AH} (hs : Sh σ) (h : W_L_law_1678 X l D x0 x3 σ r σ') : E X l m_L_law D 1678 [(0, .ref x0), (1, .ref 0), (2, .ref 124), (3, .int x3)] [] σ r σ' := by
  unfold W_L_law_1678 at h
  obtain ⟨nx0, hkx0, hbx0, h⟩ := h
  refine E_aload_n 1 dL_law_1678 rfl rfl ?_
  refine E_aload_n 0 dL_law_1679 rfl rfl ?_
  refine E_iload_n 3 dL_law_1680 rfl rfl ?_
  refine E_iconst (1 : Int32) dL_law_1681 (by decide) ?_
  refine E_iadd dL_law_1682 ?_
  obtain ⟨g782, h⟩ := h
  refine E_iald2 ((x3 + (1 : Int32)).toNatClampNeg) dL_law_1683 hkx0 hbx0 g782 rfl ?_
  refine E_aload_n 0 dL_law_1684 rfl rfl ?_
  refine E_iload_n 3 dL_law_1685 rfl rfl ?_
  refine E_iconst (2 : Int32) dL_law_1686 (by decide) ?_
  refine E_iadd dL_law_1687 ?_
  obtain ⟨g783, h⟩ := h
  refine E_iald2 ((x3 + (2 : Int32)).toNatClampNeg) dL_law_1688 hkx0 hbx0 g783 rfl ?_
  refine E_aload_n 0 dL_law_1689 rfl rfl ?_
  refine E_iload_n 3 dL_law_1690 rfl rfl ?_
  refine E_iconst (3 : Int32) dL_law_1691 (by decide) ?_
  refine E_iadd dL_law_1692 ?_
  obtain ⟨g784, h⟩ := h
  refine E_iald2 ((x3 + (3 : Int32)).toNatClampNeg) dL_law_1693 hkx0 hbx0 g784 rfl ?_
  refine E_aload_n 0 dL_law_1694 rfl rfl ?_
  refine E_iload_n 3 dL_law_1695 rfl rfl ?_
  refine E_iconst (4 : Int32) dL_law_1696 (by decide) ?_
  refine E_iadd dL_law_1697 ?_
  obtain ⟨g785, h⟩ := h
  refine E_iald2 ((x3 + (4 : Int32)).toNatClampNeg) dL_law_1698 hkx0 hbx0 g785 rfl ?_
  obtain ⟨d786, v791, σ787, hD788, hC789, h⟩ := h
  have hs790 := hC789.1.2.2.2.1 hs
  have hk792 := (hC789.1.2.2.1 _ hbx0).trans hkx0
  have hb793 := Nat.lt_of_lt_of_le hbx0 hC789.1.1
  refine E_callV (As := [.int (gI σ x0 (x3 + (1 : Int32)).toNatClampNeg), .int (gI σ x0 (x3 + (2 : Int32)).toNatClampNeg), .int (gI σ x0 (x3 + (3 : Int32)).toNatClampNeg), .int (gI σ x0 (x3 + (4 : Int32)).toNatClampNeg)]) (rest := []) (r1 := (some (.int v791))) (b := 0) dL_law_1699 ok_X11_lodge in_X11_lodge se_X11_lodge ml_L_158 hD788 rfl rfl (Nat.le_of_ble_eq_true rfl) (sk_0 hs) (sn hs (by decide)) (by decide) rfl (by decide +kernel) hC789 ?_
  refine E_aload_n 2 dL_law_1702 rfl rfl ?_
  refine E_aload_n 0 dL_law_1703 rfl rfl ?_
  refine E_iload_n 3 dL_law_1704 rfl rfl ?_
  refine E_iconst (1 : Int32) dL_law_1705 (by decide) ?_
  refine E_iadd dL_law_1706 ?_
  obtain ⟨g794, h⟩ := h
  refine E_iald2 ((x3 + (1 : Int32)).toNatClampNeg) dL_law_1707 hk792 hb793 g794 rfl ?_
  refine E_aload_n 0 dL_law_1708 rfl rfl ?_
  refine E_iload_n 3 dL_law_1709 rfl rfl ?_
  refine E_iconst (2 : Int32) dL_law_1710 (by decide) ?_
  refine E_iadd dL_law_1711 ?_
  obtain ⟨g795, h⟩ := h
  refine E_iald2 ((x3 + (2 : Int32)).toNatClampNeg) dL_law_1712 hk792 hb793 g795 rfl ?_
  refine E_aload_n 0 dL_law_1713 rfl rfl ?_
  refine E_iload_n 3 dL_law_1714 rfl rfl ?_
  refine E_iconst (3 : Int32) dL_law_1715 (by decide) ?_
  refine E_iadd dL_law_1716 ?_
  obtain ⟨g796, h⟩ := h
  refine E_iald2 ((x3 + (3 : Int32)).toNatClampNeg) dL_law_1717 hk792 hb793 g796 rfl ?_
  refine E_aload_n 0 dL_law_1718 rfl rfl ?_
  refine E_iload_n 3 dL_law_1719 rfl rfl ?_
  refine E_iconst (4 : Int32) dL_law_1720 (by decide) ?_
  refine E_iadd dL_law_1721 ?_
  obtain ⟨g797, h⟩ := h
  refine E_iald2 ((x3 + (4 : Int32)).toNatClampNeg) dL_law_1722 hk792 hb793 g797 rfl ?_
  obtain ⟨d798, v803, σ799, hD800, hC801, h⟩ := h
  have hs802 := hC801.1.2.2.2.1 hs790
  have hk804 := (hC801.1.2.2.1 _ hb793).trans hk792
  have hb805 := Nat.lt_of_lt_of_le hb793 hC801.1.1
  refine E_callV (As := [.int (gI σ787 x0 (x3 + (1 : Int32)).toNatClampNeg), .int (gI σ787 x0 (x3 + (2 : Int32)).toNatClampNeg), .int (gI σ787 x0 (x3 + (3 : Int32)).toNatClampNeg), .int (gI σ787 x0 (x3 + (4 : Int32)).toNatClampNeg)]) (rest := [.int v791]) (r1 := (some (.int v803))) (b := 124) dL_law_1723 ok_X12_lodge in_X12_lodge se_X12_lodge ml_L_161 hD800 rfl rfl (Nat.le_of_ble_eq_true rfl) (sk_124 hs790) (sn hs790 (by decide)) (by decide) rfl (by decide +kernel) hC801 ?_
  refine E_icmp_eq 2038 dL_law_1726 (by decide) (fun c => ?_) (fun c => ?_)
  · rw [if_pos c] at h
    exact E_lv [0, 1, 2, 3] rfl (w_L_law_2038 hs802 h)
  · rw [if_neg c] at h
    refine E_iconst (0 : Int32) dL_law_1729 (by decide) ?_
    obtain ⟨rfl, rfl⟩ := h
    exact E_zret dL_law_1730 rfl (Or.inl rfl)
def W_L_law_1731 (X : Sx) (l : Launch) (D : Nat) (x0 : Nat) (x3 : Int32) (σ : AH) (r : Option Value) (σ' : AH) : Prop := ∃ nx0 : Nat, kd σ x0 = (100, nx0) ∧ x0 < nx σ ∧ vp_in (x3 + (1 : Int32)) nx0 ∧ vp_in (x3 + (2 : Int32)) nx0 ∧ ∃ d808 : Nat, ∃ v813 : Int32, ∃ σ809 : AH, d808 + 1 ≤ D ∧ Call X l m_X11_under d808 [.ref 0, .int (gI σ x0 (x3 + (1 : Int32)).toNatClampNeg), .int (gI σ x0 (x3 + (2 : Int32)).toNatClampNeg)] σ (some (.int v813)) σ809 ∧ vp_in (x3 + (1 : Int32)) nx0 ∧ vp_in (x3 + (2 : Int32)) nx0 ∧ ∃ d818 : Nat, ∃ v823 : Int32, ∃ σ819 : AH, d818 + 1 ≤ D ∧ Call X l m_X12_under d818 [.ref 124, .int (gI σ809 x0 (x3 + (1 : Int32)).toNatClampNeg), .int (gI σ809 x0 (x3 + (2 : Int32)).toNatClampNeg)] σ809 (some (.int v823)) σ819 ∧ (if v813 = v823 then W_L_law_2038 X l D x0 x3 σ819 r σ' else (r = some (.int (0 : Int32)) ∧ σ' = σ819))
set_option maxRecDepth 100000 in
theorem w_L_law_1731 {X : Sx} {l : Launch} {D : Nat} {x0 : Nat} {x3 : Int32} {σ : AH} {r : Option Value} {σ' : AH} (hs : Sh σ) (h : W_L_law_1731 X l D x0 x3 σ r σ') : E X l m_L_law D 1731 [(0, .ref x0), (1, .ref 0), (2, .ref 124), (3, .int x3)] [] σ r σ' := by
  unfold W_L_law_1731 at h
  obtain ⟨nx0, hkx0, hbx0, h⟩ := h
  refine E_aload_n 1 dL_law_1731 rfl rfl ?_
  refine E_aload_n 0 dL_law_1732 rfl rfl ?_
  refine E_iload_n 3 dL_law_1733 rfl rfl ?_
  refine E_iconst (1 : Int32) dL_law_1734 (by decide) ?_
  refine E_iadd dL_law_1735 ?_
  obtain ⟨g806, h⟩ := h
  refine E_iald2 ((x3 + (1 : Int32)).toNatClampNeg) dL_law_1736 hkx0 hbx0 g806 rfl ?_
  refine E_aload_n 0 dL_law_1737 rfl rfl ?_
  refine E_iload_n 3 dL_law_1738 rfl rfl ?_
  refine E_iconst (2 : Int32) dL_law_1739 (by decide) ?_
  refine E_iadd dL_law_1740 ?_
  obtain ⟨g807, h⟩ := h
  refine E_iald2 ((x3 + (2 : Int32)).toNatClampNeg) dL_law_1741 hkx0 hbx0 g807 rfl ?_
  obtain ⟨d808, v813, σ809, hD810, hC811, h⟩ := h
  have hs812 := hC811.1.2.2.2.1 hs
  have hk814 := (hC811.1.2.2.1 _ hbx0).trans hkx0
  have hb815 := Nat.lt_of_lt_of_le hbx0 hC811.1.1
  refine E_callV (As := [.int (gI σ x0 (x3 + (1 : Int32)).toNatClampNeg), .int (gI σ x0 (x3 + (2 : Int32)).toNatClampNeg)]) (rest := []) (r1 := (some (.int v813))) (b := 0) dL_law_1742 ok_X11_under in_X11_under se_X11_under ml_L_162 hD810 rfl rfl (Nat.le_of_ble_eq_true rfl) (sk_0 hs) (sn hs (by decide)) (by decide) rfl (by decide +kernel) hC811 ?_
  refine E_aload_n 2 dL_law_1745 rfl rfl ?_
  refine E_aload_n 0 dL_law_1746 rfl rfl ?_
  refine E_iload_n 3 dL_law_1747 rfl rfl ?_
  refine E_iconst (1 : Int32) dL_law_1748 (by decide) ?_
  refine E_iadd dL_law_1749 ?_
  obtain ⟨g816, h⟩ := h
  refine E_iald2 ((x3 + (1 : Int32)).toNatClampNeg) dL_law_1750 hk814 hb815 g816 rfl ?_
  refine E_aload_n 0 dL_law_1751 rfl rfl ?_
  refine E_iload_n 3 dL_law_1752 rfl rfl ?_
  refine E_iconst (2 : Int32) dL_law_1753 (by decide) ?_
  refine E_iadd dL_law_1754 ?_
  obtain ⟨g817, h⟩ := h
  refine E_iald2 ((x3 + (2 : Int32)).toNatClampNeg) dL_law_1755 hk814 hb815 g817 rfl ?_
  obtain ⟨d818, v823, σ819, hD820, hC821, h⟩ := h
  have hs822 := hC821.1.2.2.2.1 hs812
  have hk824 := (hC821.1.2.2.1 _ hb815).trans hk814
  have hb825 := Nat.lt_of_lt_of_le hb815 hC821.1.1
  refine E_callV (As := [.int (gI σ809 x0 (x3 + (1 : Int32)).toNatClampNeg), .int (gI σ809 x0 (x3 + (2 : Int32)).toNatClampNeg)]) (rest := [.int v813]) (r1 := (some (.int v823))) (b := 124) dL_law_1756 ok_X12_under in_X12_under se_X12_under ml_L_165 hD820 rfl rfl (Nat.le_of_ble_eq_true rfl) (sk_124 hs812) (sn hs812 (by decide)) (by decide) rfl (by decide +kernel) hC821 ?_
  refine E_icmp_eq 2038 dL_law_1759 (by decide) (fun c => ?_) (fun c => ?_)
  · rw [if_pos c] at h
    exact E_lv [0, 1, 2, 3] rfl (w_L_law_2038 hs822 h)
  · rw [if_neg c] at h
    refine E_iconst (0 : Int32) dL_law_1762 (by decide) ?_
    obtain ⟨rfl, rfl⟩ := h
    exact E_zret dL_law_1763 rfl (Or.inl rfl)
def W_L_law_1764 (X : Sx) (l : Launch) (D : Nat) (x0 : Nat) (x3 : Int32) (σ : AH) (r : Option Value) (σ' : AH) : Prop := ∃ nx0 : Nat, kd σ x0 = (100, nx0) ∧ x0 < nx σ ∧ vp_in (x3 + (1 : Int32)) nx0 ∧ vp_in (x3 + (2 : Int32)) nx0 ∧ vp_in (x3 + (3 : Int32)) nx0 ∧ ∃ d829 : Nat, ∃ v834 : Int32, ∃ σ830 : AH, d829 + 1 ≤ D ∧ Call X l m_X11_target d829 [.ref 0, .int (gI σ x0 (x3 + (1 : Int32)).toNatClampNeg), .int (gI σ x0 (x3 + (2 : Int32)).toNatClampNeg), .int (gI σ x0 (x3 + (3 : Int32)).toNatClampNeg)] σ (some (.int v834)) σ830 ∧ vp_in (x3 + (1 : Int32)) nx0 ∧ vp_in (x3 + (2 : Int32)) nx0 ∧ vp_in (x3 + (3 : Int32)) nx0 ∧ ∃ d840 : Nat, ∃ v845 : Int32, ∃ σ841 : AH, d840 + 1 ≤ D ∧ Call X l m_X12_target d840 [.ref 124, .int (gI σ830 x0 (x3 + (1 : Int32)).toNatClampNeg), .int (gI σ830 x0 (x3 + (2 : Int32)).toNatClampNeg), .int (gI σ830 x0 (x3 + (3 : Int32)).toNatClampNeg)] σ830 (some (.int v845)) σ841 ∧ (if v834 = v845 then W_L_law_2038 X l D x0 x3 σ841 r σ' else (r = some (.int (0 : Int32)) ∧ σ' = σ841))
set_option maxRecDepth 100000 in
theorem w_L_law_1764 {X : Sx} {l : Launch} {D : Nat} {x0 : Nat} {x3 : Int32} {σ : AH} {r : Option Value} {σ' : AH} (hs : Sh σ) (h : W_L_law_1764 X l D x0 x3 σ r σ') : E X l m_L_law D 1764 [(0, .ref x0), (1, .ref 0), (2, .ref 124), (3, .int x3)] [] σ r σ' := by
  unfold W_L_law_1764 at h
  obtain ⟨nx0, hkx0, hbx0, h⟩ := h
  refine E_aload_n 1 dL_law_1764 rfl rfl ?_
  refine E_aload_n 0 dL_law_1765 rfl rfl ?_
  refine E_iload_n 3 dL_law_1766 rfl rfl ?_
  refine E_iconst (1 : Int32) dL_law_1767 (by decide) ?_
  refine E_iadd dL_law_1768 ?_
  obtain ⟨g826, h⟩ := h
  refine E_iald2 ((x3 + (1 : Int32)).toNatClampNeg) dL_law_1769 hkx0 hbx0 g826 rfl ?_
  refine E_aload_n 0 dL_law_1770 rfl rfl ?_
  refine E_iload_n 3 dL_law_1771 rfl rfl ?_
  refine E_iconst (2 : Int32) dL_law_1772 (by decide) ?_
  refine E_iadd dL_law_1773 ?_
  obtain ⟨g827, h⟩ := h
  refine E_iald2 ((x3 + (2 : Int32)).toNatClampNeg) dL_law_1774 hkx0 hbx0 g827 rfl ?_
  refine E_aload_n 0 dL_law_1775 rfl rfl ?_
  refine E_iload_n 3 dL_law_1776 rfl rfl ?_
  refine E_iconst (3 : Int32) dL_law_1777 (by decide) ?_
  refine E_iadd dL_law_1778 ?_
  obtain ⟨g828, h⟩ := h
  refine E_iald2 ((x3 + (3 : Int32)).toNatClampNeg) dL_law_1779 hkx0 hbx0 g828 rfl ?_
  obtain ⟨d829, v834, σ830, hD831, hC832, h⟩ := h
  have hs833 := hC832.1.2.2.2.1 hs
  have hk835 := (hC832.1.2.2.1 _ hbx0).trans hkx0
  have hb836 := Nat.lt_of_lt_of_le hbx0 hC832.1.1
  refine E_callV (As := [.int (gI σ x0 (x3 + (1 : Int32)).toNatClampNeg), .int (gI σ x0 (x3 + (2 : Int32)).toNatClampNeg), .int (gI σ x0 (x3 + (3 : Int32)).toNatClampNeg)]) (rest := []) (r1 := (some (.int v834))) (b := 0) dL_law_1780 ok_X11_target in_X11_target se_X11_target ml_L_166 hD831 rfl rfl (Nat.le_of_ble_eq_true rfl) (sk_0 hs) (sn hs (by decide)) (by decide) rfl (by decide +kernel) hC832 ?_
  refine E_aload_n 2 dL_law_1783 rfl rfl ?_
  refine E_aload_n 0 dL_law_1784 rfl rfl ?_
  refine E_iload_n 3 dL_law_1785 rfl rfl ?_
  refine E_iconst (1 : Int32) dL_law_1786 (by decide) ?_
  refine E_iadd dL_law_1787 ?_
  obtain ⟨g837, h⟩ := h
  refine E_iald2 ((x3 + (1 : Int32)).toNatClampNeg) dL_law_1788 hk835 hb836 g837 rfl ?_
  refine E_aload_n 0 dL_law_1789 rfl rfl ?_
  refine E_iload_n 3 dL_law_1790 rfl rfl ?_
  refine E_iconst (2 : Int32) dL_law_1791 (by decide) ?_
  refine E_iadd dL_law_1792 ?_
  obtain ⟨g838, h⟩ := h
  refine E_iald2 ((x3 + (2 : Int32)).toNatClampNeg) dL_law_1793 hk835 hb836 g838 rfl ?_
  refine E_aload_n 0 dL_law_1794 rfl rfl ?_
  refine E_iload_n 3 dL_law_1795 rfl rfl ?_
  refine E_iconst (3 : Int32) dL_law_1796 (by decide) ?_
  refine E_iadd dL_law_1797 ?_
  obtain ⟨g839, h⟩ := h
  refine E_iald2 ((x3 + (3 : Int32)).toNatClampNeg) dL_law_1798 hk835 hb836 g839 rfl ?_
  obtain ⟨d840, v845, σ841, hD842, hC843, h⟩ := h
  have hs844 := hC843.1.2.2.2.1 hs833
  have hk846 := (hC843.1.2.2.1 _ hb836).trans hk835
  have hb847 := Nat.lt_of_lt_of_le hb836 hC843.1.1
  refine E_callV (As := [.int (gI σ830 x0 (x3 + (1 : Int32)).toNatClampNeg), .int (gI σ830 x0 (x3 + (2 : Int32)).toNatClampNeg), .int (gI σ830 x0 (x3 + (3 : Int32)).toNatClampNeg)]) (rest := [.int v834]) (r1 := (some (.int v845))) (b := 124) dL_law_1799 ok_X12_target in_X12_target se_X12_target ml_L_169 hD842 rfl rfl (Nat.le_of_ble_eq_true rfl) (sk_124 hs833) (sn hs833 (by decide)) (by decide) rfl (by decide +kernel) hC843 ?_
  refine E_icmp_eq 2038 dL_law_1802 (by decide) (fun c => ?_) (fun c => ?_)
  · rw [if_pos c] at h
    exact E_lv [0, 1, 2, 3] rfl (w_L_law_2038 hs844 h)
  · rw [if_neg c] at h
    refine E_iconst (0 : Int32) dL_law_1805 (by decide) ?_
    obtain ⟨rfl, rfl⟩ := h
    exact E_zret dL_law_1806 rfl (Or.inl rfl)
def W_L_law_1807 (X : Sx) (l : Launch) (D : Nat) (x0 : Nat) (x3 : Int32) (σ : AH) (r : Option Value) (σ' : AH) : Prop := ∃ nx0 : Nat, kd σ x0 = (100, nx0) ∧ x0 < nx σ ∧ vp_in (x3 + (1 : Int32)) nx0 ∧ vp_in (x3 + (2 : Int32)) nx0 ∧ vp_in (x3 + (3 : Int32)) nx0 ∧ vp_in (x3 + (4 : Int32)) nx0 ∧ ∃ d852 : Nat, ∃ v857 : Int32, ∃ σ853 : AH, d852 + 1 ≤ D ∧ Call X l m_X11_claim d852 [.ref 0, .int (gI σ x0 (x3 + (1 : Int32)).toNatClampNeg), .int (gI σ x0 (x3 + (2 : Int32)).toNatClampNeg), .int (gI σ x0 (x3 + (3 : Int32)).toNatClampNeg), .int (gI σ x0 (x3 + (4 : Int32)).toNatClampNeg)] σ (some (.int v857)) σ853 ∧ vp_in (x3 + (1 : Int32)) nx0 ∧ vp_in (x3 + (2 : Int32)) nx0 ∧ vp_in (x3 + (3 : Int32)) nx0 ∧ vp_in (x3 + (4 : Int32)) nx0 ∧ ∃ d864 : Nat, ∃ v869 : Int32, ∃ σ865 : AH, d864 + 1 ≤ D ∧ Call X l m_X12_claim d864 [.ref 124, .int (gI σ853 x0 (x3 + (1 : Int32)).toNatClampNeg), .int (gI σ853 x0 (x3 + (2 : Int32)).toNatClampNeg), .int (gI σ853 x0 (x3 + (3 : Int32)).toNatClampNeg), .int (gI σ853 x0 (x3 + (4 : Int32)).toNatClampNeg)] σ853 (some (.int v869)) σ865 ∧ (if v857 = v869 then W_L_law_2038 X l D x0 x3 σ865 r σ' else (r = some (.int (0 : Int32)) ∧ σ' = σ865))
set_option maxRecDepth 100000 in
theorem w_L_law_1807 {X : Sx} {l : Launch} {D : Nat} {x0 : Nat} {x3 : Int32} {σ : AH} {r : Option Value} {σ' : AH} (hs : Sh σ) (h : W_L_law_1807 X l D x0 x3 σ r σ') : E X l m_L_law D 1807 [(0, .ref x0), (1, .ref 0), (2, .ref 124), (3, .int x3)] [] σ r σ' := by
  unfold W_L_law_1807 at h
  obtain ⟨nx0, hkx0, hbx0, h⟩ := h
  refine E_aload_n 1 dL_law_1807 rfl rfl ?_
  refine E_aload_n 0 dL_law_1808 rfl rfl ?_
  refine E_iload_n 3 dL_law_1809 rfl rfl ?_
  refine E_iconst (1 : Int32) dL_law_1810 (by decide) ?_
  refine E_iadd dL_law_1811 ?_
  obtain ⟨g848, h⟩ := h
  refine E_iald2 ((x3 + (1 : Int32)).toNatClampNeg) dL_law_1812 hkx0 hbx0 g848 rfl ?_
  refine E_aload_n 0 dL_law_1813 rfl rfl ?_
  refine E_iload_n 3 dL_law_1814 rfl rfl ?_
  refine E_iconst (2 : Int32) dL_law_1815 (by decide) ?_
  refine E_iadd dL_law_1816 ?_
  obtain ⟨g849, h⟩ := h
  refine E_iald2 ((x3 + (2 : Int32)).toNatClampNeg) dL_law_1817 hkx0 hbx0 g849 rfl ?_
  refine E_aload_n 0 dL_law_1818 rfl rfl ?_
  refine E_iload_n 3 dL_law_1819 rfl rfl ?_
  refine E_iconst (3 : Int32) dL_law_1820 (by decide) ?_
  refine E_iadd dL_law_1821 ?_
  obtain ⟨g850, h⟩ := h
  refine E_iald2 ((x3 + (3 : Int32)).toNatClampNeg) dL_law_1822 hkx0 hbx0 g850 rfl ?_
  refine E_aload_n 0 dL_law_1823 rfl rfl ?_
  refine E_iload_n 3 dL_law_1824 rfl rfl ?_
  refine E_iconst (4 : Int32) dL_law_1825 (by decide) ?_
  refine E_iadd dL_law_1826 ?_
  obtain ⟨g851, h⟩ := h
  refine E_iald2 ((x3 + (4 : Int32)).toNatClampNeg) dL_law_1827 hkx0 hbx0 g851 rfl ?_
  obtain ⟨d852, v857, σ853, hD854, hC855, h⟩ := h
  have hs856 := hC855.1.2.2.2.1 hs
  have hk858 := (hC855.1.2.2.1 _ hbx0).trans hkx0
  have hb859 := Nat.lt_of_lt_of_le hbx0 hC855.1.1
  refine E_callV (As := [.int (gI σ x0 (x3 + (1 : Int32)).toNatClampNeg), .int (gI σ x0 (x3 + (2 : Int32)).toNatClampNeg), .int (gI σ x0 (x3 + (3 : Int32)).toNatClampNeg), .int (gI σ x0 (x3 + (4 : Int32)).toNatClampNeg)]) (rest := []) (r1 := (some (.int v857))) (b := 0) dL_law_1828 ok_X11_claim in_X11_claim se_X11_claim ml_L_170 hD854 rfl rfl (Nat.le_of_ble_eq_true rfl) (sk_0 hs) (sn hs (by decide)) (by decide) rfl (by decide +kernel) hC855 ?_
  refine E_aload_n 2 dL_law_1831 rfl rfl ?_
  refine E_aload_n 0 dL_law_1832 rfl rfl ?_
  refine E_iload_n 3 dL_law_1833 rfl rfl ?_
  refine E_iconst (1 : Int32) dL_law_1834 (by decide) ?_
  refine E_iadd dL_law_1835 ?_
  obtain ⟨g860, h⟩ := h
  refine E_iald2 ((x3 + (1 : Int32)).toNatClampNeg) dL_law_1836 hk858 hb859 g860 rfl ?_
  refine E_aload_n 0 dL_law_1837 rfl rfl ?_
  refine E_iload_n 3 dL_law_1838 rfl rfl ?_
  refine E_iconst (2 : Int32) dL_law_1839 (by decide) ?_
  refine E_iadd dL_law_1840 ?_
  obtain ⟨g861, h⟩ := h
  refine E_iald2 ((x3 + (2 : Int32)).toNatClampNeg) dL_law_1841 hk858 hb859 g861 rfl ?_
  refine E_aload_n 0 dL_law_1842 rfl rfl ?_
  refine E_iload_n 3 dL_law_1843 rfl rfl ?_
  refine E_iconst (3 : Int32) dL_law_1844 (by decide) ?_
  refine E_iadd dL_law_1845 ?_
  obtain ⟨g862, h⟩ := h
  refine E_iald2 ((x3 + (3 : Int32)).toNatClampNeg) dL_law_1846 hk858 hb859 g862 rfl ?_
  refine E_aload_n 0 dL_law_1847 rfl rfl ?_
  refine E_iload_n 3 dL_law_1848 rfl rfl ?_
  refine E_iconst (4 : Int32) dL_law_1849 (by decide) ?_
  refine E_iadd dL_law_1850 ?_
  obtain ⟨g863, h⟩ := h
  refine E_iald2 ((x3 + (4 : Int32)).toNatClampNeg) dL_law_1851 hk858 hb859 g863 rfl ?_
  obtain ⟨d864, v869, σ865, hD866, hC867, h⟩ := h
  have hs868 := hC867.1.2.2.2.1 hs856
  have hk870 := (hC867.1.2.2.1 _ hb859).trans hk858
  have hb871 := Nat.lt_of_lt_of_le hb859 hC867.1.1
  refine E_callV (As := [.int (gI σ853 x0 (x3 + (1 : Int32)).toNatClampNeg), .int (gI σ853 x0 (x3 + (2 : Int32)).toNatClampNeg), .int (gI σ853 x0 (x3 + (3 : Int32)).toNatClampNeg), .int (gI σ853 x0 (x3 + (4 : Int32)).toNatClampNeg)]) (rest := [.int v857]) (r1 := (some (.int v869))) (b := 124) dL_law_1852 ok_X12_claim in_X12_claim se_X12_claim ml_L_173 hD866 rfl rfl (Nat.le_of_ble_eq_true rfl) (sk_124 hs856) (sn hs856 (by decide)) (by decide) rfl (by decide +kernel) hC867 ?_
  refine E_icmp_eq 2038 dL_law_1855 (by decide) (fun c => ?_) (fun c => ?_)
  · rw [if_pos c] at h
    exact E_lv [0, 1, 2, 3] rfl (w_L_law_2038 hs868 h)
  · rw [if_neg c] at h
    refine E_iconst (0 : Int32) dL_law_1858 (by decide) ?_
    obtain ⟨rfl, rfl⟩ := h
    exact E_zret dL_law_1859 rfl (Or.inl rfl)
def W_L_law_1860 (X : Sx) (l : Launch) (D : Nat) (x0 : Nat) (x3 : Int32) (σ : AH) (r : Option Value) (σ' : AH) : Prop := ∃ nx0 : Nat, kd σ x0 = (100, nx0) ∧ x0 < nx σ ∧ vp_in (x3 + (1 : Int32)) nx0 ∧ vp_in (x3 + (2 : Int32)) nx0 ∧ vp_in (x3 + (3 : Int32)) nx0 ∧ vp_in (x3 + (4 : Int32)) nx0 ∧ ∃ d876 : Nat, ∃ v881 : Int32, ∃ σ877 : AH, d876 + 1 ≤ D ∧ Call X l m_X11_look d876 [.ref 0, .int (gI σ x0 (x3 + (1 : Int32)).toNatClampNeg), .int (gI σ x0 (x3 + (2 : Int32)).toNatClampNeg), .int (gI σ x0 (x3 + (3 : Int32)).toNatClampNeg), .int (gI σ x0 (x3 + (4 : Int32)).toNatClampNeg)] σ (some (.int v881)) σ877 ∧ vp_in (x3 + (1 : Int32)) nx0 ∧ vp_in (x3 + (2 : Int32)) nx0 ∧ vp_in (x3 + (3 : Int32)) nx0 ∧ vp_in (x3 + (4 : Int32)) nx0 ∧ ∃ d888 : Nat, ∃ v893 : Int32, ∃ σ889 : AH, d888 + 1 ≤ D ∧ Call X l m_X12_look d888 [.ref 124, .int (gI σ877 x0 (x3 + (1 : Int32)).toNatClampNeg), .int (gI σ877 x0 (x3 + (2 : Int32)).toNatClampNeg), .int (gI σ877 x0 (x3 + (3 : Int32)).toNatClampNeg), .int (gI σ877 x0 (x3 + (4 : Int32)).toNatClampNeg)] σ877 (some (.int v893)) σ889 ∧ (if v881 = v893 then W_L_law_2038 X l D x0 x3 σ889 r σ' else (r = some (.int (0 : Int32)) ∧ σ' = σ889))
set_option maxRecDepth 100000 in
theorem w_L_law_1860 {X : Sx} {l : Launch} {D : Nat} {x0 : Nat} {x3 : Int32} {σ : AH} {r : Option Value} {σ' : AH} (hs : Sh σ) (h : W_L_law_1860 X l D x0 x3 σ r σ') : E X l m_L_law D 1860 [(0, .ref x0), (1, .ref 0), (2, .ref 124), (3, .int x3)] [] σ r σ' := by
  unfold W_L_law_1860 at h
  obtain ⟨nx0, hkx0, hbx0, h⟩ := h
  refine E_aload_n 1 dL_law_1860 rfl rfl ?_
  refine E_aload_n 0 dL_law_1861 rfl rfl ?_
  refine E_iload_n 3 dL_law_1862 rfl rfl ?_
  refine E_iconst (1 : Int32) dL_law_1863 (by decide) ?_
  refine E_iadd dL_law_1864 ?_
  obtain ⟨g872, h⟩ := h
  refine E_iald2 ((x3 + (1 : Int32)).toNatClampNeg) dL_law_1865 hkx0 hbx0 g872 rfl ?_
  refine E_aload_n 0 dL_law_1866 rfl rfl ?_
  refine E_iload_n 3 dL_law_1867 rfl rfl ?_
  refine E_iconst (2 : Int32) dL_law_1868 (by decide) ?_
  refine E_iadd dL_law_1869 ?_
  obtain ⟨g873, h⟩ := h
  refine E_iald2 ((x3 + (2 : Int32)).toNatClampNeg) dL_law_1870 hkx0 hbx0 g873 rfl ?_
  refine E_aload_n 0 dL_law_1871 rfl rfl ?_
  refine E_iload_n 3 dL_law_1872 rfl rfl ?_
  refine E_iconst (3 : Int32) dL_law_1873 (by decide) ?_
  refine E_iadd dL_law_1874 ?_
  obtain ⟨g874, h⟩ := h
  refine E_iald2 ((x3 + (3 : Int32)).toNatClampNeg) dL_law_1875 hkx0 hbx0 g874 rfl ?_
  refine E_aload_n 0 dL_law_1876 rfl rfl ?_
  refine E_iload_n 3 dL_law_1877 rfl rfl ?_
  refine E_iconst (4 : Int32) dL_law_1878 (by decide) ?_
  refine E_iadd dL_law_1879 ?_
  obtain ⟨g875, h⟩ := h
  refine E_iald2 ((x3 + (4 : Int32)).toNatClampNeg) dL_law_1880 hkx0 hbx0 g875 rfl ?_
  obtain ⟨d876, v881, σ877, hD878, hC879, h⟩ := h
  have hs880 := hC879.1.2.2.2.1 hs
  have hk882 := (hC879.1.2.2.1 _ hbx0).trans hkx0
  have hb883 := Nat.lt_of_lt_of_le hbx0 hC879.1.1
  refine E_callV (As := [.int (gI σ x0 (x3 + (1 : Int32)).toNatClampNeg), .int (gI σ x0 (x3 + (2 : Int32)).toNatClampNeg), .int (gI σ x0 (x3 + (3 : Int32)).toNatClampNeg), .int (gI σ x0 (x3 + (4 : Int32)).toNatClampNeg)]) (rest := []) (r1 := (some (.int v881))) (b := 0) dL_law_1881 ok_X11_look in_X11_look se_X11_look ml_L_174 hD878 rfl rfl (Nat.le_of_ble_eq_true rfl) (sk_0 hs) (sn hs (by decide)) (by decide) rfl (by decide +kernel) hC879 ?_
  refine E_aload_n 2 dL_law_1884 rfl rfl ?_
  refine E_aload_n 0 dL_law_1885 rfl rfl ?_
  refine E_iload_n 3 dL_law_1886 rfl rfl ?_
  refine E_iconst (1 : Int32) dL_law_1887 (by decide) ?_
  refine E_iadd dL_law_1888 ?_
  obtain ⟨g884, h⟩ := h
  refine E_iald2 ((x3 + (1 : Int32)).toNatClampNeg) dL_law_1889 hk882 hb883 g884 rfl ?_
  refine E_aload_n 0 dL_law_1890 rfl rfl ?_
  refine E_iload_n 3 dL_law_1891 rfl rfl ?_
  refine E_iconst (2 : Int32) dL_law_1892 (by decide) ?_
  refine E_iadd dL_law_1893 ?_
  obtain ⟨g885, h⟩ := h
  refine E_iald2 ((x3 + (2 : Int32)).toNatClampNeg) dL_law_1894 hk882 hb883 g885 rfl ?_
  refine E_aload_n 0 dL_law_1895 rfl rfl ?_
  refine E_iload_n 3 dL_law_1896 rfl rfl ?_
  refine E_iconst (3 : Int32) dL_law_1897 (by decide) ?_
  refine E_iadd dL_law_1898 ?_
  obtain ⟨g886, h⟩ := h
  refine E_iald2 ((x3 + (3 : Int32)).toNatClampNeg) dL_law_1899 hk882 hb883 g886 rfl ?_
  refine E_aload_n 0 dL_law_1900 rfl rfl ?_
  refine E_iload_n 3 dL_law_1901 rfl rfl ?_
  refine E_iconst (4 : Int32) dL_law_1902 (by decide) ?_
  refine E_iadd dL_law_1903 ?_
  obtain ⟨g887, h⟩ := h
  refine E_iald2 ((x3 + (4 : Int32)).toNatClampNeg) dL_law_1904 hk882 hb883 g887 rfl ?_
  obtain ⟨d888, v893, σ889, hD890, hC891, h⟩ := h
  have hs892 := hC891.1.2.2.2.1 hs880
  have hk894 := (hC891.1.2.2.1 _ hb883).trans hk882
  have hb895 := Nat.lt_of_lt_of_le hb883 hC891.1.1
  refine E_callV (As := [.int (gI σ877 x0 (x3 + (1 : Int32)).toNatClampNeg), .int (gI σ877 x0 (x3 + (2 : Int32)).toNatClampNeg), .int (gI σ877 x0 (x3 + (3 : Int32)).toNatClampNeg), .int (gI σ877 x0 (x3 + (4 : Int32)).toNatClampNeg)]) (rest := [.int v881]) (r1 := (some (.int v893))) (b := 124) dL_law_1905 ok_X12_look in_X12_look se_X12_look ml_L_177 hD890 rfl rfl (Nat.le_of_ble_eq_true rfl) (sk_124 hs880) (sn hs880 (by decide)) (by decide) rfl (by decide +kernel) hC891 ?_
  refine E_icmp_eq 2038 dL_law_1908 (by decide) (fun c => ?_) (fun c => ?_)
  · rw [if_pos c] at h
    exact E_lv [0, 1, 2, 3] rfl (w_L_law_2038 hs892 h)
  · rw [if_neg c] at h
    refine E_iconst (0 : Int32) dL_law_1911 (by decide) ?_
    obtain ⟨rfl, rfl⟩ := h
    exact E_zret dL_law_1912 rfl (Or.inl rfl)
def W_L_law_1913 (X : Sx) (l : Launch) (D : Nat) (x0 : Nat) (x3 : Int32) (σ : AH) (r : Option Value) (σ' : AH) : Prop := ∃ nx0 : Nat, kd σ x0 = (100, nx0) ∧ x0 < nx σ ∧ vp_in (x3 + (1 : Int32)) nx0 ∧ vp_in (x3 + (2 : Int32)) nx0 ∧ vp_in (x3 + (3 : Int32)) nx0 ∧ ∃ d899 : Nat, ∃ v904 : Int32, ∃ σ900 : AH, d899 + 1 ≤ D ∧ Call X l m_X11_truth d899 [.ref 0, .int (gI σ x0 (x3 + (1 : Int32)).toNatClampNeg), .int (gI σ x0 (x3 + (2 : Int32)).toNatClampNeg), .int (gI σ x0 (x3 + (3 : Int32)).toNatClampNeg)] σ (some (.int v904)) σ900 ∧ vp_in (x3 + (1 : Int32)) nx0 ∧ vp_in (x3 + (2 : Int32)) nx0 ∧ vp_in (x3 + (3 : Int32)) nx0 ∧ ∃ d910 : Nat, ∃ v915 : Int32, ∃ σ911 : AH, d910 + 1 ≤ D ∧ Call X l m_X12_truth d910 [.ref 124, .int (gI σ900 x0 (x3 + (1 : Int32)).toNatClampNeg), .int (gI σ900 x0 (x3 + (2 : Int32)).toNatClampNeg), .int (gI σ900 x0 (x3 + (3 : Int32)).toNatClampNeg)] σ900 (some (.int v915)) σ911 ∧ (if v904 = v915 then W_L_law_2038 X l D x0 x3 σ911 r σ' else (r = some (.int (0 : Int32)) ∧ σ' = σ911))
set_option maxRecDepth 100000 in
theorem w_L_law_1913 {X : Sx} {l : Launch} {D : Nat} {x0 : Nat} {x3 : Int32} {σ : AH} {r : Option Value} {σ' : AH} (hs : Sh σ) (h : W_L_law_1913 X l D x0 x3 σ r σ') : E X l m_L_law D 1913 [(0, .ref x0), (1, .ref 0), (2, .ref 124), (3, .int x3)] [] σ r σ' := by
  unfold W_L_law_1913 at h
  obtain ⟨nx0, hkx0, hbx0, h⟩ := h
  refine E_aload_n 1 dL_law_1913 rfl rfl ?_
  refine E_aload_n 0 dL_law_1914 rfl rfl ?_
  refine E_iload_n 3 dL_law_1915 rfl rfl ?_
  refine E_iconst (1 : Int32) dL_law_1916 (by decide) ?_
  refine E_iadd dL_law_1917 ?_
  obtain ⟨g896, h⟩ := h
  refine E_iald2 ((x3 + (1 : Int32)).toNatClampNeg) dL_law_1918 hkx0 hbx0 g896 rfl ?_
  refine E_aload_n 0 dL_law_1919 rfl rfl ?_
  refine E_iload_n 3 dL_law_1920 rfl rfl ?_
  refine E_iconst (2 : Int32) dL_law_1921 (by decide) ?_
  refine E_iadd dL_law_1922 ?_
  obtain ⟨g897, h⟩ := h
  refine E_iald2 ((x3 + (2 : Int32)).toNatClampNeg) dL_law_1923 hkx0 hbx0 g897 rfl ?_
  refine E_aload_n 0 dL_law_1924 rfl rfl ?_
  refine E_iload_n 3 dL_law_1925 rfl rfl ?_
  refine E_iconst (3 : Int32) dL_law_1926 (by decide) ?_
  refine E_iadd dL_law_1927 ?_
  obtain ⟨g898, h⟩ := h
  refine E_iald2 ((x3 + (3 : Int32)).toNatClampNeg) dL_law_1928 hkx0 hbx0 g898 rfl ?_
  obtain ⟨d899, v904, σ900, hD901, hC902, h⟩ := h
  have hs903 := hC902.1.2.2.2.1 hs
  have hk905 := (hC902.1.2.2.1 _ hbx0).trans hkx0
  have hb906 := Nat.lt_of_lt_of_le hbx0 hC902.1.1
  refine E_callV (As := [.int (gI σ x0 (x3 + (1 : Int32)).toNatClampNeg), .int (gI σ x0 (x3 + (2 : Int32)).toNatClampNeg), .int (gI σ x0 (x3 + (3 : Int32)).toNatClampNeg)]) (rest := []) (r1 := (some (.int v904))) (b := 0) dL_law_1929 ok_X11_truth in_X11_truth se_X11_truth ml_L_178 hD901 rfl rfl (Nat.le_of_ble_eq_true rfl) (sk_0 hs) (sn hs (by decide)) (by decide) rfl (by decide +kernel) hC902 ?_
  refine E_aload_n 2 dL_law_1932 rfl rfl ?_
  refine E_aload_n 0 dL_law_1933 rfl rfl ?_
  refine E_iload_n 3 dL_law_1934 rfl rfl ?_
  refine E_iconst (1 : Int32) dL_law_1935 (by decide) ?_
  refine E_iadd dL_law_1936 ?_
  obtain ⟨g907, h⟩ := h
  refine E_iald2 ((x3 + (1 : Int32)).toNatClampNeg) dL_law_1937 hk905 hb906 g907 rfl ?_
  refine E_aload_n 0 dL_law_1938 rfl rfl ?_
  refine E_iload_n 3 dL_law_1939 rfl rfl ?_
  refine E_iconst (2 : Int32) dL_law_1940 (by decide) ?_
  refine E_iadd dL_law_1941 ?_
  obtain ⟨g908, h⟩ := h
  refine E_iald2 ((x3 + (2 : Int32)).toNatClampNeg) dL_law_1942 hk905 hb906 g908 rfl ?_
  refine E_aload_n 0 dL_law_1943 rfl rfl ?_
  refine E_iload_n 3 dL_law_1944 rfl rfl ?_
  refine E_iconst (3 : Int32) dL_law_1945 (by decide) ?_
  refine E_iadd dL_law_1946 ?_
  obtain ⟨g909, h⟩ := h
  refine E_iald2 ((x3 + (3 : Int32)).toNatClampNeg) dL_law_1947 hk905 hb906 g909 rfl ?_
  obtain ⟨d910, v915, σ911, hD912, hC913, h⟩ := h
  have hs914 := hC913.1.2.2.2.1 hs903
  have hk916 := (hC913.1.2.2.1 _ hb906).trans hk905
  have hb917 := Nat.lt_of_lt_of_le hb906 hC913.1.1
  refine E_callV (As := [.int (gI σ900 x0 (x3 + (1 : Int32)).toNatClampNeg), .int (gI σ900 x0 (x3 + (2 : Int32)).toNatClampNeg), .int (gI σ900 x0 (x3 + (3 : Int32)).toNatClampNeg)]) (rest := [.int v904]) (r1 := (some (.int v915))) (b := 124) dL_law_1948 ok_X12_truth in_X12_truth se_X12_truth ml_L_181 hD912 rfl rfl (Nat.le_of_ble_eq_true rfl) (sk_124 hs903) (sn hs903 (by decide)) (by decide) rfl (by decide +kernel) hC913 ?_
  refine E_icmp_eq 2038 dL_law_1951 (by decide) (fun c => ?_) (fun c => ?_)
  · rw [if_pos c] at h
    exact E_lv [0, 1, 2, 3] rfl (w_L_law_2038 hs914 h)
  · rw [if_neg c] at h
    refine E_iconst (0 : Int32) dL_law_1954 (by decide) ?_
    obtain ⟨rfl, rfl⟩ := h
    exact E_zret dL_law_1955 rfl (Or.inl rfl)
def W_L_law_1956 (X : Sx) (l : Launch) (D : Nat) (x0 : Nat) (x3 : Int32) (σ : AH) (r : Option Value) (σ' : AH) : Prop := ∃ nx0 : Nat, kd σ x0 = (100, nx0) ∧ x0 < nx σ ∧ vp_in (x3 + (1 : Int32)) nx0 ∧ ∃ d919 : Nat, ∃ v924 : Int32, ∃ σ920 : AH, d919 + 1 ≤ D ∧ Call X l m_X11_image d919 [.ref 0, .int (gI σ x0 (x3 + (1 : Int32)).toNatClampNeg)] σ (some (.int v924)) σ920 ∧ vp_in (x3 + (1 : Int32)) nx0 ∧ ∃ d928 : Nat, ∃ v933 : Int32, ∃ σ929 : AH, d928 + 1 ≤ D ∧ Call X l m_X12_image d928 [.ref 124, .int (gI σ920 x0 (x3 + (1 : Int32)).toNatClampNeg)] σ920 (some (.int v933)) σ929 ∧ (if v924 = v933 then W_L_law_2038 X l D x0 x3 σ929 r σ' else (r = some (.int (0 : Int32)) ∧ σ' = σ929))
set_option maxRecDepth 100000 in
theorem w_L_law_1956 {X : Sx} {l : Launch} {D : Nat} {x0 : Nat} {x3 : Int32} {σ : AH} {r : Option Value} {σ' : AH} (hs : Sh σ) (h : W_L_law_1956 X l D x0 x3 σ r σ') : E X l m_L_law D 1956 [(0, .ref x0), (1, .ref 0), (2, .ref 124), (3, .int x3)] [] σ r σ' := by
  unfold W_L_law_1956 at h
  obtain ⟨nx0, hkx0, hbx0, h⟩ := h
  refine E_aload_n 1 dL_law_1956 rfl rfl ?_
  refine E_aload_n 0 dL_law_1957 rfl rfl ?_
  refine E_iload_n 3 dL_law_1958 rfl rfl ?_
  refine E_iconst (1 : Int32) dL_law_1959 (by decide) ?_
  refine E_iadd dL_law_1960 ?_
  obtain ⟨g918, h⟩ := h
  refine E_iald2 ((x3 + (1 : Int32)).toNatClampNeg) dL_law_1961 hkx0 hbx0 g918 rfl ?_
  obtain ⟨d919, v924, σ920, hD921, hC922, h⟩ := h
  have hs923 := hC922.1.2.2.2.1 hs
  have hk925 := (hC922.1.2.2.1 _ hbx0).trans hkx0
  have hb926 := Nat.lt_of_lt_of_le hbx0 hC922.1.1
  refine E_callV (As := [.int (gI σ x0 (x3 + (1 : Int32)).toNatClampNeg)]) (rest := []) (r1 := (some (.int v924))) (b := 0) dL_law_1962 ok_X11_image in_X11_image se_X11_image ml_L_182 hD921 rfl rfl (Nat.le_of_ble_eq_true rfl) (sk_0 hs) (sn hs (by decide)) (by decide) rfl (by decide +kernel) hC922 ?_
  refine E_aload_n 2 dL_law_1965 rfl rfl ?_
  refine E_aload_n 0 dL_law_1966 rfl rfl ?_
  refine E_iload_n 3 dL_law_1967 rfl rfl ?_
  refine E_iconst (1 : Int32) dL_law_1968 (by decide) ?_
  refine E_iadd dL_law_1969 ?_
  obtain ⟨g927, h⟩ := h
  refine E_iald2 ((x3 + (1 : Int32)).toNatClampNeg) dL_law_1970 hk925 hb926 g927 rfl ?_
  obtain ⟨d928, v933, σ929, hD930, hC931, h⟩ := h
  have hs932 := hC931.1.2.2.2.1 hs923
  have hk934 := (hC931.1.2.2.1 _ hb926).trans hk925
  have hb935 := Nat.lt_of_lt_of_le hb926 hC931.1.1
  refine E_callV (As := [.int (gI σ920 x0 (x3 + (1 : Int32)).toNatClampNeg)]) (rest := [.int v924]) (r1 := (some (.int v933))) (b := 124) dL_law_1971 ok_X12_image in_X12_image se_X12_image ml_L_185 hD930 rfl rfl (Nat.le_of_ble_eq_true rfl) (sk_124 hs923) (sn hs923 (by decide)) (by decide) rfl (by decide +kernel) hC931 ?_
  refine E_icmp_eq 2038 dL_law_1974 (by decide) (fun c => ?_) (fun c => ?_)
  · rw [if_pos c] at h
    exact E_lv [0, 1, 2, 3] rfl (w_L_law_2038 hs932 h)
  · rw [if_neg c] at h
    refine E_iconst (0 : Int32) dL_law_1977 (by decide) ?_
    obtain ⟨rfl, rfl⟩ := h
    exact E_zret dL_law_1978 rfl (Or.inl rfl)
def W_L_law_1979 (X : Sx) (l : Launch) (D : Nat) (x0 : Nat) (x3 : Int32) (σ : AH) (r : Option Value) (σ' : AH) : Prop := ∃ nx0 : Nat, kd σ x0 = (100, nx0) ∧ x0 < nx σ ∧ vp_in (x3 + (1 : Int32)) nx0 ∧ ∃ d937 : Nat, ∃ v942 : Int32, ∃ σ938 : AH, d937 + 1 ≤ D ∧ Call X l m_X11_back d937 [.ref 0, .int (gI σ x0 (x3 + (1 : Int32)).toNatClampNeg)] σ (some (.int v942)) σ938 ∧ vp_in (x3 + (1 : Int32)) nx0 ∧ ∃ d946 : Nat, ∃ v951 : Int32, ∃ σ947 : AH, d946 + 1 ≤ D ∧ Call X l m_X12_back d946 [.ref 124, .int (gI σ938 x0 (x3 + (1 : Int32)).toNatClampNeg)] σ938 (some (.int v951)) σ947 ∧ (if v942 = v951 then W_L_law_2038 X l D x0 x3 σ947 r σ' else (r = some (.int (0 : Int32)) ∧ σ' = σ947))
set_option maxRecDepth 100000 in
theorem w_L_law_1979 {X : Sx} {l : Launch} {D : Nat} {x0 : Nat} {x3 : Int32} {σ : AH} {r : Option Value} {σ' : AH} (hs : Sh σ) (h : W_L_law_1979 X l D x0 x3 σ r σ') : E X l m_L_law D 1979 [(0, .ref x0), (1, .ref 0), (2, .ref 124), (3, .int x3)] [] σ r σ' := by
  unfold W_L_law_1979 at h
  obtain ⟨nx0, hkx0, hbx0, h⟩ := h
  refine E_aload_n 1 dL_law_1979 rfl rfl ?_
  refine E_aload_n 0 dL_law_1980 rfl rfl ?_
  refine E_iload_n 3 dL_law_1981 rfl rfl ?_
  refine E_iconst (1 : Int32) dL_law_1982 (by decide) ?_
  refine E_iadd dL_law_1983 ?_
  obtain ⟨g936, h⟩ := h
  refine E_iald2 ((x3 + (1 : Int32)).toNatClampNeg) dL_law_1984 hkx0 hbx0 g936 rfl ?_
  obtain ⟨d937, v942, σ938, hD939, hC940, h⟩ := h
  have hs941 := hC940.1.2.2.2.1 hs
  have hk943 := (hC940.1.2.2.1 _ hbx0).trans hkx0
  have hb944 := Nat.lt_of_lt_of_le hbx0 hC940.1.1
  refine E_callV (As := [.int (gI σ x0 (x3 + (1 : Int32)).toNatClampNeg)]) (rest := []) (r1 := (some (.int v942))) (b := 0) dL_law_1985 ok_X11_back in_X11_back se_X11_back ml_L_186 hD939 rfl rfl (Nat.le_of_ble_eq_true rfl) (sk_0 hs) (sn hs (by decide)) (by decide) rfl (by decide +kernel) hC940 ?_
  refine E_aload_n 2 dL_law_1988 rfl rfl ?_
  refine E_aload_n 0 dL_law_1989 rfl rfl ?_
  refine E_iload_n 3 dL_law_1990 rfl rfl ?_
  refine E_iconst (1 : Int32) dL_law_1991 (by decide) ?_
  refine E_iadd dL_law_1992 ?_
  obtain ⟨g945, h⟩ := h
  refine E_iald2 ((x3 + (1 : Int32)).toNatClampNeg) dL_law_1993 hk943 hb944 g945 rfl ?_
  obtain ⟨d946, v951, σ947, hD948, hC949, h⟩ := h
  have hs950 := hC949.1.2.2.2.1 hs941
  have hk952 := (hC949.1.2.2.1 _ hb944).trans hk943
  have hb953 := Nat.lt_of_lt_of_le hb944 hC949.1.1
  refine E_callV (As := [.int (gI σ938 x0 (x3 + (1 : Int32)).toNatClampNeg)]) (rest := [.int v942]) (r1 := (some (.int v951))) (b := 124) dL_law_1994 ok_X12_back in_X12_back se_X12_back ml_L_189 hD948 rfl rfl (Nat.le_of_ble_eq_true rfl) (sk_124 hs941) (sn hs941 (by decide)) (by decide) rfl (by decide +kernel) hC949 ?_
  refine E_icmp_eq 2038 dL_law_1997 (by decide) (fun c => ?_) (fun c => ?_)
  · rw [if_pos c] at h
    exact E_lv [0, 1, 2, 3] rfl (w_L_law_2038 hs950 h)
  · rw [if_neg c] at h
    refine E_iconst (0 : Int32) dL_law_2000 (by decide) ?_
    obtain ⟨rfl, rfl⟩ := h
    exact E_zret dL_law_2001 rfl (Or.inl rfl)
def W_L_law_2002 (X : Sx) (l : Launch) (D : Nat) (x0 : Nat) (x3 : Int32) (σ : AH) (r : Option Value) (σ' : AH) : Prop := ∃ nx0 : Nat, kd σ x0 = (100, nx0) ∧ x0 < nx σ ∧ vp_in (x3 + (1 : Int32)) nx0 ∧ ∃ d955 : Nat, ∃ v960 : Int32, ∃ σ956 : AH, d955 + 1 ≤ D ∧ Call X l m_X11_count d955 [.ref 0, .int (gI σ x0 (x3 + (1 : Int32)).toNatClampNeg)] σ (some (.int v960)) σ956 ∧ vp_in (x3 + (1 : Int32)) nx0 ∧ ∃ d964 : Nat, ∃ v969 : Int32, ∃ σ965 : AH, d964 + 1 ≤ D ∧ Call X l m_X12_count d964 [.ref 124, .int (gI σ956 x0 (x3 + (1 : Int32)).toNatClampNeg)] σ956 (some (.int v969)) σ965 ∧ (if v960 = v969 then W_L_law_2038 X l D x0 x3 σ965 r σ' else (r = some (.int (0 : Int32)) ∧ σ' = σ965))
set_option maxRecDepth 100000 in
theorem w_L_law_2002 {X : Sx} {l : Launch} {D : Nat} {x0 : Nat} {x3 : Int32} {σ : AH} {r : Option Value} {σ' : AH} (hs : Sh σ) (h : W_L_law_2002 X l D x0 x3 σ r σ') : E X l m_L_law D 2002 [(0, .ref x0), (1, .ref 0), (2, .ref 124), (3, .int x3)] [] σ r σ' := by
  unfold W_L_law_2002 at h
  obtain ⟨nx0, hkx0, hbx0, h⟩ := h
  refine E_aload_n 1 dL_law_2002 rfl rfl ?_
  refine E_aload_n 0 dL_law_2003 rfl rfl ?_
  refine E_iload_n 3 dL_law_2004 rfl rfl ?_
  refine E_iconst (1 : Int32) dL_law_2005 (by decide) ?_
  refine E_iadd dL_law_2006 ?_
  obtain ⟨g954, h⟩ := h
  refine E_iald2 ((x3 + (1 : Int32)).toNatClampNeg) dL_law_2007 hkx0 hbx0 g954 rfl ?_
  obtain ⟨d955, v960, σ956, hD957, hC958, h⟩ := h
  have hs959 := hC958.1.2.2.2.1 hs
  have hk961 := (hC958.1.2.2.1 _ hbx0).trans hkx0
  have hb962 := Nat.lt_of_lt_of_le hbx0 hC958.1.1
  refine E_callV (As := [.int (gI σ x0 (x3 + (1 : Int32)).toNatClampNeg)]) (rest := []) (r1 := (some (.int v960))) (b := 0) dL_law_2008 ok_X11_count in_X11_count se_X11_count ml_L_190 hD957 rfl rfl (Nat.le_of_ble_eq_true rfl) (sk_0 hs) (sn hs (by decide)) (by decide) rfl (by decide +kernel) hC958 ?_
  refine E_aload_n 2 dL_law_2011 rfl rfl ?_
  refine E_aload_n 0 dL_law_2012 rfl rfl ?_
  refine E_iload_n 3 dL_law_2013 rfl rfl ?_
  refine E_iconst (1 : Int32) dL_law_2014 (by decide) ?_
  refine E_iadd dL_law_2015 ?_
  obtain ⟨g963, h⟩ := h
  refine E_iald2 ((x3 + (1 : Int32)).toNatClampNeg) dL_law_2016 hk961 hb962 g963 rfl ?_
  obtain ⟨d964, v969, σ965, hD966, hC967, h⟩ := h
  have hs968 := hC967.1.2.2.2.1 hs959
  have hk970 := (hC967.1.2.2.1 _ hb962).trans hk961
  have hb971 := Nat.lt_of_lt_of_le hb962 hC967.1.1
  refine E_callV (As := [.int (gI σ956 x0 (x3 + (1 : Int32)).toNatClampNeg)]) (rest := [.int v960]) (r1 := (some (.int v969))) (b := 124) dL_law_2017 ok_X12_count in_X12_count se_X12_count ml_L_193 hD966 rfl rfl (Nat.le_of_ble_eq_true rfl) (sk_124 hs959) (sn hs959 (by decide)) (by decide) rfl (by decide +kernel) hC967 ?_
  refine E_icmp_eq 2038 dL_law_2020 (by decide) (fun c => ?_) (fun c => ?_)
  · rw [if_pos c] at h
    exact E_lv [0, 1, 2, 3] rfl (w_L_law_2038 hs968 h)
  · rw [if_neg c] at h
    refine E_iconst (0 : Int32) dL_law_2023 (by decide) ?_
    obtain ⟨rfl, rfl⟩ := h
    exact E_zret dL_law_2024 rfl (Or.inl rfl)
def W_L_law_2025 (X : Sx) (l : Launch) (D : Nat) (x0 : Nat) (x3 : Int32) (σ : AH) (r : Option Value) (σ' : AH) : Prop := ∃ nx0 : Nat, kd σ x0 = (100, nx0) ∧ x0 < nx σ ∧ ∃ d972 : Nat, ∃ v977 : Int32, ∃ σ973 : AH, d972 + 1 ≤ D ∧ Call X l m_X11_status d972 [.ref 0] σ (some (.int v977)) σ973 ∧ ∃ d980 : Nat, ∃ v985 : Int32, ∃ σ981 : AH, d980 + 1 ≤ D ∧ Call X l m_X12_status d980 [.ref 124] σ973 (some (.int v985)) σ981 ∧ (if v977 = v985 then W_L_law_2038 X l D x0 x3 σ981 r σ' else (r = some (.int (0 : Int32)) ∧ σ' = σ981))
set_option maxRecDepth 100000 in
theorem w_L_law_2025 {X : Sx} {l : Launch} {D : Nat} {x0 : Nat} {x3 : Int32} {σ : AH} {r : Option Value} {σ' : AH} (hs : Sh σ) (h : W_L_law_2025 X l D x0 x3 σ r σ') : E X l m_L_law D 2025 [(0, .ref x0), (1, .ref 0), (2, .ref 124), (3, .int x3)] [] σ r σ' := by
  unfold W_L_law_2025 at h
  obtain ⟨nx0, hkx0, hbx0, h⟩ := h
  refine E_aload_n 1 dL_law_2025 rfl rfl ?_
  obtain ⟨d972, v977, σ973, hD974, hC975, h⟩ := h
  have hs976 := hC975.1.2.2.2.1 hs
  have hk978 := (hC975.1.2.2.1 _ hbx0).trans hkx0
  have hb979 := Nat.lt_of_lt_of_le hbx0 hC975.1.1
  refine E_callV (As := []) (rest := []) (r1 := (some (.int v977))) (b := 0) dL_law_2026 ok_X11_status in_X11_status se_X11_status ml_L_194 hD974 rfl rfl (Nat.le_of_ble_eq_true rfl) (sk_0 hs) (sn hs (by decide)) (by decide) rfl (by decide +kernel) hC975 ?_
  refine E_aload_n 2 dL_law_2029 rfl rfl ?_
  obtain ⟨d980, v985, σ981, hD982, hC983, h⟩ := h
  have hs984 := hC983.1.2.2.2.1 hs976
  have hk986 := (hC983.1.2.2.1 _ hb979).trans hk978
  have hb987 := Nat.lt_of_lt_of_le hb979 hC983.1.1
  refine E_callV (As := []) (rest := [.int v977]) (r1 := (some (.int v985))) (b := 124) dL_law_2030 ok_X12_status in_X12_status se_X12_status ml_L_197 hD982 rfl rfl (Nat.le_of_ble_eq_true rfl) (sk_124 hs976) (sn hs976 (by decide)) (by decide) rfl (by decide +kernel) hC983 ?_
  refine E_icmp_eq 2038 dL_law_2033 (by decide) (fun c => ?_) (fun c => ?_)
  · rw [if_pos c] at h
    exact E_lv [0, 1, 2, 3] rfl (w_L_law_2038 hs984 h)
  · rw [if_neg c] at h
    refine E_iconst (0 : Int32) dL_law_2036 (by decide) ?_
    obtain ⟨rfl, rfl⟩ := h
    exact E_zret dL_law_2037 rfl (Or.inl rfl)
def W_L_law_224 (X : Sx) (l : Launch) (D : Nat) (x0 : Nat) (x3 : Int32) (σ : AH) (r : Option Value) (σ' : AH) : Prop := ∃ nx0 : Nat, kd σ x0 = (100, nx0) ∧ x0 < nx σ ∧ vp_in (x3 + (1 : Int32)) nx0 ∧ vp_in (x3 + (2 : Int32)) nx0 ∧ vp_in (x3 + (3 : Int32)) nx0 ∧ vp_in (x3 + (4 : Int32)) nx0 ∧ vp_in (x3 + (5 : Int32)) nx0 ∧ ∃ d43 : Nat, ∃ v48 : Int32, ∃ σ44 : AH, d43 + 1 ≤ D ∧ Call X l m_X11_feed d43 [.ref 0, .int (gI σ x0 (x3 + (1 : Int32)).toNatClampNeg), .int (gI σ x0 (x3 + (2 : Int32)).toNatClampNeg), .int (gI σ x0 (x3 + (3 : Int32)).toNatClampNeg), .int (gI σ x0 (x3 + (4 : Int32)).toNatClampNeg), .int (gI σ x0 (x3 + (5 : Int32)).toNatClampNeg)] σ (some (.int v48)) σ44 ∧ vp_in (x3 + (1 : Int32)) nx0 ∧ vp_in (x3 + (2 : Int32)) nx0 ∧ vp_in (x3 + (3 : Int32)) nx0 ∧ vp_in (x3 + (4 : Int32)) nx0 ∧ vp_in (x3 + (5 : Int32)) nx0 ∧ ∃ d56 : Nat, ∃ v61 : Int32, ∃ σ57 : AH, d56 + 1 ≤ D ∧ Call X l m_X12_feed d56 [.ref 124, .int (gI σ44 x0 (x3 + (1 : Int32)).toNatClampNeg), .int (gI σ44 x0 (x3 + (2 : Int32)).toNatClampNeg), .int (gI σ44 x0 (x3 + (3 : Int32)).toNatClampNeg), .int (gI σ44 x0 (x3 + (4 : Int32)).toNatClampNeg), .int (gI σ44 x0 (x3 + (5 : Int32)).toNatClampNeg)] σ44 (some (.int v61)) σ57 ∧ (if v48 = v61 then W_L_law_2038 X l D x0 x3 σ57 r σ' else (r = some (.int (0 : Int32)) ∧ σ' = σ57))
set_option maxRecDepth 100000 in
theorem w_L_law_224 {X : Sx} {l : Launch} {D : Nat} {x0 : Nat} {x3 : Int32} {σ : AH} {r : Option Value} {σ' : AH} (hs : Sh σ) (h : W_L_law_224 X l D x0 x3 σ r σ') : E X l m_L_law D 224 [(0, .ref x0), (1, .ref 0), (2, .ref 124), (3, .int x3)] [] σ r σ' := by
  unfold W_L_law_224 at h
  obtain ⟨nx0, hkx0, hbx0, h⟩ := h
  refine E_aload_n 1 dL_law_224 rfl rfl ?_
  refine E_aload_n 0 dL_law_225 rfl rfl ?_
  refine E_iload_n 3 dL_law_226 rfl rfl ?_
  refine E_iconst (1 : Int32) dL_law_227 (by decide) ?_
  refine E_iadd dL_law_228 ?_
  obtain ⟨g38, h⟩ := h
  refine E_iald2 ((x3 + (1 : Int32)).toNatClampNeg) dL_law_229 hkx0 hbx0 g38 rfl ?_
  refine E_aload_n 0 dL_law_230 rfl rfl ?_
  refine E_iload_n 3 dL_law_231 rfl rfl ?_
  refine E_iconst (2 : Int32) dL_law_232 (by decide) ?_
  refine E_iadd dL_law_233 ?_
  obtain ⟨g39, h⟩ := h
  refine E_iald2 ((x3 + (2 : Int32)).toNatClampNeg) dL_law_234 hkx0 hbx0 g39 rfl ?_
  refine E_aload_n 0 dL_law_235 rfl rfl ?_
  refine E_iload_n 3 dL_law_236 rfl rfl ?_
  refine E_iconst (3 : Int32) dL_law_237 (by decide) ?_
  refine E_iadd dL_law_238 ?_
  obtain ⟨g40, h⟩ := h
  refine E_iald2 ((x3 + (3 : Int32)).toNatClampNeg) dL_law_239 hkx0 hbx0 g40 rfl ?_
  refine E_aload_n 0 dL_law_240 rfl rfl ?_
  refine E_iload_n 3 dL_law_241 rfl rfl ?_
  refine E_iconst (4 : Int32) dL_law_242 (by decide) ?_
  refine E_iadd dL_law_243 ?_
  obtain ⟨g41, h⟩ := h
  refine E_iald2 ((x3 + (4 : Int32)).toNatClampNeg) dL_law_244 hkx0 hbx0 g41 rfl ?_
  refine E_aload_n 0 dL_law_245 rfl rfl ?_
  refine E_iload_n 3 dL_law_246 rfl rfl ?_
  refine E_iconst (5 : Int32) dL_law_247 (by decide) ?_
  refine E_iadd dL_law_248 ?_
  obtain ⟨g42, h⟩ := h
  refine E_iald2 ((x3 + (5 : Int32)).toNatClampNeg) dL_law_249 hkx0 hbx0 g42 rfl ?_
  obtain ⟨d43, v48, σ44, hD45, hC46, h⟩ := h
  have hs47 := hC46.1.2.2.2.1 hs
  have hk49 := (hC46.1.2.2.1 _ hbx0).trans hkx0
  have hb50 := Nat.lt_of_lt_of_le hbx0 hC46.1.1
  refine E_callV (As := [.int (gI σ x0 (x3 + (1 : Int32)).toNatClampNeg), .int (gI σ x0 (x3 + (2 : Int32)).toNatClampNeg), .int (gI σ x0 (x3 + (3 : Int32)).toNatClampNeg), .int (gI σ x0 (x3 + (4 : Int32)).toNatClampNeg), .int (gI σ x0 (x3 + (5 : Int32)).toNatClampNeg)]) (rest := []) (r1 := (some (.int v48))) (b := 0) dL_law_250 ok_X11_feed in_X11_feed se_X11_feed ml_L_13 hD45 rfl rfl (Nat.le_of_ble_eq_true rfl) (sk_0 hs) (sn hs (by decide)) (by decide) rfl (by decide +kernel) hC46 ?_
  refine E_aload_n 2 dL_law_253 rfl rfl ?_
  refine E_aload_n 0 dL_law_254 rfl rfl ?_
  refine E_iload_n 3 dL_law_255 rfl rfl ?_
  refine E_iconst (1 : Int32) dL_law_256 (by decide) ?_
  refine E_iadd dL_law_257 ?_
  obtain ⟨g51, h⟩ := h
  refine E_iald2 ((x3 + (1 : Int32)).toNatClampNeg) dL_law_258 hk49 hb50 g51 rfl ?_
  refine E_aload_n 0 dL_law_259 rfl rfl ?_
  refine E_iload_n 3 dL_law_260 rfl rfl ?_
  refine E_iconst (2 : Int32) dL_law_261 (by decide) ?_
  refine E_iadd dL_law_262 ?_
  obtain ⟨g52, h⟩ := h
  refine E_iald2 ((x3 + (2 : Int32)).toNatClampNeg) dL_law_263 hk49 hb50 g52 rfl ?_
  refine E_aload_n 0 dL_law_264 rfl rfl ?_
  refine E_iload_n 3 dL_law_265 rfl rfl ?_
  refine E_iconst (3 : Int32) dL_law_266 (by decide) ?_
  refine E_iadd dL_law_267 ?_
  obtain ⟨g53, h⟩ := h
  refine E_iald2 ((x3 + (3 : Int32)).toNatClampNeg) dL_law_268 hk49 hb50 g53 rfl ?_
  refine E_aload_n 0 dL_law_269 rfl rfl ?_
  refine E_iload_n 3 dL_law_270 rfl rfl ?_
  refine E_iconst (4 : Int32) dL_law_271 (by decide) ?_
  refine E_iadd dL_law_272 ?_
  obtain ⟨g54, h⟩ := h
  refine E_iald2 ((x3 + (4 : Int32)).toNatClampNeg) dL_law_273 hk49 hb50 g54 rfl ?_
  refine E_aload_n 0 dL_law_274 rfl rfl ?_
  refine E_iload_n 3 dL_law_275 rfl rfl ?_
  refine E_iconst (5 : Int32) dL_law_276 (by decide) ?_
  refine E_iadd dL_law_277 ?_
  obtain ⟨g55, h⟩ := h
  refine E_iald2 ((x3 + (5 : Int32)).toNatClampNeg) dL_law_278 hk49 hb50 g55 rfl ?_
  obtain ⟨d56, v61, σ57, hD58, hC59, h⟩ := h
  have hs60 := hC59.1.2.2.2.1 hs47
  have hk62 := (hC59.1.2.2.1 _ hb50).trans hk49
  have hb63 := Nat.lt_of_lt_of_le hb50 hC59.1.1
  refine E_callV (As := [.int (gI σ44 x0 (x3 + (1 : Int32)).toNatClampNeg), .int (gI σ44 x0 (x3 + (2 : Int32)).toNatClampNeg), .int (gI σ44 x0 (x3 + (3 : Int32)).toNatClampNeg), .int (gI σ44 x0 (x3 + (4 : Int32)).toNatClampNeg), .int (gI σ44 x0 (x3 + (5 : Int32)).toNatClampNeg)]) (rest := [.int v48]) (r1 := (some (.int v61))) (b := 124) dL_law_279 ok_X12_feed in_X12_feed se_X12_feed ml_L_17 hD58 rfl rfl (Nat.le_of_ble_eq_true rfl) (sk_124 hs47) (sn hs47 (by decide)) (by decide) rfl (by decide +kernel) hC59 ?_
  refine E_icmp_eq 2038 dL_law_282 (by decide) (fun c => ?_) (fun c => ?_)
  · rw [if_pos c] at h
    exact E_lv [0, 1, 2, 3] rfl (w_L_law_2038 hs60 h)
  · rw [if_neg c] at h
    refine E_iconst (0 : Int32) dL_law_285 (by decide) ?_
    obtain ⟨rfl, rfl⟩ := h
    exact E_zret dL_law_286 rfl (Or.inl rfl)
def W_L_law_287 (X : Sx) (l : Launch) (D : Nat) (x0 : Nat) (x3 : Int32) (σ : AH) (r : Option Value) (σ' : AH) : Prop := ∃ nx0 : Nat, kd σ x0 = (100, nx0) ∧ x0 < nx σ ∧ vp_in (x3 + (1 : Int32)) nx0 ∧ ∃ d65 : Nat, ∃ v70 : Int32, ∃ σ66 : AH, d65 + 1 ≤ D ∧ Call X l m_X11_end d65 [.ref 0, .int (gI σ x0 (x3 + (1 : Int32)).toNatClampNeg)] σ (some (.int v70)) σ66 ∧ vp_in (x3 + (1 : Int32)) nx0 ∧ ∃ d74 : Nat, ∃ v79 : Int32, ∃ σ75 : AH, d74 + 1 ≤ D ∧ Call X l m_X12_end d74 [.ref 124, .int (gI σ66 x0 (x3 + (1 : Int32)).toNatClampNeg)] σ66 (some (.int v79)) σ75 ∧ (if v70 = v79 then W_L_law_2038 X l D x0 x3 σ75 r σ' else (r = some (.int (0 : Int32)) ∧ σ' = σ75))
set_option maxRecDepth 100000 in
theorem w_L_law_287 {X : Sx} {l : Launch} {D : Nat} {x0 : Nat} {x3 : Int32} {σ : AH} {r : Option Value} {σ' : AH} (hs : Sh σ) (h : W_L_law_287 X l D x0 x3 σ r σ') : E X l m_L_law D 287 [(0, .ref x0), (1, .ref 0), (2, .ref 124), (3, .int x3)] [] σ r σ' := by
  unfold W_L_law_287 at h
  obtain ⟨nx0, hkx0, hbx0, h⟩ := h
  refine E_aload_n 1 dL_law_287 rfl rfl ?_
  refine E_aload_n 0 dL_law_288 rfl rfl ?_
  refine E_iload_n 3 dL_law_289 rfl rfl ?_
  refine E_iconst (1 : Int32) dL_law_290 (by decide) ?_
  refine E_iadd dL_law_291 ?_
  obtain ⟨g64, h⟩ := h
  refine E_iald2 ((x3 + (1 : Int32)).toNatClampNeg) dL_law_292 hkx0 hbx0 g64 rfl ?_
  obtain ⟨d65, v70, σ66, hD67, hC68, h⟩ := h
  have hs69 := hC68.1.2.2.2.1 hs
  have hk71 := (hC68.1.2.2.1 _ hbx0).trans hkx0
  have hb72 := Nat.lt_of_lt_of_le hbx0 hC68.1.1
  refine E_callV (As := [.int (gI σ x0 (x3 + (1 : Int32)).toNatClampNeg)]) (rest := []) (r1 := (some (.int v70))) (b := 0) dL_law_293 ok_X11_end in_X11_end se_X11_end ml_L_18 hD67 rfl rfl (Nat.le_of_ble_eq_true rfl) (sk_0 hs) (sn hs (by decide)) (by decide) rfl (by decide +kernel) hC68 ?_
  refine E_aload_n 2 dL_law_296 rfl rfl ?_
  refine E_aload_n 0 dL_law_297 rfl rfl ?_
  refine E_iload_n 3 dL_law_298 rfl rfl ?_
  refine E_iconst (1 : Int32) dL_law_299 (by decide) ?_
  refine E_iadd dL_law_300 ?_
  obtain ⟨g73, h⟩ := h
  refine E_iald2 ((x3 + (1 : Int32)).toNatClampNeg) dL_law_301 hk71 hb72 g73 rfl ?_
  obtain ⟨d74, v79, σ75, hD76, hC77, h⟩ := h
  have hs78 := hC77.1.2.2.2.1 hs69
  have hk80 := (hC77.1.2.2.1 _ hb72).trans hk71
  have hb81 := Nat.lt_of_lt_of_le hb72 hC77.1.1
  refine E_callV (As := [.int (gI σ66 x0 (x3 + (1 : Int32)).toNatClampNeg)]) (rest := [.int v70]) (r1 := (some (.int v79))) (b := 124) dL_law_302 ok_X12_end in_X12_end se_X12_end ml_L_22 hD76 rfl rfl (Nat.le_of_ble_eq_true rfl) (sk_124 hs69) (sn hs69 (by decide)) (by decide) rfl (by decide +kernel) hC77 ?_
  refine E_icmp_eq 2038 dL_law_305 (by decide) (fun c => ?_) (fun c => ?_)
  · rw [if_pos c] at h
    exact E_lv [0, 1, 2, 3] rfl (w_L_law_2038 hs78 h)
  · rw [if_neg c] at h
    refine E_iconst (0 : Int32) dL_law_308 (by decide) ?_
    obtain ⟨rfl, rfl⟩ := h
    exact E_zret dL_law_309 rfl (Or.inl rfl)
def W_L_law_310 (X : Sx) (l : Launch) (D : Nat) (x0 : Nat) (x3 : Int32) (σ : AH) (r : Option Value) (σ' : AH) : Prop := ∃ nx0 : Nat, kd σ x0 = (100, nx0) ∧ x0 < nx σ ∧ vp_in (x3 + (1 : Int32)) nx0 ∧ vp_in (x3 + (2 : Int32)) nx0 ∧ ∃ d84 : Nat, ∃ v89 : Int32, ∃ σ85 : AH, d84 + 1 ≤ D ∧ Call X l m_X11_act d84 [.ref 0, .int (gI σ x0 (x3 + (1 : Int32)).toNatClampNeg), .int (gI σ x0 (x3 + (2 : Int32)).toNatClampNeg)] σ (some (.int v89)) σ85 ∧ vp_in (x3 + (1 : Int32)) nx0 ∧ vp_in (x3 + (2 : Int32)) nx0 ∧ ∃ d94 : Nat, ∃ v99 : Int32, ∃ σ95 : AH, d94 + 1 ≤ D ∧ Call X l m_X12_act d94 [.ref 124, .int (gI σ85 x0 (x3 + (1 : Int32)).toNatClampNeg), .int (gI σ85 x0 (x3 + (2 : Int32)).toNatClampNeg)] σ85 (some (.int v99)) σ95 ∧ (if v89 = v99 then W_L_law_2038 X l D x0 x3 σ95 r σ' else (r = some (.int (0 : Int32)) ∧ σ' = σ95))
set_option maxRecDepth 100000 in
theorem w_L_law_310 {X : Sx} {l : Launch} {D : Nat} {x0 : Nat} {x3 : Int32} {σ : AH} {r : Option Value} {σ' : AH} (hs : Sh σ) (h : W_L_law_310 X l D x0 x3 σ r σ') : E X l m_L_law D 310 [(0, .ref x0), (1, .ref 0), (2, .ref 124), (3, .int x3)] [] σ r σ' := by
  unfold W_L_law_310 at h
  obtain ⟨nx0, hkx0, hbx0, h⟩ := h
  refine E_aload_n 1 dL_law_310 rfl rfl ?_
  refine E_aload_n 0 dL_law_311 rfl rfl ?_
  refine E_iload_n 3 dL_law_312 rfl rfl ?_
  refine E_iconst (1 : Int32) dL_law_313 (by decide) ?_
  refine E_iadd dL_law_314 ?_
  obtain ⟨g82, h⟩ := h
  refine E_iald2 ((x3 + (1 : Int32)).toNatClampNeg) dL_law_315 hkx0 hbx0 g82 rfl ?_
  refine E_aload_n 0 dL_law_316 rfl rfl ?_
  refine E_iload_n 3 dL_law_317 rfl rfl ?_
  refine E_iconst (2 : Int32) dL_law_318 (by decide) ?_
  refine E_iadd dL_law_319 ?_
  obtain ⟨g83, h⟩ := h
  refine E_iald2 ((x3 + (2 : Int32)).toNatClampNeg) dL_law_320 hkx0 hbx0 g83 rfl ?_
  obtain ⟨d84, v89, σ85, hD86, hC87, h⟩ := h
  have hs88 := hC87.1.2.2.2.1 hs
  have hk90 := (hC87.1.2.2.1 _ hbx0).trans hkx0
  have hb91 := Nat.lt_of_lt_of_le hbx0 hC87.1.1
  refine E_callV (As := [.int (gI σ x0 (x3 + (1 : Int32)).toNatClampNeg), .int (gI σ x0 (x3 + (2 : Int32)).toNatClampNeg)]) (rest := []) (r1 := (some (.int v89))) (b := 0) dL_law_321 ok_X11_act in_X11_act se_X11_act ml_L_23 hD86 rfl rfl (Nat.le_of_ble_eq_true rfl) (sk_0 hs) (sn hs (by decide)) (by decide) rfl (by decide +kernel) hC87 ?_
  refine E_aload_n 2 dL_law_324 rfl rfl ?_
  refine E_aload_n 0 dL_law_325 rfl rfl ?_
  refine E_iload_n 3 dL_law_326 rfl rfl ?_
  refine E_iconst (1 : Int32) dL_law_327 (by decide) ?_
  refine E_iadd dL_law_328 ?_
  obtain ⟨g92, h⟩ := h
  refine E_iald2 ((x3 + (1 : Int32)).toNatClampNeg) dL_law_329 hk90 hb91 g92 rfl ?_
  refine E_aload_n 0 dL_law_330 rfl rfl ?_
  refine E_iload_n 3 dL_law_331 rfl rfl ?_
  refine E_iconst (2 : Int32) dL_law_332 (by decide) ?_
  refine E_iadd dL_law_333 ?_
  obtain ⟨g93, h⟩ := h
  refine E_iald2 ((x3 + (2 : Int32)).toNatClampNeg) dL_law_334 hk90 hb91 g93 rfl ?_
  obtain ⟨d94, v99, σ95, hD96, hC97, h⟩ := h
  have hs98 := hC97.1.2.2.2.1 hs88
  have hk100 := (hC97.1.2.2.1 _ hb91).trans hk90
  have hb101 := Nat.lt_of_lt_of_le hb91 hC97.1.1
  refine E_callV (As := [.int (gI σ85 x0 (x3 + (1 : Int32)).toNatClampNeg), .int (gI σ85 x0 (x3 + (2 : Int32)).toNatClampNeg)]) (rest := [.int v89]) (r1 := (some (.int v99))) (b := 124) dL_law_335 ok_X12_act in_X12_act se_X12_act ml_L_27 hD96 rfl rfl (Nat.le_of_ble_eq_true rfl) (sk_124 hs88) (sn hs88 (by decide)) (by decide) rfl (by decide +kernel) hC97 ?_
  refine E_icmp_eq 2038 dL_law_338 (by decide) (fun c => ?_) (fun c => ?_)
  · rw [if_pos c] at h
    exact E_lv [0, 1, 2, 3] rfl (w_L_law_2038 hs98 h)
  · rw [if_neg c] at h
    refine E_iconst (0 : Int32) dL_law_341 (by decide) ?_
    obtain ⟨rfl, rfl⟩ := h
    exact E_zret dL_law_342 rfl (Or.inl rfl)
def W_L_law_343 (X : Sx) (l : Launch) (D : Nat) (x0 : Nat) (x3 : Int32) (σ : AH) (r : Option Value) (σ' : AH) : Prop := ∃ nx0 : Nat, kd σ x0 = (100, nx0) ∧ x0 < nx σ ∧ ∃ d102 : Nat, ∃ v107 : Int32, ∃ σ103 : AH, d102 + 1 ≤ D ∧ Call X l m_X11_fault d102 [.ref 0] σ (some (.int v107)) σ103 ∧ ∃ d110 : Nat, ∃ v115 : Int32, ∃ σ111 : AH, d110 + 1 ≤ D ∧ Call X l m_X12_fault d110 [.ref 124] σ103 (some (.int v115)) σ111 ∧ (if v107 = v115 then W_L_law_2038 X l D x0 x3 σ111 r σ' else (r = some (.int (0 : Int32)) ∧ σ' = σ111))
set_option maxRecDepth 100000 in
theorem w_L_law_343 {X : Sx} {l : Launch} {D : Nat} {x0 : Nat} {x3 : Int32} {σ : AH} {r : Option Value} {σ' : AH} (hs : Sh σ) (h : W_L_law_343 X l D x0 x3 σ r σ') : E X l m_L_law D 343 [(0, .ref x0), (1, .ref 0), (2, .ref 124), (3, .int x3)] [] σ r σ' := by
  unfold W_L_law_343 at h
  obtain ⟨nx0, hkx0, hbx0, h⟩ := h
  refine E_aload_n 1 dL_law_343 rfl rfl ?_
  obtain ⟨d102, v107, σ103, hD104, hC105, h⟩ := h
  have hs106 := hC105.1.2.2.2.1 hs
  have hk108 := (hC105.1.2.2.1 _ hbx0).trans hkx0
  have hb109 := Nat.lt_of_lt_of_le hbx0 hC105.1.1
  refine E_callV (As := []) (rest := []) (r1 := (some (.int v107))) (b := 0) dL_law_344 ok_X11_fault in_X11_fault se_X11_fault ml_L_28 hD104 rfl rfl (Nat.le_of_ble_eq_true rfl) (sk_0 hs) (sn hs (by decide)) (by decide) rfl (by decide +kernel) hC105 ?_
  refine E_aload_n 2 dL_law_347 rfl rfl ?_
  obtain ⟨d110, v115, σ111, hD112, hC113, h⟩ := h
  have hs114 := hC113.1.2.2.2.1 hs106
  have hk116 := (hC113.1.2.2.1 _ hb109).trans hk108
  have hb117 := Nat.lt_of_lt_of_le hb109 hC113.1.1
  refine E_callV (As := []) (rest := [.int v107]) (r1 := (some (.int v115))) (b := 124) dL_law_348 ok_X12_fault in_X12_fault se_X12_fault ml_L_32 hD112 rfl rfl (Nat.le_of_ble_eq_true rfl) (sk_124 hs106) (sn hs106 (by decide)) (by decide) rfl (by decide +kernel) hC113 ?_
  refine E_icmp_eq 2038 dL_law_351 (by decide) (fun c => ?_) (fun c => ?_)
  · rw [if_pos c] at h
    exact E_lv [0, 1, 2, 3] rfl (w_L_law_2038 hs114 h)
  · rw [if_neg c] at h
    refine E_iconst (0 : Int32) dL_law_354 (by decide) ?_
    obtain ⟨rfl, rfl⟩ := h
    exact E_zret dL_law_355 rfl (Or.inl rfl)
def W_L_law_356 (X : Sx) (l : Launch) (D : Nat) (x0 : Nat) (x3 : Int32) (σ : AH) (r : Option Value) (σ' : AH) : Prop := ∃ nx0 : Nat, kd σ x0 = (100, nx0) ∧ x0 < nx σ ∧ vp_in (x3 + (1 : Int32)) nx0 ∧ vp_in (x3 + (2 : Int32)) nx0 ∧ vp_in (x3 + (3 : Int32)) nx0 ∧ vp_in (x3 + (4 : Int32)) nx0 ∧ ∃ d122 : Nat, ∃ v127 : Int32, ∃ σ123 : AH, d122 + 1 ≤ D ∧ Call X l m_X11_force d122 [.ref 0, .int (gI σ x0 (x3 + (1 : Int32)).toNatClampNeg), .int (gI σ x0 (x3 + (2 : Int32)).toNatClampNeg), .int (gI σ x0 (x3 + (3 : Int32)).toNatClampNeg), .int (gI σ x0 (x3 + (4 : Int32)).toNatClampNeg)] σ (some (.int v127)) σ123 ∧ vp_in (x3 + (1 : Int32)) nx0 ∧ vp_in (x3 + (2 : Int32)) nx0 ∧ vp_in (x3 + (3 : Int32)) nx0 ∧ vp_in (x3 + (4 : Int32)) nx0 ∧ ∃ d134 : Nat, ∃ v139 : Int32, ∃ σ135 : AH, d134 + 1 ≤ D ∧ Call X l m_X12_force d134 [.ref 124, .int (gI σ123 x0 (x3 + (1 : Int32)).toNatClampNeg), .int (gI σ123 x0 (x3 + (2 : Int32)).toNatClampNeg), .int (gI σ123 x0 (x3 + (3 : Int32)).toNatClampNeg), .int (gI σ123 x0 (x3 + (4 : Int32)).toNatClampNeg)] σ123 (some (.int v139)) σ135 ∧ (if v127 = v139 then W_L_law_2038 X l D x0 x3 σ135 r σ' else (r = some (.int (0 : Int32)) ∧ σ' = σ135))
set_option maxRecDepth 100000 in
theorem w_L_law_356 {X : Sx} {l : Launch} {D : Nat} {x0 : Nat} {x3 : Int32} {σ : AH} {r : Option Value} {σ' : AH} (hs : Sh σ) (h : W_L_law_356 X l D x0 x3 σ r σ') : E X l m_L_law D 356 [(0, .ref x0), (1, .ref 0), (2, .ref 124), (3, .int x3)] [] σ r σ' := by
  unfold W_L_law_356 at h
  obtain ⟨nx0, hkx0, hbx0, h⟩ := h
  refine E_aload_n 1 dL_law_356 rfl rfl ?_
  refine E_aload_n 0 dL_law_357 rfl rfl ?_
  refine E_iload_n 3 dL_law_358 rfl rfl ?_
  refine E_iconst (1 : Int32) dL_law_359 (by decide) ?_
  refine E_iadd dL_law_360 ?_
  obtain ⟨g118, h⟩ := h
  refine E_iald2 ((x3 + (1 : Int32)).toNatClampNeg) dL_law_361 hkx0 hbx0 g118 rfl ?_
  refine E_aload_n 0 dL_law_362 rfl rfl ?_
  refine E_iload_n 3 dL_law_363 rfl rfl ?_
  refine E_iconst (2 : Int32) dL_law_364 (by decide) ?_
  refine E_iadd dL_law_365 ?_
  obtain ⟨g119, h⟩ := h
  refine E_iald2 ((x3 + (2 : Int32)).toNatClampNeg) dL_law_366 hkx0 hbx0 g119 rfl ?_
  refine E_aload_n 0 dL_law_367 rfl rfl ?_
  refine E_iload_n 3 dL_law_368 rfl rfl ?_
  refine E_iconst (3 : Int32) dL_law_369 (by decide) ?_
  refine E_iadd dL_law_370 ?_
  obtain ⟨g120, h⟩ := h
  refine E_iald2 ((x3 + (3 : Int32)).toNatClampNeg) dL_law_371 hkx0 hbx0 g120 rfl ?_
  refine E_aload_n 0 dL_law_372 rfl rfl ?_
  refine E_iload_n 3 dL_law_373 rfl rfl ?_
  refine E_iconst (4 : Int32) dL_law_374 (by decide) ?_
  refine E_iadd dL_law_375 ?_
  obtain ⟨g121, h⟩ := h
  refine E_iald2 ((x3 + (4 : Int32)).toNatClampNeg) dL_law_376 hkx0 hbx0 g121 rfl ?_
  obtain ⟨d122, v127, σ123, hD124, hC125, h⟩ := h
  have hs126 := hC125.1.2.2.2.1 hs
  have hk128 := (hC125.1.2.2.1 _ hbx0).trans hkx0
  have hb129 := Nat.lt_of_lt_of_le hbx0 hC125.1.1
  refine E_callV (As := [.int (gI σ x0 (x3 + (1 : Int32)).toNatClampNeg), .int (gI σ x0 (x3 + (2 : Int32)).toNatClampNeg), .int (gI σ x0 (x3 + (3 : Int32)).toNatClampNeg), .int (gI σ x0 (x3 + (4 : Int32)).toNatClampNeg)]) (rest := []) (r1 := (some (.int v127))) (b := 0) dL_law_377 ok_X11_force in_X11_force se_X11_force ml_L_33 hD124 rfl rfl (Nat.le_of_ble_eq_true rfl) (sk_0 hs) (sn hs (by decide)) (by decide) rfl (by decide +kernel) hC125 ?_
  refine E_aload_n 2 dL_law_380 rfl rfl ?_
  refine E_aload_n 0 dL_law_381 rfl rfl ?_
  refine E_iload_n 3 dL_law_382 rfl rfl ?_
  refine E_iconst (1 : Int32) dL_law_383 (by decide) ?_
  refine E_iadd dL_law_384 ?_
  obtain ⟨g130, h⟩ := h
  refine E_iald2 ((x3 + (1 : Int32)).toNatClampNeg) dL_law_385 hk128 hb129 g130 rfl ?_
  refine E_aload_n 0 dL_law_386 rfl rfl ?_
  refine E_iload_n 3 dL_law_387 rfl rfl ?_
  refine E_iconst (2 : Int32) dL_law_388 (by decide) ?_
  refine E_iadd dL_law_389 ?_
  obtain ⟨g131, h⟩ := h
  refine E_iald2 ((x3 + (2 : Int32)).toNatClampNeg) dL_law_390 hk128 hb129 g131 rfl ?_
  refine E_aload_n 0 dL_law_391 rfl rfl ?_
  refine E_iload_n 3 dL_law_392 rfl rfl ?_
  refine E_iconst (3 : Int32) dL_law_393 (by decide) ?_
  refine E_iadd dL_law_394 ?_
  obtain ⟨g132, h⟩ := h
  refine E_iald2 ((x3 + (3 : Int32)).toNatClampNeg) dL_law_395 hk128 hb129 g132 rfl ?_
  refine E_aload_n 0 dL_law_396 rfl rfl ?_
  refine E_iload_n 3 dL_law_397 rfl rfl ?_
  refine E_iconst (4 : Int32) dL_law_398 (by decide) ?_
  refine E_iadd dL_law_399 ?_
  obtain ⟨g133, h⟩ := h
  refine E_iald2 ((x3 + (4 : Int32)).toNatClampNeg) dL_law_400 hk128 hb129 g133 rfl ?_
  obtain ⟨d134, v139, σ135, hD136, hC137, h⟩ := h
  have hs138 := hC137.1.2.2.2.1 hs126
  have hk140 := (hC137.1.2.2.1 _ hb129).trans hk128
  have hb141 := Nat.lt_of_lt_of_le hb129 hC137.1.1
  refine E_callV (As := [.int (gI σ123 x0 (x3 + (1 : Int32)).toNatClampNeg), .int (gI σ123 x0 (x3 + (2 : Int32)).toNatClampNeg), .int (gI σ123 x0 (x3 + (3 : Int32)).toNatClampNeg), .int (gI σ123 x0 (x3 + (4 : Int32)).toNatClampNeg)]) (rest := [.int v127]) (r1 := (some (.int v139))) (b := 124) dL_law_401 ok_X12_force in_X12_force se_X12_force ml_L_37 hD136 rfl rfl (Nat.le_of_ble_eq_true rfl) (sk_124 hs126) (sn hs126 (by decide)) (by decide) rfl (by decide +kernel) hC137 ?_
  refine E_icmp_eq 2038 dL_law_404 (by decide) (fun c => ?_) (fun c => ?_)
  · rw [if_pos c] at h
    exact E_lv [0, 1, 2, 3] rfl (w_L_law_2038 hs138 h)
  · rw [if_neg c] at h
    refine E_iconst (0 : Int32) dL_law_407 (by decide) ?_
    obtain ⟨rfl, rfl⟩ := h
    exact E_zret dL_law_408 rfl (Or.inl rfl)
def W_L_law_409 (X : Sx) (l : Launch) (D : Nat) (x0 : Nat) (x3 : Int32) (σ : AH) (r : Option Value) (σ' : AH) : Prop := ∃ nx0 : Nat, kd σ x0 = (100, nx0) ∧ x0 < nx σ ∧ vp_in (x3 + (1 : Int32)) nx0 ∧ vp_in (x3 + (2 : Int32)) nx0 ∧ vp_in (x3 + (3 : Int32)) nx0 ∧ ∃ d145 : Nat, ∃ v150 : Int32, ∃ σ146 : AH, d145 + 1 ≤ D ∧ Call X l m_X11_counts d145 [.ref 0, .int (gI σ x0 (x3 + (1 : Int32)).toNatClampNeg), .int (gI σ x0 (x3 + (2 : Int32)).toNatClampNeg), .int (gI σ x0 (x3 + (3 : Int32)).toNatClampNeg)] σ (some (.int v150)) σ146 ∧ vp_in (x3 + (1 : Int32)) nx0 ∧ vp_in (x3 + (2 : Int32)) nx0 ∧ vp_in (x3 + (3 : Int32)) nx0 ∧ ∃ d156 : Nat, ∃ v161 : Int32, ∃ σ157 : AH, d156 + 1 ≤ D ∧ Call X l m_X12_counts d156 [.ref 124, .int (gI σ146 x0 (x3 + (1 : Int32)).toNatClampNeg), .int (gI σ146 x0 (x3 + (2 : Int32)).toNatClampNeg), .int (gI σ146 x0 (x3 + (3 : Int32)).toNatClampNeg)] σ146 (some (.int v161)) σ157 ∧ (if v150 = v161 then W_L_law_2038 X l D x0 x3 σ157 r σ' else (r = some (.int (0 : Int32)) ∧ σ' = σ157))
set_option maxRecDepth 100000 in
theorem w_L_law_409 {X : Sx} {l : Launch} {D : Nat} {x0 : Nat} {x3 : Int32} {σ : AH} {r : Option Value} {σ' : AH} (hs : Sh σ) (h : W_L_law_409 X l D x0 x3 σ r σ') : E X l m_L_law D 409 [(0, .ref x0), (1, .ref 0), (2, .ref 124), (3, .int x3)] [] σ r σ' := by
  unfold W_L_law_409 at h
  obtain ⟨nx0, hkx0, hbx0, h⟩ := h
  refine E_aload_n 1 dL_law_409 rfl rfl ?_
  refine E_aload_n 0 dL_law_410 rfl rfl ?_
  refine E_iload_n 3 dL_law_411 rfl rfl ?_
  refine E_iconst (1 : Int32) dL_law_412 (by decide) ?_
  refine E_iadd dL_law_413 ?_
  obtain ⟨g142, h⟩ := h
  refine E_iald2 ((x3 + (1 : Int32)).toNatClampNeg) dL_law_414 hkx0 hbx0 g142 rfl ?_
  refine E_aload_n 0 dL_law_415 rfl rfl ?_
  refine E_iload_n 3 dL_law_416 rfl rfl ?_
  refine E_iconst (2 : Int32) dL_law_417 (by decide) ?_
  refine E_iadd dL_law_418 ?_
  obtain ⟨g143, h⟩ := h
  refine E_iald2 ((x3 + (2 : Int32)).toNatClampNeg) dL_law_419 hkx0 hbx0 g143 rfl ?_
  refine E_aload_n 0 dL_law_420 rfl rfl ?_
  refine E_iload_n 3 dL_law_421 rfl rfl ?_
  refine E_iconst (3 : Int32) dL_law_422 (by decide) ?_
  refine E_iadd dL_law_423 ?_
  obtain ⟨g144, h⟩ := h
  refine E_iald2 ((x3 + (3 : Int32)).toNatClampNeg) dL_law_424 hkx0 hbx0 g144 rfl ?_
  obtain ⟨d145, v150, σ146, hD147, hC148, h⟩ := h
  have hs149 := hC148.1.2.2.2.1 hs
  have hk151 := (hC148.1.2.2.1 _ hbx0).trans hkx0
  have hb152 := Nat.lt_of_lt_of_le hbx0 hC148.1.1
  refine E_callV (As := [.int (gI σ x0 (x3 + (1 : Int32)).toNatClampNeg), .int (gI σ x0 (x3 + (2 : Int32)).toNatClampNeg), .int (gI σ x0 (x3 + (3 : Int32)).toNatClampNeg)]) (rest := []) (r1 := (some (.int v150))) (b := 0) dL_law_425 ok_X11_counts in_X11_counts se_X11_counts ml_L_38 hD147 rfl rfl (Nat.le_of_ble_eq_true rfl) (sk_0 hs) (sn hs (by decide)) (by decide) rfl (by decide +kernel) hC148 ?_
  refine E_aload_n 2 dL_law_428 rfl rfl ?_
  refine E_aload_n 0 dL_law_429 rfl rfl ?_
  refine E_iload_n 3 dL_law_430 rfl rfl ?_
  refine E_iconst (1 : Int32) dL_law_431 (by decide) ?_
  refine E_iadd dL_law_432 ?_
  obtain ⟨g153, h⟩ := h
  refine E_iald2 ((x3 + (1 : Int32)).toNatClampNeg) dL_law_433 hk151 hb152 g153 rfl ?_
  refine E_aload_n 0 dL_law_434 rfl rfl ?_
  refine E_iload_n 3 dL_law_435 rfl rfl ?_
  refine E_iconst (2 : Int32) dL_law_436 (by decide) ?_
  refine E_iadd dL_law_437 ?_
  obtain ⟨g154, h⟩ := h
  refine E_iald2 ((x3 + (2 : Int32)).toNatClampNeg) dL_law_438 hk151 hb152 g154 rfl ?_
  refine E_aload_n 0 dL_law_439 rfl rfl ?_
  refine E_iload_n 3 dL_law_440 rfl rfl ?_
  refine E_iconst (3 : Int32) dL_law_441 (by decide) ?_
  refine E_iadd dL_law_442 ?_
  obtain ⟨g155, h⟩ := h
  refine E_iald2 ((x3 + (3 : Int32)).toNatClampNeg) dL_law_443 hk151 hb152 g155 rfl ?_
  obtain ⟨d156, v161, σ157, hD158, hC159, h⟩ := h
  have hs160 := hC159.1.2.2.2.1 hs149
  have hk162 := (hC159.1.2.2.1 _ hb152).trans hk151
  have hb163 := Nat.lt_of_lt_of_le hb152 hC159.1.1
  refine E_callV (As := [.int (gI σ146 x0 (x3 + (1 : Int32)).toNatClampNeg), .int (gI σ146 x0 (x3 + (2 : Int32)).toNatClampNeg), .int (gI σ146 x0 (x3 + (3 : Int32)).toNatClampNeg)]) (rest := [.int v150]) (r1 := (some (.int v161))) (b := 124) dL_law_444 ok_X12_counts in_X12_counts se_X12_counts ml_L_42 hD158 rfl rfl (Nat.le_of_ble_eq_true rfl) (sk_124 hs149) (sn hs149 (by decide)) (by decide) rfl (by decide +kernel) hC159 ?_
  refine E_icmp_eq 2038 dL_law_447 (by decide) (fun c => ?_) (fun c => ?_)
  · rw [if_pos c] at h
    exact E_lv [0, 1, 2, 3] rfl (w_L_law_2038 hs160 h)
  · rw [if_neg c] at h
    refine E_iconst (0 : Int32) dL_law_450 (by decide) ?_
    obtain ⟨rfl, rfl⟩ := h
    exact E_zret dL_law_451 rfl (Or.inl rfl)
def W_L_law_452 (X : Sx) (l : Launch) (D : Nat) (x0 : Nat) (x3 : Int32) (σ : AH) (r : Option Value) (σ' : AH) : Prop := ∃ nx0 : Nat, kd σ x0 = (100, nx0) ∧ x0 < nx σ ∧ vp_in (x3 + (1 : Int32)) nx0 ∧ vp_in (x3 + (2 : Int32)) nx0 ∧ vp_in (x3 + (3 : Int32)) nx0 ∧ vp_in (x3 + (4 : Int32)) nx0 ∧ vp_in (x3 + (5 : Int32)) nx0 ∧ vp_in (x3 + (6 : Int32)) nx0 ∧ ∃ d170 : Nat, ∃ v175 : Int32, ∃ σ171 : AH, d170 + 1 ≤ D ∧ Call X l m_X11_need d170 [.ref 0, .int (gI σ x0 (x3 + (1 : Int32)).toNatClampNeg), .int (gI σ x0 (x3 + (2 : Int32)).toNatClampNeg), .int (gI σ x0 (x3 + (3 : Int32)).toNatClampNeg), .int (gI σ x0 (x3 + (4 : Int32)).toNatClampNeg), .int (gI σ x0 (x3 + (5 : Int32)).toNatClampNeg), .int (gI σ x0 (x3 + (6 : Int32)).toNatClampNeg)] σ (some (.int v175)) σ171 ∧ vp_in (x3 + (1 : Int32)) nx0 ∧ vp_in (x3 + (2 : Int32)) nx0 ∧ vp_in (x3 + (3 : Int32)) nx0 ∧ vp_in (x3 + (4 : Int32)) nx0 ∧ vp_in (x3 + (5 : Int32)) nx0 ∧ vp_in (x3 + (6 : Int32)) nx0 ∧ ∃ d184 : Nat, ∃ v189 : Int32, ∃ σ185 : AH, d184 + 1 ≤ D ∧ Call X l m_X12_need d184 [.ref 124, .int (gI σ171 x0 (x3 + (1 : Int32)).toNatClampNeg), .int (gI σ171 x0 (x3 + (2 : Int32)).toNatClampNeg), .int (gI σ171 x0 (x3 + (3 : Int32)).toNatClampNeg), .int (gI σ171 x0 (x3 + (4 : Int32)).toNatClampNeg), .int (gI σ171 x0 (x3 + (5 : Int32)).toNatClampNeg), .int (gI σ171 x0 (x3 + (6 : Int32)).toNatClampNeg)] σ171 (some (.int v189)) σ185 ∧ (if v175 = v189 then W_L_law_2038 X l D x0 x3 σ185 r σ' else (r = some (.int (0 : Int32)) ∧ σ' = σ185))
set_option maxRecDepth 100000 in
theorem w_L_law_452 {X : Sx} {l : Launch} {D : Nat} {x0 : Nat} {x3 : Int32} {σ : AH} {r : Option Value} {σ' : AH} (hs : Sh σ) (h : W_L_law_452 X l D x0 x3 σ r σ') : E X l m_L_law D 452 [(0, .ref x0), (1, .ref 0), (2, .ref 124), (3, .int x3)] [] σ r σ' := by
  unfold W_L_law_452 at h
  obtain ⟨nx0, hkx0, hbx0, h⟩ := h
  refine E_aload_n 1 dL_law_452 rfl rfl ?_
  refine E_aload_n 0 dL_law_453 rfl rfl ?_
  refine E_iload_n 3 dL_law_454 rfl rfl ?_
  refine E_iconst (1 : Int32) dL_law_455 (by decide) ?_
  refine E_iadd dL_law_456 ?_
  obtain ⟨g164, h⟩ := h
  refine E_iald2 ((x3 + (1 : Int32)).toNatClampNeg) dL_law_457 hkx0 hbx0 g164 rfl ?_
  refine E_aload_n 0 dL_law_458 rfl rfl ?_
  refine E_iload_n 3 dL_law_459 rfl rfl ?_
  refine E_iconst (2 : Int32) dL_law_460 (by decide) ?_
  refine E_iadd dL_law_461 ?_
  obtain ⟨g165, h⟩ := h
  refine E_iald2 ((x3 + (2 : Int32)).toNatClampNeg) dL_law_462 hkx0 hbx0 g165 rfl ?_
  refine E_aload_n 0 dL_law_463 rfl rfl ?_
  refine E_iload_n 3 dL_law_464 rfl rfl ?_
  refine E_iconst (3 : Int32) dL_law_465 (by decide) ?_
  refine E_iadd dL_law_466 ?_
  obtain ⟨g166, h⟩ := h
  refine E_iald2 ((x3 + (3 : Int32)).toNatClampNeg) dL_law_467 hkx0 hbx0 g166 rfl ?_
  refine E_aload_n 0 dL_law_468 rfl rfl ?_
  refine E_iload_n 3 dL_law_469 rfl rfl ?_
  refine E_iconst (4 : Int32) dL_law_470 (by decide) ?_
  refine E_iadd dL_law_471 ?_
  obtain ⟨g167, h⟩ := h
  refine E_iald2 ((x3 + (4 : Int32)).toNatClampNeg) dL_law_472 hkx0 hbx0 g167 rfl ?_
  refine E_aload_n 0 dL_law_473 rfl rfl ?_
  refine E_iload_n 3 dL_law_474 rfl rfl ?_
  refine E_iconst (5 : Int32) dL_law_475 (by decide) ?_
  refine E_iadd dL_law_476 ?_
  obtain ⟨g168, h⟩ := h
  refine E_iald2 ((x3 + (5 : Int32)).toNatClampNeg) dL_law_477 hkx0 hbx0 g168 rfl ?_
  refine E_aload_n 0 dL_law_478 rfl rfl ?_
  refine E_iload_n 3 dL_law_479 rfl rfl ?_
  refine E_bipush (6 : Int32) dL_law_480 (by decide) ?_
  refine E_iadd dL_law_482 ?_
  obtain ⟨g169, h⟩ := h
  refine E_iald2 ((x3 + (6 : Int32)).toNatClampNeg) dL_law_483 hkx0 hbx0 g169 rfl ?_
  obtain ⟨d170, v175, σ171, hD172, hC173, h⟩ := h
  have hs174 := hC173.1.2.2.2.1 hs
  have hk176 := (hC173.1.2.2.1 _ hbx0).trans hkx0
  have hb177 := Nat.lt_of_lt_of_le hbx0 hC173.1.1
  refine E_callV (As := [.int (gI σ x0 (x3 + (1 : Int32)).toNatClampNeg), .int (gI σ x0 (x3 + (2 : Int32)).toNatClampNeg), .int (gI σ x0 (x3 + (3 : Int32)).toNatClampNeg), .int (gI σ x0 (x3 + (4 : Int32)).toNatClampNeg), .int (gI σ x0 (x3 + (5 : Int32)).toNatClampNeg), .int (gI σ x0 (x3 + (6 : Int32)).toNatClampNeg)]) (rest := []) (r1 := (some (.int v175))) (b := 0) dL_law_484 ok_X11_need in_X11_need se_X11_need ml_L_43 hD172 rfl rfl (Nat.le_of_ble_eq_true rfl) (sk_0 hs) (sn hs (by decide)) (by decide) rfl (by decide +kernel) hC173 ?_
  refine E_aload_n 2 dL_law_487 rfl rfl ?_
  refine E_aload_n 0 dL_law_488 rfl rfl ?_
  refine E_iload_n 3 dL_law_489 rfl rfl ?_
  refine E_iconst (1 : Int32) dL_law_490 (by decide) ?_
  refine E_iadd dL_law_491 ?_
  obtain ⟨g178, h⟩ := h
  refine E_iald2 ((x3 + (1 : Int32)).toNatClampNeg) dL_law_492 hk176 hb177 g178 rfl ?_
  refine E_aload_n 0 dL_law_493 rfl rfl ?_
  refine E_iload_n 3 dL_law_494 rfl rfl ?_
  refine E_iconst (2 : Int32) dL_law_495 (by decide) ?_
  refine E_iadd dL_law_496 ?_
  obtain ⟨g179, h⟩ := h
  refine E_iald2 ((x3 + (2 : Int32)).toNatClampNeg) dL_law_497 hk176 hb177 g179 rfl ?_
  refine E_aload_n 0 dL_law_498 rfl rfl ?_
  refine E_iload_n 3 dL_law_499 rfl rfl ?_
  refine E_iconst (3 : Int32) dL_law_500 (by decide) ?_
  refine E_iadd dL_law_501 ?_
  obtain ⟨g180, h⟩ := h
  refine E_iald2 ((x3 + (3 : Int32)).toNatClampNeg) dL_law_502 hk176 hb177 g180 rfl ?_
  refine E_aload_n 0 dL_law_503 rfl rfl ?_
  refine E_iload_n 3 dL_law_504 rfl rfl ?_
  refine E_iconst (4 : Int32) dL_law_505 (by decide) ?_
  refine E_iadd dL_law_506 ?_
  obtain ⟨g181, h⟩ := h
  refine E_iald2 ((x3 + (4 : Int32)).toNatClampNeg) dL_law_507 hk176 hb177 g181 rfl ?_
  refine E_aload_n 0 dL_law_508 rfl rfl ?_
  refine E_iload_n 3 dL_law_509 rfl rfl ?_
  refine E_iconst (5 : Int32) dL_law_510 (by decide) ?_
  refine E_iadd dL_law_511 ?_
  obtain ⟨g182, h⟩ := h
  refine E_iald2 ((x3 + (5 : Int32)).toNatClampNeg) dL_law_512 hk176 hb177 g182 rfl ?_
  refine E_aload_n 0 dL_law_513 rfl rfl ?_
  refine E_iload_n 3 dL_law_514 rfl rfl ?_
  refine E_bipush (6 : Int32) dL_law_515 (by decide) ?_
  refine E_iadd dL_law_517 ?_
  obtain ⟨g183, h⟩ := h
  refine E_iald2 ((x3 + (6 : Int32)).toNatClampNeg) dL_law_518 hk176 hb177 g183 rfl ?_
  obtain ⟨d184, v189, σ185, hD186, hC187, h⟩ := h
  have hs188 := hC187.1.2.2.2.1 hs174
  have hk190 := (hC187.1.2.2.1 _ hb177).trans hk176
  have hb191 := Nat.lt_of_lt_of_le hb177 hC187.1.1
  refine E_callV (As := [.int (gI σ171 x0 (x3 + (1 : Int32)).toNatClampNeg), .int (gI σ171 x0 (x3 + (2 : Int32)).toNatClampNeg), .int (gI σ171 x0 (x3 + (3 : Int32)).toNatClampNeg), .int (gI σ171 x0 (x3 + (4 : Int32)).toNatClampNeg), .int (gI σ171 x0 (x3 + (5 : Int32)).toNatClampNeg), .int (gI σ171 x0 (x3 + (6 : Int32)).toNatClampNeg)]) (rest := [.int v175]) (r1 := (some (.int v189))) (b := 124) dL_law_519 ok_X12_need in_X12_need se_X12_need ml_L_47 hD186 rfl rfl (Nat.le_of_ble_eq_true rfl) (sk_124 hs174) (sn hs174 (by decide)) (by decide) rfl (by decide +kernel) hC187 ?_
  refine E_icmp_eq 2038 dL_law_522 (by decide) (fun c => ?_) (fun c => ?_)
  · rw [if_pos c] at h
    exact E_lv [0, 1, 2, 3] rfl (w_L_law_2038 hs188 h)
  · rw [if_neg c] at h
    refine E_iconst (0 : Int32) dL_law_525 (by decide) ?_
    obtain ⟨rfl, rfl⟩ := h
    exact E_zret dL_law_526 rfl (Or.inl rfl)
def W_L_law_527 (X : Sx) (l : Launch) (D : Nat) (x0 : Nat) (x3 : Int32) (σ : AH) (r : Option Value) (σ' : AH) : Prop := ∃ nx0 : Nat, kd σ x0 = (100, nx0) ∧ x0 < nx σ ∧ vp_in (x3 + (1 : Int32)) nx0 ∧ vp_in (x3 + (2 : Int32)) nx0 ∧ vp_in (x3 + (3 : Int32)) nx0 ∧ vp_in (x3 + (4 : Int32)) nx0 ∧ ∃ d196 : Nat, ∃ v201 : Int32, ∃ σ197 : AH, d196 + 1 ≤ D ∧ Call X l m_X11_deliver d196 [.ref 0, .int (gI σ x0 (x3 + (1 : Int32)).toNatClampNeg), .int (gI σ x0 (x3 + (2 : Int32)).toNatClampNeg), .int (gI σ x0 (x3 + (3 : Int32)).toNatClampNeg), .int (gI σ x0 (x3 + (4 : Int32)).toNatClampNeg)] σ (some (.int v201)) σ197 ∧ vp_in (x3 + (1 : Int32)) nx0 ∧ vp_in (x3 + (2 : Int32)) nx0 ∧ vp_in (x3 + (3 : Int32)) nx0 ∧ vp_in (x3 + (4 : Int32)) nx0 ∧ ∃ d208 : Nat, ∃ v213 : Int32, ∃ σ209 : AH, d208 + 1 ≤ D ∧ Call X l m_X12_deliver d208 [.ref 124, .int (gI σ197 x0 (x3 + (1 : Int32)).toNatClampNeg), .int (gI σ197 x0 (x3 + (2 : Int32)).toNatClampNeg), .int (gI σ197 x0 (x3 + (3 : Int32)).toNatClampNeg), .int (gI σ197 x0 (x3 + (4 : Int32)).toNatClampNeg)] σ197 (some (.int v213)) σ209 ∧ (if v201 = v213 then W_L_law_2038 X l D x0 x3 σ209 r σ' else (r = some (.int (0 : Int32)) ∧ σ' = σ209))
set_option maxRecDepth 100000 in
theorem w_L_law_527 {X : Sx} {l : Launch} {D : Nat} {x0 : Nat} {x3 : Int32} {σ : AH} {r : Option Value} {σ' : AH} (hs : Sh σ) (h : W_L_law_527 X l D x0 x3 σ r σ') : E X l m_L_law D 527 [(0, .ref x0), (1, .ref 0), (2, .ref 124), (3, .int x3)] [] σ r σ' := by
  unfold W_L_law_527 at h
  obtain ⟨nx0, hkx0, hbx0, h⟩ := h
  refine E_aload_n 1 dL_law_527 rfl rfl ?_
  refine E_aload_n 0 dL_law_528 rfl rfl ?_
  refine E_iload_n 3 dL_law_529 rfl rfl ?_
  refine E_iconst (1 : Int32) dL_law_530 (by decide) ?_
  refine E_iadd dL_law_531 ?_
  obtain ⟨g192, h⟩ := h
  refine E_iald2 ((x3 + (1 : Int32)).toNatClampNeg) dL_law_532 hkx0 hbx0 g192 rfl ?_
  refine E_aload_n 0 dL_law_533 rfl rfl ?_
  refine E_iload_n 3 dL_law_534 rfl rfl ?_
  refine E_iconst (2 : Int32) dL_law_535 (by decide) ?_
  refine E_iadd dL_law_536 ?_
  obtain ⟨g193, h⟩ := h
  refine E_iald2 ((x3 + (2 : Int32)).toNatClampNeg) dL_law_537 hkx0 hbx0 g193 rfl ?_
  refine E_aload_n 0 dL_law_538 rfl rfl ?_
  refine E_iload_n 3 dL_law_539 rfl rfl ?_
  refine E_iconst (3 : Int32) dL_law_540 (by decide) ?_
  refine E_iadd dL_law_541 ?_
  obtain ⟨g194, h⟩ := h
  refine E_iald2 ((x3 + (3 : Int32)).toNatClampNeg) dL_law_542 hkx0 hbx0 g194 rfl ?_
  refine E_aload_n 0 dL_law_543 rfl rfl ?_
  refine E_iload_n 3 dL_law_544 rfl rfl ?_
  refine E_iconst (4 : Int32) dL_law_545 (by decide) ?_
  refine E_iadd dL_law_546 ?_
  obtain ⟨g195, h⟩ := h
  refine E_iald2 ((x3 + (4 : Int32)).toNatClampNeg) dL_law_547 hkx0 hbx0 g195 rfl ?_
  obtain ⟨d196, v201, σ197, hD198, hC199, h⟩ := h
  have hs200 := hC199.1.2.2.2.1 hs
  have hk202 := (hC199.1.2.2.1 _ hbx0).trans hkx0
  have hb203 := Nat.lt_of_lt_of_le hbx0 hC199.1.1
  refine E_callV (As := [.int (gI σ x0 (x3 + (1 : Int32)).toNatClampNeg), .int (gI σ x0 (x3 + (2 : Int32)).toNatClampNeg), .int (gI σ x0 (x3 + (3 : Int32)).toNatClampNeg), .int (gI σ x0 (x3 + (4 : Int32)).toNatClampNeg)]) (rest := []) (r1 := (some (.int v201))) (b := 0) dL_law_548 ok_X11_deliver in_X11_deliver se_X11_deliver ml_L_48 hD198 rfl rfl (Nat.le_of_ble_eq_true rfl) (sk_0 hs) (sn hs (by decide)) (by decide) rfl (by decide +kernel) hC199 ?_
  refine E_aload_n 2 dL_law_551 rfl rfl ?_
  refine E_aload_n 0 dL_law_552 rfl rfl ?_
  refine E_iload_n 3 dL_law_553 rfl rfl ?_
  refine E_iconst (1 : Int32) dL_law_554 (by decide) ?_
  refine E_iadd dL_law_555 ?_
  obtain ⟨g204, h⟩ := h
  refine E_iald2 ((x3 + (1 : Int32)).toNatClampNeg) dL_law_556 hk202 hb203 g204 rfl ?_
  refine E_aload_n 0 dL_law_557 rfl rfl ?_
  refine E_iload_n 3 dL_law_558 rfl rfl ?_
  refine E_iconst (2 : Int32) dL_law_559 (by decide) ?_
  refine E_iadd dL_law_560 ?_
  obtain ⟨g205, h⟩ := h
  refine E_iald2 ((x3 + (2 : Int32)).toNatClampNeg) dL_law_561 hk202 hb203 g205 rfl ?_
  refine E_aload_n 0 dL_law_562 rfl rfl ?_
  refine E_iload_n 3 dL_law_563 rfl rfl ?_
  refine E_iconst (3 : Int32) dL_law_564 (by decide) ?_
  refine E_iadd dL_law_565 ?_
  obtain ⟨g206, h⟩ := h
  refine E_iald2 ((x3 + (3 : Int32)).toNatClampNeg) dL_law_566 hk202 hb203 g206 rfl ?_
  refine E_aload_n 0 dL_law_567 rfl rfl ?_
  refine E_iload_n 3 dL_law_568 rfl rfl ?_
  refine E_iconst (4 : Int32) dL_law_569 (by decide) ?_
  refine E_iadd dL_law_570 ?_
  obtain ⟨g207, h⟩ := h
  refine E_iald2 ((x3 + (4 : Int32)).toNatClampNeg) dL_law_571 hk202 hb203 g207 rfl ?_
  obtain ⟨d208, v213, σ209, hD210, hC211, h⟩ := h
  have hs212 := hC211.1.2.2.2.1 hs200
  have hk214 := (hC211.1.2.2.1 _ hb203).trans hk202
  have hb215 := Nat.lt_of_lt_of_le hb203 hC211.1.1
  refine E_callV (As := [.int (gI σ197 x0 (x3 + (1 : Int32)).toNatClampNeg), .int (gI σ197 x0 (x3 + (2 : Int32)).toNatClampNeg), .int (gI σ197 x0 (x3 + (3 : Int32)).toNatClampNeg), .int (gI σ197 x0 (x3 + (4 : Int32)).toNatClampNeg)]) (rest := [.int v201]) (r1 := (some (.int v213))) (b := 124) dL_law_572 ok_X12_deliver in_X12_deliver se_X12_deliver ml_L_51 hD210 rfl rfl (Nat.le_of_ble_eq_true rfl) (sk_124 hs200) (sn hs200 (by decide)) (by decide) rfl (by decide +kernel) hC211 ?_
  refine E_icmp_eq 2038 dL_law_575 (by decide) (fun c => ?_) (fun c => ?_)
  · rw [if_pos c] at h
    exact E_lv [0, 1, 2, 3] rfl (w_L_law_2038 hs212 h)
  · rw [if_neg c] at h
    refine E_iconst (0 : Int32) dL_law_578 (by decide) ?_
    obtain ⟨rfl, rfl⟩ := h
    exact E_zret dL_law_579 rfl (Or.inl rfl)
def W_L_law_580 (X : Sx) (l : Launch) (D : Nat) (x0 : Nat) (x3 : Int32) (σ : AH) (r : Option Value) (σ' : AH) : Prop := ∃ nx0 : Nat, kd σ x0 = (100, nx0) ∧ x0 < nx σ ∧ vp_in (x3 + (1 : Int32)) nx0 ∧ vp_in (x3 + (2 : Int32)) nx0 ∧ vp_in (x3 + (3 : Int32)) nx0 ∧ vp_in (x3 + (4 : Int32)) nx0 ∧ vp_in (x3 + (5 : Int32)) nx0 ∧ vp_in (x3 + (6 : Int32)) nx0 ∧ vp_in (x3 + (7 : Int32)) nx0 ∧ vp_in (x3 + (8 : Int32)) nx0 ∧ ∃ d224 : Nat, ∃ v229 : Int32, ∃ σ225 : AH, d224 + 1 ≤ D ∧ Call X l m_X11_works d224 [.ref 0, .int (gI σ x0 (x3 + (1 : Int32)).toNatClampNeg), .int (gI σ x0 (x3 + (2 : Int32)).toNatClampNeg), .int (gI σ x0 (x3 + (3 : Int32)).toNatClampNeg), .int (gI σ x0 (x3 + (4 : Int32)).toNatClampNeg), .int (gI σ x0 (x3 + (5 : Int32)).toNatClampNeg), .int (gI σ x0 (x3 + (6 : Int32)).toNatClampNeg), .int (gI σ x0 (x3 + (7 : Int32)).toNatClampNeg), .int (gI σ x0 (x3 + (8 : Int32)).toNatClampNeg)] σ (some (.int v229)) σ225 ∧ vp_in (x3 + (1 : Int32)) nx0 ∧ vp_in (x3 + (2 : Int32)) nx0 ∧ vp_in (x3 + (3 : Int32)) nx0 ∧ vp_in (x3 + (4 : Int32)) nx0 ∧ vp_in (x3 + (5 : Int32)) nx0 ∧ vp_in (x3 + (6 : Int32)) nx0 ∧ vp_in (x3 + (7 : Int32)) nx0 ∧ vp_in (x3 + (8 : Int32)) nx0 ∧ ∃ d240 : Nat, ∃ v245 : Int32, ∃ σ241 : AH, d240 + 1 ≤ D ∧ Call X l m_X12_works d240 [.ref 124, .int (gI σ225 x0 (x3 + (1 : Int32)).toNatClampNeg), .int (gI σ225 x0 (x3 + (2 : Int32)).toNatClampNeg), .int (gI σ225 x0 (x3 + (3 : Int32)).toNatClampNeg), .int (gI σ225 x0 (x3 + (4 : Int32)).toNatClampNeg), .int (gI σ225 x0 (x3 + (5 : Int32)).toNatClampNeg), .int (gI σ225 x0 (x3 + (6 : Int32)).toNatClampNeg), .int (gI σ225 x0 (x3 + (7 : Int32)).toNatClampNeg), .int (gI σ225 x0 (x3 + (8 : Int32)).toNatClampNeg)] σ225 (some (.int v245)) σ241 ∧ (if v229 = v245 then W_L_law_2038 X l D x0 x3 σ241 r σ' else (r = some (.int (0 : Int32)) ∧ σ' = σ241))
set_option maxRecDepth 100000 in
theorem w_L_law_580 {X : Sx} {l : Launch} {D : Nat} {x0 : Nat} {x3 : Int32} {σ : AH} {r : Option Value} {σ' : AH} (hs : Sh σ) (h : W_L_law_580 X l D x0 x3 σ r σ') : E X l m_L_law D 580 [(0, .ref x0), (1, .ref 0), (2, .ref 124), (3, .int x3)] [] σ r σ' := by
  unfold W_L_law_580 at h
  obtain ⟨nx0, hkx0, hbx0, h⟩ := h
  refine E_aload_n 1 dL_law_580 rfl rfl ?_
  refine E_aload_n 0 dL_law_581 rfl rfl ?_
  refine E_iload_n 3 dL_law_582 rfl rfl ?_
  refine E_iconst (1 : Int32) dL_law_583 (by decide) ?_
  refine E_iadd dL_law_584 ?_
  obtain ⟨g216, h⟩ := h
  refine E_iald2 ((x3 + (1 : Int32)).toNatClampNeg) dL_law_585 hkx0 hbx0 g216 rfl ?_
  refine E_aload_n 0 dL_law_586 rfl rfl ?_
  refine E_iload_n 3 dL_law_587 rfl rfl ?_
  refine E_iconst (2 : Int32) dL_law_588 (by decide) ?_
  refine E_iadd dL_law_589 ?_
  obtain ⟨g217, h⟩ := h
  refine E_iald2 ((x3 + (2 : Int32)).toNatClampNeg) dL_law_590 hkx0 hbx0 g217 rfl ?_
  refine E_aload_n 0 dL_law_591 rfl rfl ?_
  refine E_iload_n 3 dL_law_592 rfl rfl ?_
  refine E_iconst (3 : Int32) dL_law_593 (by decide) ?_
  refine E_iadd dL_law_594 ?_
  obtain ⟨g218, h⟩ := h
  refine E_iald2 ((x3 + (3 : Int32)).toNatClampNeg) dL_law_595 hkx0 hbx0 g218 rfl ?_
  refine E_aload_n 0 dL_law_596 rfl rfl ?_
  refine E_iload_n 3 dL_law_597 rfl rfl ?_
  refine E_iconst (4 : Int32) dL_law_598 (by decide) ?_
  refine E_iadd dL_law_599 ?_
  obtain ⟨g219, h⟩ := h
  refine E_iald2 ((x3 + (4 : Int32)).toNatClampNeg) dL_law_600 hkx0 hbx0 g219 rfl ?_
  refine E_aload_n 0 dL_law_601 rfl rfl ?_
  refine E_iload_n 3 dL_law_602 rfl rfl ?_
  refine E_iconst (5 : Int32) dL_law_603 (by decide) ?_
  refine E_iadd dL_law_604 ?_
  obtain ⟨g220, h⟩ := h
  refine E_iald2 ((x3 + (5 : Int32)).toNatClampNeg) dL_law_605 hkx0 hbx0 g220 rfl ?_
  refine E_aload_n 0 dL_law_606 rfl rfl ?_
  refine E_iload_n 3 dL_law_607 rfl rfl ?_
  refine E_bipush (6 : Int32) dL_law_608 (by decide) ?_
  refine E_iadd dL_law_610 ?_
  obtain ⟨g221, h⟩ := h
  refine E_iald2 ((x3 + (6 : Int32)).toNatClampNeg) dL_law_611 hkx0 hbx0 g221 rfl ?_
  refine E_aload_n 0 dL_law_612 rfl rfl ?_
  refine E_iload_n 3 dL_law_613 rfl rfl ?_
  refine E_bipush (7 : Int32) dL_law_614 (by decide) ?_
  refine E_iadd dL_law_616 ?_
  obtain ⟨g222, h⟩ := h
  refine E_iald2 ((x3 + (7 : Int32)).toNatClampNeg) dL_law_617 hkx0 hbx0 g222 rfl ?_
  refine E_aload_n 0 dL_law_618 rfl rfl ?_
  refine E_iload_n 3 dL_law_619 rfl rfl ?_
  refine E_bipush (8 : Int32) dL_law_620 (by decide) ?_
  refine E_iadd dL_law_622 ?_
  obtain ⟨g223, h⟩ := h
  refine E_iald2 ((x3 + (8 : Int32)).toNatClampNeg) dL_law_623 hkx0 hbx0 g223 rfl ?_
  obtain ⟨d224, v229, σ225, hD226, hC227, h⟩ := h
  have hs228 := hC227.1.2.2.2.1 hs
  have hk230 := (hC227.1.2.2.1 _ hbx0).trans hkx0
  have hb231 := Nat.lt_of_lt_of_le hbx0 hC227.1.1
  refine E_callV (As := [.int (gI σ x0 (x3 + (1 : Int32)).toNatClampNeg), .int (gI σ x0 (x3 + (2 : Int32)).toNatClampNeg), .int (gI σ x0 (x3 + (3 : Int32)).toNatClampNeg), .int (gI σ x0 (x3 + (4 : Int32)).toNatClampNeg), .int (gI σ x0 (x3 + (5 : Int32)).toNatClampNeg), .int (gI σ x0 (x3 + (6 : Int32)).toNatClampNeg), .int (gI σ x0 (x3 + (7 : Int32)).toNatClampNeg), .int (gI σ x0 (x3 + (8 : Int32)).toNatClampNeg)]) (rest := []) (r1 := (some (.int v229))) (b := 0) dL_law_624 ok_X11_works in_X11_works se_X11_works ml_L_52 hD226 rfl rfl (Nat.le_of_ble_eq_true rfl) (sk_0 hs) (sn hs (by decide)) (by decide) rfl (by decide +kernel) hC227 ?_
  refine E_aload_n 2 dL_law_627 rfl rfl ?_
  refine E_aload_n 0 dL_law_628 rfl rfl ?_
  refine E_iload_n 3 dL_law_629 rfl rfl ?_
  refine E_iconst (1 : Int32) dL_law_630 (by decide) ?_
  refine E_iadd dL_law_631 ?_
  obtain ⟨g232, h⟩ := h
  refine E_iald2 ((x3 + (1 : Int32)).toNatClampNeg) dL_law_632 hk230 hb231 g232 rfl ?_
  refine E_aload_n 0 dL_law_633 rfl rfl ?_
  refine E_iload_n 3 dL_law_634 rfl rfl ?_
  refine E_iconst (2 : Int32) dL_law_635 (by decide) ?_
  refine E_iadd dL_law_636 ?_
  obtain ⟨g233, h⟩ := h
  refine E_iald2 ((x3 + (2 : Int32)).toNatClampNeg) dL_law_637 hk230 hb231 g233 rfl ?_
  refine E_aload_n 0 dL_law_638 rfl rfl ?_
  refine E_iload_n 3 dL_law_639 rfl rfl ?_
  refine E_iconst (3 : Int32) dL_law_640 (by decide) ?_
  refine E_iadd dL_law_641 ?_
  obtain ⟨g234, h⟩ := h
  refine E_iald2 ((x3 + (3 : Int32)).toNatClampNeg) dL_law_642 hk230 hb231 g234 rfl ?_
  refine E_aload_n 0 dL_law_643 rfl rfl ?_
  refine E_iload_n 3 dL_law_644 rfl rfl ?_
  refine E_iconst (4 : Int32) dL_law_645 (by decide) ?_
  refine E_iadd dL_law_646 ?_
  obtain ⟨g235, h⟩ := h
  refine E_iald2 ((x3 + (4 : Int32)).toNatClampNeg) dL_law_647 hk230 hb231 g235 rfl ?_
  refine E_aload_n 0 dL_law_648 rfl rfl ?_
  refine E_iload_n 3 dL_law_649 rfl rfl ?_
  refine E_iconst (5 : Int32) dL_law_650 (by decide) ?_
  refine E_iadd dL_law_651 ?_
  obtain ⟨g236, h⟩ := h
  refine E_iald2 ((x3 + (5 : Int32)).toNatClampNeg) dL_law_652 hk230 hb231 g236 rfl ?_
  refine E_aload_n 0 dL_law_653 rfl rfl ?_
  refine E_iload_n 3 dL_law_654 rfl rfl ?_
  refine E_bipush (6 : Int32) dL_law_655 (by decide) ?_
  refine E_iadd dL_law_657 ?_
  obtain ⟨g237, h⟩ := h
  refine E_iald2 ((x3 + (6 : Int32)).toNatClampNeg) dL_law_658 hk230 hb231 g237 rfl ?_
  refine E_aload_n 0 dL_law_659 rfl rfl ?_
  refine E_iload_n 3 dL_law_660 rfl rfl ?_
  refine E_bipush (7 : Int32) dL_law_661 (by decide) ?_
  refine E_iadd dL_law_663 ?_
  obtain ⟨g238, h⟩ := h
  refine E_iald2 ((x3 + (7 : Int32)).toNatClampNeg) dL_law_664 hk230 hb231 g238 rfl ?_
  refine E_aload_n 0 dL_law_665 rfl rfl ?_
  refine E_iload_n 3 dL_law_666 rfl rfl ?_
  refine E_bipush (8 : Int32) dL_law_667 (by decide) ?_
  refine E_iadd dL_law_669 ?_
  obtain ⟨g239, h⟩ := h
  refine E_iald2 ((x3 + (8 : Int32)).toNatClampNeg) dL_law_670 hk230 hb231 g239 rfl ?_
  obtain ⟨d240, v245, σ241, hD242, hC243, h⟩ := h
  have hs244 := hC243.1.2.2.2.1 hs228
  have hk246 := (hC243.1.2.2.1 _ hb231).trans hk230
  have hb247 := Nat.lt_of_lt_of_le hb231 hC243.1.1
  refine E_callV (As := [.int (gI σ225 x0 (x3 + (1 : Int32)).toNatClampNeg), .int (gI σ225 x0 (x3 + (2 : Int32)).toNatClampNeg), .int (gI σ225 x0 (x3 + (3 : Int32)).toNatClampNeg), .int (gI σ225 x0 (x3 + (4 : Int32)).toNatClampNeg), .int (gI σ225 x0 (x3 + (5 : Int32)).toNatClampNeg), .int (gI σ225 x0 (x3 + (6 : Int32)).toNatClampNeg), .int (gI σ225 x0 (x3 + (7 : Int32)).toNatClampNeg), .int (gI σ225 x0 (x3 + (8 : Int32)).toNatClampNeg)]) (rest := [.int v229]) (r1 := (some (.int v245))) (b := 124) dL_law_671 ok_X12_works in_X12_works se_X12_works ml_L_56 hD242 rfl rfl (Nat.le_of_ble_eq_true rfl) (sk_124 hs228) (sn hs228 (by decide)) (by decide) rfl (by decide +kernel) hC243 ?_
  refine E_icmp_eq 2038 dL_law_674 (by decide) (fun c => ?_) (fun c => ?_)
  · rw [if_pos c] at h
    exact E_lv [0, 1, 2, 3] rfl (w_L_law_2038 hs244 h)
  · rw [if_neg c] at h
    refine E_iconst (0 : Int32) dL_law_677 (by decide) ?_
    obtain ⟨rfl, rfl⟩ := h
    exact E_zret dL_law_678 rfl (Or.inl rfl)
def W_L_law_679 (X : Sx) (l : Launch) (D : Nat) (x0 : Nat) (x3 : Int32) (σ : AH) (r : Option Value) (σ' : AH) : Prop := ∃ nx0 : Nat, kd σ x0 = (100, nx0) ∧ x0 < nx σ ∧ vp_in (x3 + (1 : Int32)) nx0 ∧ vp_in (x3 + (2 : Int32)) nx0 ∧ vp_in (x3 + (3 : Int32)) nx0 ∧ vp_in (x3 + (4 : Int32)) nx0 ∧ ∃ d252 : Nat, ∃ v257 : Int32, ∃ σ253 : AH, d252 + 1 ≤ D ∧ Call X l m_X11_gangs d252 [.ref 0, .int (gI σ x0 (x3 + (1 : Int32)).toNatClampNeg), .int (gI σ x0 (x3 + (2 : Int32)).toNatClampNeg), .int (gI σ x0 (x3 + (3 : Int32)).toNatClampNeg), .int (gI σ x0 (x3 + (4 : Int32)).toNatClampNeg)] σ (some (.int v257)) σ253 ∧ vp_in (x3 + (1 : Int32)) nx0 ∧ vp_in (x3 + (2 : Int32)) nx0 ∧ vp_in (x3 + (3 : Int32)) nx0 ∧ vp_in (x3 + (4 : Int32)) nx0 ∧ ∃ d264 : Nat, ∃ v269 : Int32, ∃ σ265 : AH, d264 + 1 ≤ D ∧ Call X l m_X12_gangs d264 [.ref 124, .int (gI σ253 x0 (x3 + (1 : Int32)).toNatClampNeg), .int (gI σ253 x0 (x3 + (2 : Int32)).toNatClampNeg), .int (gI σ253 x0 (x3 + (3 : Int32)).toNatClampNeg), .int (gI σ253 x0 (x3 + (4 : Int32)).toNatClampNeg)] σ253 (some (.int v269)) σ265 ∧ (if v257 = v269 then W_L_law_2038 X l D x0 x3 σ265 r σ' else (r = some (.int (0 : Int32)) ∧ σ' = σ265))
set_option maxRecDepth 100000 in
theorem w_L_law_679 {X : Sx} {l : Launch} {D : Nat} {x0 : Nat} {x3 : Int32} {σ : AH} {r : Option Value} {σ' : AH} (hs : Sh σ) (h : W_L_law_679 X l D x0 x3 σ r σ') : E X l m_L_law D 679 [(0, .ref x0), (1, .ref 0), (2, .ref 124), (3, .int x3)] [] σ r σ' := by
  unfold W_L_law_679 at h
  obtain ⟨nx0, hkx0, hbx0, h⟩ := h
  refine E_aload_n 1 dL_law_679 rfl rfl ?_
  refine E_aload_n 0 dL_law_680 rfl rfl ?_
  refine E_iload_n 3 dL_law_681 rfl rfl ?_
  refine E_iconst (1 : Int32) dL_law_682 (by decide) ?_
  refine E_iadd dL_law_683 ?_
  obtain ⟨g248, h⟩ := h
  refine E_iald2 ((x3 + (1 : Int32)).toNatClampNeg) dL_law_684 hkx0 hbx0 g248 rfl ?_
  refine E_aload_n 0 dL_law_685 rfl rfl ?_
  refine E_iload_n 3 dL_law_686 rfl rfl ?_
  refine E_iconst (2 : Int32) dL_law_687 (by decide) ?_
  refine E_iadd dL_law_688 ?_
  obtain ⟨g249, h⟩ := h
  refine E_iald2 ((x3 + (2 : Int32)).toNatClampNeg) dL_law_689 hkx0 hbx0 g249 rfl ?_
  refine E_aload_n 0 dL_law_690 rfl rfl ?_
  refine E_iload_n 3 dL_law_691 rfl rfl ?_
  refine E_iconst (3 : Int32) dL_law_692 (by decide) ?_
  refine E_iadd dL_law_693 ?_
  obtain ⟨g250, h⟩ := h
  refine E_iald2 ((x3 + (3 : Int32)).toNatClampNeg) dL_law_694 hkx0 hbx0 g250 rfl ?_
  refine E_aload_n 0 dL_law_695 rfl rfl ?_
  refine E_iload_n 3 dL_law_696 rfl rfl ?_
  refine E_iconst (4 : Int32) dL_law_697 (by decide) ?_
  refine E_iadd dL_law_698 ?_
  obtain ⟨g251, h⟩ := h
  refine E_iald2 ((x3 + (4 : Int32)).toNatClampNeg) dL_law_699 hkx0 hbx0 g251 rfl ?_
  obtain ⟨d252, v257, σ253, hD254, hC255, h⟩ := h
  have hs256 := hC255.1.2.2.2.1 hs
  have hk258 := (hC255.1.2.2.1 _ hbx0).trans hkx0
  have hb259 := Nat.lt_of_lt_of_le hbx0 hC255.1.1
  refine E_callV (As := [.int (gI σ x0 (x3 + (1 : Int32)).toNatClampNeg), .int (gI σ x0 (x3 + (2 : Int32)).toNatClampNeg), .int (gI σ x0 (x3 + (3 : Int32)).toNatClampNeg), .int (gI σ x0 (x3 + (4 : Int32)).toNatClampNeg)]) (rest := []) (r1 := (some (.int v257))) (b := 0) dL_law_700 ok_X11_gangs in_X11_gangs se_X11_gangs ml_L_57 hD254 rfl rfl (Nat.le_of_ble_eq_true rfl) (sk_0 hs) (sn hs (by decide)) (by decide) rfl (by decide +kernel) hC255 ?_
  refine E_aload_n 2 dL_law_703 rfl rfl ?_
  refine E_aload_n 0 dL_law_704 rfl rfl ?_
  refine E_iload_n 3 dL_law_705 rfl rfl ?_
  refine E_iconst (1 : Int32) dL_law_706 (by decide) ?_
  refine E_iadd dL_law_707 ?_
  obtain ⟨g260, h⟩ := h
  refine E_iald2 ((x3 + (1 : Int32)).toNatClampNeg) dL_law_708 hk258 hb259 g260 rfl ?_
  refine E_aload_n 0 dL_law_709 rfl rfl ?_
  refine E_iload_n 3 dL_law_710 rfl rfl ?_
  refine E_iconst (2 : Int32) dL_law_711 (by decide) ?_
  refine E_iadd dL_law_712 ?_
  obtain ⟨g261, h⟩ := h
  refine E_iald2 ((x3 + (2 : Int32)).toNatClampNeg) dL_law_713 hk258 hb259 g261 rfl ?_
  refine E_aload_n 0 dL_law_714 rfl rfl ?_
  refine E_iload_n 3 dL_law_715 rfl rfl ?_
  refine E_iconst (3 : Int32) dL_law_716 (by decide) ?_
  refine E_iadd dL_law_717 ?_
  obtain ⟨g262, h⟩ := h
  refine E_iald2 ((x3 + (3 : Int32)).toNatClampNeg) dL_law_718 hk258 hb259 g262 rfl ?_
  refine E_aload_n 0 dL_law_719 rfl rfl ?_
  refine E_iload_n 3 dL_law_720 rfl rfl ?_
  refine E_iconst (4 : Int32) dL_law_721 (by decide) ?_
  refine E_iadd dL_law_722 ?_
  obtain ⟨g263, h⟩ := h
  refine E_iald2 ((x3 + (4 : Int32)).toNatClampNeg) dL_law_723 hk258 hb259 g263 rfl ?_
  obtain ⟨d264, v269, σ265, hD266, hC267, h⟩ := h
  have hs268 := hC267.1.2.2.2.1 hs256
  have hk270 := (hC267.1.2.2.1 _ hb259).trans hk258
  have hb271 := Nat.lt_of_lt_of_le hb259 hC267.1.1
  refine E_callV (As := [.int (gI σ253 x0 (x3 + (1 : Int32)).toNatClampNeg), .int (gI σ253 x0 (x3 + (2 : Int32)).toNatClampNeg), .int (gI σ253 x0 (x3 + (3 : Int32)).toNatClampNeg), .int (gI σ253 x0 (x3 + (4 : Int32)).toNatClampNeg)]) (rest := [.int v257]) (r1 := (some (.int v269))) (b := 124) dL_law_724 ok_X12_gangs in_X12_gangs se_X12_gangs ml_L_60 hD266 rfl rfl (Nat.le_of_ble_eq_true rfl) (sk_124 hs256) (sn hs256 (by decide)) (by decide) rfl (by decide +kernel) hC267 ?_
  refine E_icmp_eq 2038 dL_law_727 (by decide) (fun c => ?_) (fun c => ?_)
  · rw [if_pos c] at h
    exact E_lv [0, 1, 2, 3] rfl (w_L_law_2038 hs268 h)
  · rw [if_neg c] at h
    refine E_iconst (0 : Int32) dL_law_730 (by decide) ?_
    obtain ⟨rfl, rfl⟩ := h
    exact E_zret dL_law_731 rfl (Or.inl rfl)
def W_L_law_732 (X : Sx) (l : Launch) (D : Nat) (x0 : Nat) (x3 : Int32) (σ : AH) (r : Option Value) (σ' : AH) : Prop := ∃ nx0 : Nat, kd σ x0 = (100, nx0) ∧ x0 < nx σ ∧ vp_in (x3 + (1 : Int32)) nx0 ∧ vp_in (x3 + (2 : Int32)) nx0 ∧ vp_in (x3 + (3 : Int32)) nx0 ∧ vp_in (x3 + (4 : Int32)) nx0 ∧ ∃ d276 : Nat, ∃ v281 : Int32, ∃ σ277 : AH, d276 + 1 ≤ D ∧ Call X l m_X11_plot d276 [.ref 0, .int (gI σ x0 (x3 + (1 : Int32)).toNatClampNeg), .int (gI σ x0 (x3 + (2 : Int32)).toNatClampNeg), .int (gI σ x0 (x3 + (3 : Int32)).toNatClampNeg), .int (gI σ x0 (x3 + (4 : Int32)).toNatClampNeg)] σ (some (.int v281)) σ277 ∧ vp_in (x3 + (1 : Int32)) nx0 ∧ vp_in (x3 + (2 : Int32)) nx0 ∧ vp_in (x3 + (3 : Int32)) nx0 ∧ vp_in (x3 + (4 : Int32)) nx0 ∧ ∃ d288 : Nat, ∃ v293 : Int32, ∃ σ289 : AH, d288 + 1 ≤ D ∧ Call X l m_X12_plot d288 [.ref 124, .int (gI σ277 x0 (x3 + (1 : Int32)).toNatClampNeg), .int (gI σ277 x0 (x3 + (2 : Int32)).toNatClampNeg), .int (gI σ277 x0 (x3 + (3 : Int32)).toNatClampNeg), .int (gI σ277 x0 (x3 + (4 : Int32)).toNatClampNeg)] σ277 (some (.int v293)) σ289 ∧ (if v281 = v293 then W_L_law_2038 X l D x0 x3 σ289 r σ' else (r = some (.int (0 : Int32)) ∧ σ' = σ289))
set_option maxRecDepth 100000 in
theorem w_L_law_732 {X : Sx} {l : Launch} {D : Nat} {x0 : Nat} {x3 : Int32} {σ : AH} {r : Option Value} {σ' : AH} (hs : Sh σ) (h : W_L_law_732 X l D x0 x3 σ r σ') : E X l m_L_law D 732 [(0, .ref x0), (1, .ref 0), (2, .ref 124), (3, .int x3)] [] σ r σ' := by
  unfold W_L_law_732 at h
  obtain ⟨nx0, hkx0, hbx0, h⟩ := h
  refine E_aload_n 1 dL_law_732 rfl rfl ?_
  refine E_aload_n 0 dL_law_733 rfl rfl ?_
  refine E_iload_n 3 dL_law_734 rfl rfl ?_
  refine E_iconst (1 : Int32) dL_law_735 (by decide) ?_
  refine E_iadd dL_law_736 ?_
  obtain ⟨g272, h⟩ := h
  refine E_iald2 ((x3 + (1 : Int32)).toNatClampNeg) dL_law_737 hkx0 hbx0 g272 rfl ?_
  refine E_aload_n 0 dL_law_738 rfl rfl ?_
  refine E_iload_n 3 dL_law_739 rfl rfl ?_
  refine E_iconst (2 : Int32) dL_law_740 (by decide) ?_
  refine E_iadd dL_law_741 ?_
  obtain ⟨g273, h⟩ := h
  refine E_iald2 ((x3 + (2 : Int32)).toNatClampNeg) dL_law_742 hkx0 hbx0 g273 rfl ?_
  refine E_aload_n 0 dL_law_743 rfl rfl ?_
  refine E_iload_n 3 dL_law_744 rfl rfl ?_
  refine E_iconst (3 : Int32) dL_law_745 (by decide) ?_
  refine E_iadd dL_law_746 ?_
  obtain ⟨g274, h⟩ := h
  refine E_iald2 ((x3 + (3 : Int32)).toNatClampNeg) dL_law_747 hkx0 hbx0 g274 rfl ?_
  refine E_aload_n 0 dL_law_748 rfl rfl ?_
  refine E_iload_n 3 dL_law_749 rfl rfl ?_
  refine E_iconst (4 : Int32) dL_law_750 (by decide) ?_
  refine E_iadd dL_law_751 ?_
  obtain ⟨g275, h⟩ := h
  refine E_iald2 ((x3 + (4 : Int32)).toNatClampNeg) dL_law_752 hkx0 hbx0 g275 rfl ?_
  obtain ⟨d276, v281, σ277, hD278, hC279, h⟩ := h
  have hs280 := hC279.1.2.2.2.1 hs
  have hk282 := (hC279.1.2.2.1 _ hbx0).trans hkx0
  have hb283 := Nat.lt_of_lt_of_le hbx0 hC279.1.1
  refine E_callV (As := [.int (gI σ x0 (x3 + (1 : Int32)).toNatClampNeg), .int (gI σ x0 (x3 + (2 : Int32)).toNatClampNeg), .int (gI σ x0 (x3 + (3 : Int32)).toNatClampNeg), .int (gI σ x0 (x3 + (4 : Int32)).toNatClampNeg)]) (rest := []) (r1 := (some (.int v281))) (b := 0) dL_law_753 ok_X11_plot in_X11_plot se_X11_plot ml_L_61 hD278 rfl rfl (Nat.le_of_ble_eq_true rfl) (sk_0 hs) (sn hs (by decide)) (by decide) rfl (by decide +kernel) hC279 ?_
  refine E_aload_n 2 dL_law_756 rfl rfl ?_
  refine E_aload_n 0 dL_law_757 rfl rfl ?_
  refine E_iload_n 3 dL_law_758 rfl rfl ?_
  refine E_iconst (1 : Int32) dL_law_759 (by decide) ?_
  refine E_iadd dL_law_760 ?_
  obtain ⟨g284, h⟩ := h
  refine E_iald2 ((x3 + (1 : Int32)).toNatClampNeg) dL_law_761 hk282 hb283 g284 rfl ?_
  refine E_aload_n 0 dL_law_762 rfl rfl ?_
  refine E_iload_n 3 dL_law_763 rfl rfl ?_
  refine E_iconst (2 : Int32) dL_law_764 (by decide) ?_
  refine E_iadd dL_law_765 ?_
  obtain ⟨g285, h⟩ := h
  refine E_iald2 ((x3 + (2 : Int32)).toNatClampNeg) dL_law_766 hk282 hb283 g285 rfl ?_
  refine E_aload_n 0 dL_law_767 rfl rfl ?_
  refine E_iload_n 3 dL_law_768 rfl rfl ?_
  refine E_iconst (3 : Int32) dL_law_769 (by decide) ?_
  refine E_iadd dL_law_770 ?_
  obtain ⟨g286, h⟩ := h
  refine E_iald2 ((x3 + (3 : Int32)).toNatClampNeg) dL_law_771 hk282 hb283 g286 rfl ?_
  refine E_aload_n 0 dL_law_772 rfl rfl ?_
  refine E_iload_n 3 dL_law_773 rfl rfl ?_
  refine E_iconst (4 : Int32) dL_law_774 (by decide) ?_
  refine E_iadd dL_law_775 ?_
  obtain ⟨g287, h⟩ := h
  refine E_iald2 ((x3 + (4 : Int32)).toNatClampNeg) dL_law_776 hk282 hb283 g287 rfl ?_
  obtain ⟨d288, v293, σ289, hD290, hC291, h⟩ := h
  have hs292 := hC291.1.2.2.2.1 hs280
  have hk294 := (hC291.1.2.2.1 _ hb283).trans hk282
  have hb295 := Nat.lt_of_lt_of_le hb283 hC291.1.1
  refine E_callV (As := [.int (gI σ277 x0 (x3 + (1 : Int32)).toNatClampNeg), .int (gI σ277 x0 (x3 + (2 : Int32)).toNatClampNeg), .int (gI σ277 x0 (x3 + (3 : Int32)).toNatClampNeg), .int (gI σ277 x0 (x3 + (4 : Int32)).toNatClampNeg)]) (rest := [.int v281]) (r1 := (some (.int v293))) (b := 124) dL_law_777 ok_X12_plot in_X12_plot se_X12_plot ml_L_64 hD290 rfl rfl (Nat.le_of_ble_eq_true rfl) (sk_124 hs280) (sn hs280 (by decide)) (by decide) rfl (by decide +kernel) hC291 ?_
  refine E_icmp_eq 2038 dL_law_780 (by decide) (fun c => ?_) (fun c => ?_)
  · rw [if_pos c] at h
    exact E_lv [0, 1, 2, 3] rfl (w_L_law_2038 hs292 h)
  · rw [if_neg c] at h
    refine E_iconst (0 : Int32) dL_law_783 (by decide) ?_
    obtain ⟨rfl, rfl⟩ := h
    exact E_zret dL_law_784 rfl (Or.inl rfl)
def W_L_law_785 (X : Sx) (l : Launch) (D : Nat) (x0 : Nat) (x3 : Int32) (σ : AH) (r : Option Value) (σ' : AH) : Prop := ∃ nx0 : Nat, kd σ x0 = (100, nx0) ∧ x0 < nx σ ∧ vp_in (x3 + (1 : Int32)) nx0 ∧ vp_in (x3 + (2 : Int32)) nx0 ∧ vp_in (x3 + (3 : Int32)) nx0 ∧ ∃ d299 : Nat, ∃ v304 : Int32, ∃ σ300 : AH, d299 + 1 ≤ D ∧ Call X l m_X11_start d299 [.ref 0, .int (gI σ x0 (x3 + (1 : Int32)).toNatClampNeg), .int (gI σ x0 (x3 + (2 : Int32)).toNatClampNeg), .int (gI σ x0 (x3 + (3 : Int32)).toNatClampNeg)] σ (some (.int v304)) σ300 ∧ vp_in (x3 + (1 : Int32)) nx0 ∧ vp_in (x3 + (2 : Int32)) nx0 ∧ vp_in (x3 + (3 : Int32)) nx0 ∧ ∃ d310 : Nat, ∃ v315 : Int32, ∃ σ311 : AH, d310 + 1 ≤ D ∧ Call X l m_X12_start d310 [.ref 124, .int (gI σ300 x0 (x3 + (1 : Int32)).toNatClampNeg), .int (gI σ300 x0 (x3 + (2 : Int32)).toNatClampNeg), .int (gI σ300 x0 (x3 + (3 : Int32)).toNatClampNeg)] σ300 (some (.int v315)) σ311 ∧ (if v304 = v315 then W_L_law_2038 X l D x0 x3 σ311 r σ' else (r = some (.int (0 : Int32)) ∧ σ' = σ311))
set_option maxRecDepth 100000 in
theorem w_L_law_785 {X : Sx} {l : Launch} {D : Nat} {x0 : Nat} {x3 : Int32} {σ : AH} {r : Option Value} {σ' : AH} (hs : Sh σ) (h : W_L_law_785 X l D x0 x3 σ r σ') : E X l m_L_law D 785 [(0, .ref x0), (1, .ref 0), (2, .ref 124), (3, .int x3)] [] σ r σ' := by
  unfold W_L_law_785 at h
  obtain ⟨nx0, hkx0, hbx0, h⟩ := h
  refine E_aload_n 1 dL_law_785 rfl rfl ?_
  refine E_aload_n 0 dL_law_786 rfl rfl ?_
  refine E_iload_n 3 dL_law_787 rfl rfl ?_
  refine E_iconst (1 : Int32) dL_law_788 (by decide) ?_
  refine E_iadd dL_law_789 ?_
  obtain ⟨g296, h⟩ := h
  refine E_iald2 ((x3 + (1 : Int32)).toNatClampNeg) dL_law_790 hkx0 hbx0 g296 rfl ?_
  refine E_aload_n 0 dL_law_791 rfl rfl ?_
  refine E_iload_n 3 dL_law_792 rfl rfl ?_
  refine E_iconst (2 : Int32) dL_law_793 (by decide) ?_
  refine E_iadd dL_law_794 ?_
  obtain ⟨g297, h⟩ := h
  refine E_iald2 ((x3 + (2 : Int32)).toNatClampNeg) dL_law_795 hkx0 hbx0 g297 rfl ?_
  refine E_aload_n 0 dL_law_796 rfl rfl ?_
  refine E_iload_n 3 dL_law_797 rfl rfl ?_
  refine E_iconst (3 : Int32) dL_law_798 (by decide) ?_
  refine E_iadd dL_law_799 ?_
  obtain ⟨g298, h⟩ := h
  refine E_iald2 ((x3 + (3 : Int32)).toNatClampNeg) dL_law_800 hkx0 hbx0 g298 rfl ?_
  obtain ⟨d299, v304, σ300, hD301, hC302, h⟩ := h
  have hs303 := hC302.1.2.2.2.1 hs
  have hk305 := (hC302.1.2.2.1 _ hbx0).trans hkx0
  have hb306 := Nat.lt_of_lt_of_le hbx0 hC302.1.1
  refine E_callV (As := [.int (gI σ x0 (x3 + (1 : Int32)).toNatClampNeg), .int (gI σ x0 (x3 + (2 : Int32)).toNatClampNeg), .int (gI σ x0 (x3 + (3 : Int32)).toNatClampNeg)]) (rest := []) (r1 := (some (.int v304))) (b := 0) dL_law_801 ok_X11_start in_X11_start se_X11_start ml_L_65 hD301 rfl rfl (Nat.le_of_ble_eq_true rfl) (sk_0 hs) (sn hs (by decide)) (by decide) rfl (by decide +kernel) hC302 ?_
  refine E_aload_n 2 dL_law_804 rfl rfl ?_
  refine E_aload_n 0 dL_law_805 rfl rfl ?_
  refine E_iload_n 3 dL_law_806 rfl rfl ?_
  refine E_iconst (1 : Int32) dL_law_807 (by decide) ?_
  refine E_iadd dL_law_808 ?_
  obtain ⟨g307, h⟩ := h
  refine E_iald2 ((x3 + (1 : Int32)).toNatClampNeg) dL_law_809 hk305 hb306 g307 rfl ?_
  refine E_aload_n 0 dL_law_810 rfl rfl ?_
  refine E_iload_n 3 dL_law_811 rfl rfl ?_
  refine E_iconst (2 : Int32) dL_law_812 (by decide) ?_
  refine E_iadd dL_law_813 ?_
  obtain ⟨g308, h⟩ := h
  refine E_iald2 ((x3 + (2 : Int32)).toNatClampNeg) dL_law_814 hk305 hb306 g308 rfl ?_
  refine E_aload_n 0 dL_law_815 rfl rfl ?_
  refine E_iload_n 3 dL_law_816 rfl rfl ?_
  refine E_iconst (3 : Int32) dL_law_817 (by decide) ?_
  refine E_iadd dL_law_818 ?_
  obtain ⟨g309, h⟩ := h
  refine E_iald2 ((x3 + (3 : Int32)).toNatClampNeg) dL_law_819 hk305 hb306 g309 rfl ?_
  obtain ⟨d310, v315, σ311, hD312, hC313, h⟩ := h
  have hs314 := hC313.1.2.2.2.1 hs303
  have hk316 := (hC313.1.2.2.1 _ hb306).trans hk305
  have hb317 := Nat.lt_of_lt_of_le hb306 hC313.1.1
  refine E_callV (As := [.int (gI σ300 x0 (x3 + (1 : Int32)).toNatClampNeg), .int (gI σ300 x0 (x3 + (2 : Int32)).toNatClampNeg), .int (gI σ300 x0 (x3 + (3 : Int32)).toNatClampNeg)]) (rest := [.int v304]) (r1 := (some (.int v315))) (b := 124) dL_law_820 ok_X12_start in_X12_start se_X12_start ml_L_68 hD312 rfl rfl (Nat.le_of_ble_eq_true rfl) (sk_124 hs303) (sn hs303 (by decide)) (by decide) rfl (by decide +kernel) hC313 ?_
  refine E_icmp_eq 2038 dL_law_823 (by decide) (fun c => ?_) (fun c => ?_)
  · rw [if_pos c] at h
    exact E_lv [0, 1, 2, 3] rfl (w_L_law_2038 hs314 h)
  · rw [if_neg c] at h
    refine E_iconst (0 : Int32) dL_law_826 (by decide) ?_
    obtain ⟨rfl, rfl⟩ := h
    exact E_zret dL_law_827 rfl (Or.inl rfl)
def W_L_law_828 (X : Sx) (l : Launch) (D : Nat) (x0 : Nat) (x3 : Int32) (σ : AH) (r : Option Value) (σ' : AH) : Prop := ∃ nx0 : Nat, kd σ x0 = (100, nx0) ∧ x0 < nx σ ∧ vp_in (x3 + (1 : Int32)) nx0 ∧ vp_in (x3 + (2 : Int32)) nx0 ∧ vp_in (x3 + (3 : Int32)) nx0 ∧ vp_in (x3 + (4 : Int32)) nx0 ∧ ∃ d322 : Nat, ∃ v327 : Int32, ∃ σ323 : AH, d322 + 1 ≤ D ∧ Call X l m_X11_stock d322 [.ref 0, .int (gI σ x0 (x3 + (1 : Int32)).toNatClampNeg), .int (gI σ x0 (x3 + (2 : Int32)).toNatClampNeg), .int (gI σ x0 (x3 + (3 : Int32)).toNatClampNeg), .int (gI σ x0 (x3 + (4 : Int32)).toNatClampNeg)] σ (some (.int v327)) σ323 ∧ vp_in (x3 + (1 : Int32)) nx0 ∧ vp_in (x3 + (2 : Int32)) nx0 ∧ vp_in (x3 + (3 : Int32)) nx0 ∧ vp_in (x3 + (4 : Int32)) nx0 ∧ ∃ d334 : Nat, ∃ v339 : Int32, ∃ σ335 : AH, d334 + 1 ≤ D ∧ Call X l m_X12_stock d334 [.ref 124, .int (gI σ323 x0 (x3 + (1 : Int32)).toNatClampNeg), .int (gI σ323 x0 (x3 + (2 : Int32)).toNatClampNeg), .int (gI σ323 x0 (x3 + (3 : Int32)).toNatClampNeg), .int (gI σ323 x0 (x3 + (4 : Int32)).toNatClampNeg)] σ323 (some (.int v339)) σ335 ∧ (if v327 = v339 then W_L_law_2038 X l D x0 x3 σ335 r σ' else (r = some (.int (0 : Int32)) ∧ σ' = σ335))
set_option maxRecDepth 100000 in
theorem w_L_law_828 {X : Sx} {l : Launch} {D : Nat} {x0 : Nat} {x3 : Int32} {σ : AH} {r : Option Value} {σ' : AH} (hs : Sh σ) (h : W_L_law_828 X l D x0 x3 σ r σ') : E X l m_L_law D 828 [(0, .ref x0), (1, .ref 0), (2, .ref 124), (3, .int x3)] [] σ r σ' := by
  unfold W_L_law_828 at h
  obtain ⟨nx0, hkx0, hbx0, h⟩ := h
  refine E_aload_n 1 dL_law_828 rfl rfl ?_
  refine E_aload_n 0 dL_law_829 rfl rfl ?_
  refine E_iload_n 3 dL_law_830 rfl rfl ?_
  refine E_iconst (1 : Int32) dL_law_831 (by decide) ?_
  refine E_iadd dL_law_832 ?_
  obtain ⟨g318, h⟩ := h
  refine E_iald2 ((x3 + (1 : Int32)).toNatClampNeg) dL_law_833 hkx0 hbx0 g318 rfl ?_
  refine E_aload_n 0 dL_law_834 rfl rfl ?_
  refine E_iload_n 3 dL_law_835 rfl rfl ?_
  refine E_iconst (2 : Int32) dL_law_836 (by decide) ?_
  refine E_iadd dL_law_837 ?_
  obtain ⟨g319, h⟩ := h
  refine E_iald2 ((x3 + (2 : Int32)).toNatClampNeg) dL_law_838 hkx0 hbx0 g319 rfl ?_
  refine E_aload_n 0 dL_law_839 rfl rfl ?_
  refine E_iload_n 3 dL_law_840 rfl rfl ?_
  refine E_iconst (3 : Int32) dL_law_841 (by decide) ?_
  refine E_iadd dL_law_842 ?_
  obtain ⟨g320, h⟩ := h
  refine E_iald2 ((x3 + (3 : Int32)).toNatClampNeg) dL_law_843 hkx0 hbx0 g320 rfl ?_
  refine E_aload_n 0 dL_law_844 rfl rfl ?_
  refine E_iload_n 3 dL_law_845 rfl rfl ?_
  refine E_iconst (4 : Int32) dL_law_846 (by decide) ?_
  refine E_iadd dL_law_847 ?_
  obtain ⟨g321, h⟩ := h
  refine E_iald2 ((x3 + (4 : Int32)).toNatClampNeg) dL_law_848 hkx0 hbx0 g321 rfl ?_
  obtain ⟨d322, v327, σ323, hD324, hC325, h⟩ := h
  have hs326 := hC325.1.2.2.2.1 hs
  have hk328 := (hC325.1.2.2.1 _ hbx0).trans hkx0
  have hb329 := Nat.lt_of_lt_of_le hbx0 hC325.1.1
  refine E_callV (As := [.int (gI σ x0 (x3 + (1 : Int32)).toNatClampNeg), .int (gI σ x0 (x3 + (2 : Int32)).toNatClampNeg), .int (gI σ x0 (x3 + (3 : Int32)).toNatClampNeg), .int (gI σ x0 (x3 + (4 : Int32)).toNatClampNeg)]) (rest := []) (r1 := (some (.int v327))) (b := 0) dL_law_849 ok_X11_stock in_X11_stock se_X11_stock ml_L_69 hD324 rfl rfl (Nat.le_of_ble_eq_true rfl) (sk_0 hs) (sn hs (by decide)) (by decide) rfl (by decide +kernel) hC325 ?_
  refine E_aload_n 2 dL_law_852 rfl rfl ?_
  refine E_aload_n 0 dL_law_853 rfl rfl ?_
  refine E_iload_n 3 dL_law_854 rfl rfl ?_
  refine E_iconst (1 : Int32) dL_law_855 (by decide) ?_
  refine E_iadd dL_law_856 ?_
  obtain ⟨g330, h⟩ := h
  refine E_iald2 ((x3 + (1 : Int32)).toNatClampNeg) dL_law_857 hk328 hb329 g330 rfl ?_
  refine E_aload_n 0 dL_law_858 rfl rfl ?_
  refine E_iload_n 3 dL_law_859 rfl rfl ?_
  refine E_iconst (2 : Int32) dL_law_860 (by decide) ?_
  refine E_iadd dL_law_861 ?_
  obtain ⟨g331, h⟩ := h
  refine E_iald2 ((x3 + (2 : Int32)).toNatClampNeg) dL_law_862 hk328 hb329 g331 rfl ?_
  refine E_aload_n 0 dL_law_863 rfl rfl ?_
  refine E_iload_n 3 dL_law_864 rfl rfl ?_
  refine E_iconst (3 : Int32) dL_law_865 (by decide) ?_
  refine E_iadd dL_law_866 ?_
  obtain ⟨g332, h⟩ := h
  refine E_iald2 ((x3 + (3 : Int32)).toNatClampNeg) dL_law_867 hk328 hb329 g332 rfl ?_
  refine E_aload_n 0 dL_law_868 rfl rfl ?_
  refine E_iload_n 3 dL_law_869 rfl rfl ?_
  refine E_iconst (4 : Int32) dL_law_870 (by decide) ?_
  refine E_iadd dL_law_871 ?_
  obtain ⟨g333, h⟩ := h
  refine E_iald2 ((x3 + (4 : Int32)).toNatClampNeg) dL_law_872 hk328 hb329 g333 rfl ?_
  obtain ⟨d334, v339, σ335, hD336, hC337, h⟩ := h
  have hs338 := hC337.1.2.2.2.1 hs326
  have hk340 := (hC337.1.2.2.1 _ hb329).trans hk328
  have hb341 := Nat.lt_of_lt_of_le hb329 hC337.1.1
  refine E_callV (As := [.int (gI σ323 x0 (x3 + (1 : Int32)).toNatClampNeg), .int (gI σ323 x0 (x3 + (2 : Int32)).toNatClampNeg), .int (gI σ323 x0 (x3 + (3 : Int32)).toNatClampNeg), .int (gI σ323 x0 (x3 + (4 : Int32)).toNatClampNeg)]) (rest := [.int v327]) (r1 := (some (.int v339))) (b := 124) dL_law_873 ok_X12_stock in_X12_stock se_X12_stock ml_L_72 hD336 rfl rfl (Nat.le_of_ble_eq_true rfl) (sk_124 hs326) (sn hs326 (by decide)) (by decide) rfl (by decide +kernel) hC337 ?_
  refine E_icmp_eq 2038 dL_law_876 (by decide) (fun c => ?_) (fun c => ?_)
  · rw [if_pos c] at h
    exact E_lv [0, 1, 2, 3] rfl (w_L_law_2038 hs338 h)
  · rw [if_neg c] at h
    refine E_iconst (0 : Int32) dL_law_879 (by decide) ?_
    obtain ⟨rfl, rfl⟩ := h
    exact E_zret dL_law_880 rfl (Or.inl rfl)
def W_L_law_881 (X : Sx) (l : Launch) (D : Nat) (x0 : Nat) (x3 : Int32) (σ : AH) (r : Option Value) (σ' : AH) : Prop := ∃ nx0 : Nat, kd σ x0 = (100, nx0) ∧ x0 < nx σ ∧ vp_in (x3 + (1 : Int32)) nx0 ∧ vp_in (x3 + (2 : Int32)) nx0 ∧ vp_in (x3 + (3 : Int32)) nx0 ∧ vp_in (x3 + (4 : Int32)) nx0 ∧ ∃ d346 : Nat, ∃ v351 : Int32, ∃ σ347 : AH, d346 + 1 ≤ D ∧ Call X l m_X11_built d346 [.ref 0, .int (gI σ x0 (x3 + (1 : Int32)).toNatClampNeg), .int (gI σ x0 (x3 + (2 : Int32)).toNatClampNeg), .int (gI σ x0 (x3 + (3 : Int32)).toNatClampNeg), .int (gI σ x0 (x3 + (4 : Int32)).toNatClampNeg)] σ (some (.int v351)) σ347 ∧ vp_in (x3 + (1 : Int32)) nx0 ∧ vp_in (x3 + (2 : Int32)) nx0 ∧ vp_in (x3 + (3 : Int32)) nx0 ∧ vp_in (x3 + (4 : Int32)) nx0 ∧ ∃ d358 : Nat, ∃ v363 : Int32, ∃ σ359 : AH, d358 + 1 ≤ D ∧ Call X l m_X12_built d358 [.ref 124, .int (gI σ347 x0 (x3 + (1 : Int32)).toNatClampNeg), .int (gI σ347 x0 (x3 + (2 : Int32)).toNatClampNeg), .int (gI σ347 x0 (x3 + (3 : Int32)).toNatClampNeg), .int (gI σ347 x0 (x3 + (4 : Int32)).toNatClampNeg)] σ347 (some (.int v363)) σ359 ∧ (if v351 = v363 then W_L_law_2038 X l D x0 x3 σ359 r σ' else (r = some (.int (0 : Int32)) ∧ σ' = σ359))
set_option maxRecDepth 100000 in
theorem w_L_law_881 {X : Sx} {l : Launch} {D : Nat} {x0 : Nat} {x3 : Int32} {σ : AH} {r : Option Value} {σ' : AH} (hs : Sh σ) (h : W_L_law_881 X l D x0 x3 σ r σ') : E X l m_L_law D 881 [(0, .ref x0), (1, .ref 0), (2, .ref 124), (3, .int x3)] [] σ r σ' := by
  unfold W_L_law_881 at h
  obtain ⟨nx0, hkx0, hbx0, h⟩ := h
  refine E_aload_n 1 dL_law_881 rfl rfl ?_
  refine E_aload_n 0 dL_law_882 rfl rfl ?_
  refine E_iload_n 3 dL_law_883 rfl rfl ?_
  refine E_iconst (1 : Int32) dL_law_884 (by decide) ?_
  refine E_iadd dL_law_885 ?_
  obtain ⟨g342, h⟩ := h
  refine E_iald2 ((x3 + (1 : Int32)).toNatClampNeg) dL_law_886 hkx0 hbx0 g342 rfl ?_
  refine E_aload_n 0 dL_law_887 rfl rfl ?_
  refine E_iload_n 3 dL_law_888 rfl rfl ?_
  refine E_iconst (2 : Int32) dL_law_889 (by decide) ?_
  refine E_iadd dL_law_890 ?_
  obtain ⟨g343, h⟩ := h
  refine E_iald2 ((x3 + (2 : Int32)).toNatClampNeg) dL_law_891 hkx0 hbx0 g343 rfl ?_
  refine E_aload_n 0 dL_law_892 rfl rfl ?_
  refine E_iload_n 3 dL_law_893 rfl rfl ?_
  refine E_iconst (3 : Int32) dL_law_894 (by decide) ?_
  refine E_iadd dL_law_895 ?_
  obtain ⟨g344, h⟩ := h
  refine E_iald2 ((x3 + (3 : Int32)).toNatClampNeg) dL_law_896 hkx0 hbx0 g344 rfl ?_
  refine E_aload_n 0 dL_law_897 rfl rfl ?_
  refine E_iload_n 3 dL_law_898 rfl rfl ?_
  refine E_iconst (4 : Int32) dL_law_899 (by decide) ?_
  refine E_iadd dL_law_900 ?_
  obtain ⟨g345, h⟩ := h
  refine E_iald2 ((x3 + (4 : Int32)).toNatClampNeg) dL_law_901 hkx0 hbx0 g345 rfl ?_
  obtain ⟨d346, v351, σ347, hD348, hC349, h⟩ := h
  have hs350 := hC349.1.2.2.2.1 hs
  have hk352 := (hC349.1.2.2.1 _ hbx0).trans hkx0
  have hb353 := Nat.lt_of_lt_of_le hbx0 hC349.1.1
  refine E_callV (As := [.int (gI σ x0 (x3 + (1 : Int32)).toNatClampNeg), .int (gI σ x0 (x3 + (2 : Int32)).toNatClampNeg), .int (gI σ x0 (x3 + (3 : Int32)).toNatClampNeg), .int (gI σ x0 (x3 + (4 : Int32)).toNatClampNeg)]) (rest := []) (r1 := (some (.int v351))) (b := 0) dL_law_902 ok_X11_built in_X11_built se_X11_built ml_L_73 hD348 rfl rfl (Nat.le_of_ble_eq_true rfl) (sk_0 hs) (sn hs (by decide)) (by decide) rfl (by decide +kernel) hC349 ?_
  refine E_aload_n 2 dL_law_905 rfl rfl ?_
  refine E_aload_n 0 dL_law_906 rfl rfl ?_
  refine E_iload_n 3 dL_law_907 rfl rfl ?_
  refine E_iconst (1 : Int32) dL_law_908 (by decide) ?_
  refine E_iadd dL_law_909 ?_
  obtain ⟨g354, h⟩ := h
  refine E_iald2 ((x3 + (1 : Int32)).toNatClampNeg) dL_law_910 hk352 hb353 g354 rfl ?_
  refine E_aload_n 0 dL_law_911 rfl rfl ?_
  refine E_iload_n 3 dL_law_912 rfl rfl ?_
  refine E_iconst (2 : Int32) dL_law_913 (by decide) ?_
  refine E_iadd dL_law_914 ?_
  obtain ⟨g355, h⟩ := h
  refine E_iald2 ((x3 + (2 : Int32)).toNatClampNeg) dL_law_915 hk352 hb353 g355 rfl ?_
  refine E_aload_n 0 dL_law_916 rfl rfl ?_
  refine E_iload_n 3 dL_law_917 rfl rfl ?_
  refine E_iconst (3 : Int32) dL_law_918 (by decide) ?_
  refine E_iadd dL_law_919 ?_
  obtain ⟨g356, h⟩ := h
  refine E_iald2 ((x3 + (3 : Int32)).toNatClampNeg) dL_law_920 hk352 hb353 g356 rfl ?_
  refine E_aload_n 0 dL_law_921 rfl rfl ?_
  refine E_iload_n 3 dL_law_922 rfl rfl ?_
  refine E_iconst (4 : Int32) dL_law_923 (by decide) ?_
  refine E_iadd dL_law_924 ?_
  obtain ⟨g357, h⟩ := h
  refine E_iald2 ((x3 + (4 : Int32)).toNatClampNeg) dL_law_925 hk352 hb353 g357 rfl ?_
  obtain ⟨d358, v363, σ359, hD360, hC361, h⟩ := h
  have hs362 := hC361.1.2.2.2.1 hs350
  have hk364 := (hC361.1.2.2.1 _ hb353).trans hk352
  have hb365 := Nat.lt_of_lt_of_le hb353 hC361.1.1
  refine E_callV (As := [.int (gI σ347 x0 (x3 + (1 : Int32)).toNatClampNeg), .int (gI σ347 x0 (x3 + (2 : Int32)).toNatClampNeg), .int (gI σ347 x0 (x3 + (3 : Int32)).toNatClampNeg), .int (gI σ347 x0 (x3 + (4 : Int32)).toNatClampNeg)]) (rest := [.int v351]) (r1 := (some (.int v363))) (b := 124) dL_law_926 ok_X12_built in_X12_built se_X12_built ml_L_76 hD360 rfl rfl (Nat.le_of_ble_eq_true rfl) (sk_124 hs350) (sn hs350 (by decide)) (by decide) rfl (by decide +kernel) hC361 ?_
  refine E_icmp_eq 2038 dL_law_929 (by decide) (fun c => ?_) (fun c => ?_)
  · rw [if_pos c] at h
    exact E_lv [0, 1, 2, 3] rfl (w_L_law_2038 hs362 h)
  · rw [if_neg c] at h
    refine E_iconst (0 : Int32) dL_law_932 (by decide) ?_
    obtain ⟨rfl, rfl⟩ := h
    exact E_zret dL_law_933 rfl (Or.inl rfl)
def W_L_law_934 (X : Sx) (l : Launch) (D : Nat) (x0 : Nat) (x3 : Int32) (σ : AH) (r : Option Value) (σ' : AH) : Prop := ∃ nx0 : Nat, kd σ x0 = (100, nx0) ∧ x0 < nx σ ∧ vp_in (x3 + (1 : Int32)) nx0 ∧ vp_in (x3 + (2 : Int32)) nx0 ∧ vp_in (x3 + (3 : Int32)) nx0 ∧ ∃ d369 : Nat, ∃ v374 : Int32, ∃ σ370 : AH, d369 + 1 ≤ D ∧ Call X l m_X11_lacks d369 [.ref 0, .int (gI σ x0 (x3 + (1 : Int32)).toNatClampNeg), .int (gI σ x0 (x3 + (2 : Int32)).toNatClampNeg), .int (gI σ x0 (x3 + (3 : Int32)).toNatClampNeg)] σ (some (.int v374)) σ370 ∧ vp_in (x3 + (1 : Int32)) nx0 ∧ vp_in (x3 + (2 : Int32)) nx0 ∧ vp_in (x3 + (3 : Int32)) nx0 ∧ ∃ d380 : Nat, ∃ v385 : Int32, ∃ σ381 : AH, d380 + 1 ≤ D ∧ Call X l m_X12_lacks d380 [.ref 124, .int (gI σ370 x0 (x3 + (1 : Int32)).toNatClampNeg), .int (gI σ370 x0 (x3 + (2 : Int32)).toNatClampNeg), .int (gI σ370 x0 (x3 + (3 : Int32)).toNatClampNeg)] σ370 (some (.int v385)) σ381 ∧ (if v374 = v385 then W_L_law_2038 X l D x0 x3 σ381 r σ' else (r = some (.int (0 : Int32)) ∧ σ' = σ381))
set_option maxRecDepth 100000 in
theorem w_L_law_934 {X : Sx} {l : Launch} {D : Nat} {x0 : Nat} {x3 : Int32} {σ : AH} {r : Option Value} {σ' : AH} (hs : Sh σ) (h : W_L_law_934 X l D x0 x3 σ r σ') : E X l m_L_law D 934 [(0, .ref x0), (1, .ref 0), (2, .ref 124), (3, .int x3)] [] σ r σ' := by
  unfold W_L_law_934 at h
  obtain ⟨nx0, hkx0, hbx0, h⟩ := h
  refine E_aload_n 1 dL_law_934 rfl rfl ?_
  refine E_aload_n 0 dL_law_935 rfl rfl ?_
  refine E_iload_n 3 dL_law_936 rfl rfl ?_
  refine E_iconst (1 : Int32) dL_law_937 (by decide) ?_
  refine E_iadd dL_law_938 ?_
  obtain ⟨g366, h⟩ := h
  refine E_iald2 ((x3 + (1 : Int32)).toNatClampNeg) dL_law_939 hkx0 hbx0 g366 rfl ?_
  refine E_aload_n 0 dL_law_940 rfl rfl ?_
  refine E_iload_n 3 dL_law_941 rfl rfl ?_
  refine E_iconst (2 : Int32) dL_law_942 (by decide) ?_
  refine E_iadd dL_law_943 ?_
  obtain ⟨g367, h⟩ := h
  refine E_iald2 ((x3 + (2 : Int32)).toNatClampNeg) dL_law_944 hkx0 hbx0 g367 rfl ?_
  refine E_aload_n 0 dL_law_945 rfl rfl ?_
  refine E_iload_n 3 dL_law_946 rfl rfl ?_
  refine E_iconst (3 : Int32) dL_law_947 (by decide) ?_
  refine E_iadd dL_law_948 ?_
  obtain ⟨g368, h⟩ := h
  refine E_iald2 ((x3 + (3 : Int32)).toNatClampNeg) dL_law_949 hkx0 hbx0 g368 rfl ?_
  obtain ⟨d369, v374, σ370, hD371, hC372, h⟩ := h
  have hs373 := hC372.1.2.2.2.1 hs
  have hk375 := (hC372.1.2.2.1 _ hbx0).trans hkx0
  have hb376 := Nat.lt_of_lt_of_le hbx0 hC372.1.1
  refine E_callV (As := [.int (gI σ x0 (x3 + (1 : Int32)).toNatClampNeg), .int (gI σ x0 (x3 + (2 : Int32)).toNatClampNeg), .int (gI σ x0 (x3 + (3 : Int32)).toNatClampNeg)]) (rest := []) (r1 := (some (.int v374))) (b := 0) dL_law_950 ok_X11_lacks in_X11_lacks se_X11_lacks ml_L_77 hD371 rfl rfl (Nat.le_of_ble_eq_true rfl) (sk_0 hs) (sn hs (by decide)) (by decide) rfl (by decide +kernel) hC372 ?_
  refine E_aload_n 2 dL_law_953 rfl rfl ?_
  refine E_aload_n 0 dL_law_954 rfl rfl ?_
  refine E_iload_n 3 dL_law_955 rfl rfl ?_
  refine E_iconst (1 : Int32) dL_law_956 (by decide) ?_
  refine E_iadd dL_law_957 ?_
  obtain ⟨g377, h⟩ := h
  refine E_iald2 ((x3 + (1 : Int32)).toNatClampNeg) dL_law_958 hk375 hb376 g377 rfl ?_
  refine E_aload_n 0 dL_law_959 rfl rfl ?_
  refine E_iload_n 3 dL_law_960 rfl rfl ?_
  refine E_iconst (2 : Int32) dL_law_961 (by decide) ?_
  refine E_iadd dL_law_962 ?_
  obtain ⟨g378, h⟩ := h
  refine E_iald2 ((x3 + (2 : Int32)).toNatClampNeg) dL_law_963 hk375 hb376 g378 rfl ?_
  refine E_aload_n 0 dL_law_964 rfl rfl ?_
  refine E_iload_n 3 dL_law_965 rfl rfl ?_
  refine E_iconst (3 : Int32) dL_law_966 (by decide) ?_
  refine E_iadd dL_law_967 ?_
  obtain ⟨g379, h⟩ := h
  refine E_iald2 ((x3 + (3 : Int32)).toNatClampNeg) dL_law_968 hk375 hb376 g379 rfl ?_
  obtain ⟨d380, v385, σ381, hD382, hC383, h⟩ := h
  have hs384 := hC383.1.2.2.2.1 hs373
  have hk386 := (hC383.1.2.2.1 _ hb376).trans hk375
  have hb387 := Nat.lt_of_lt_of_le hb376 hC383.1.1
  refine E_callV (As := [.int (gI σ370 x0 (x3 + (1 : Int32)).toNatClampNeg), .int (gI σ370 x0 (x3 + (2 : Int32)).toNatClampNeg), .int (gI σ370 x0 (x3 + (3 : Int32)).toNatClampNeg)]) (rest := [.int v374]) (r1 := (some (.int v385))) (b := 124) dL_law_969 ok_X12_lacks in_X12_lacks se_X12_lacks ml_L_80 hD382 rfl rfl (Nat.le_of_ble_eq_true rfl) (sk_124 hs373) (sn hs373 (by decide)) (by decide) rfl (by decide +kernel) hC383 ?_
  refine E_icmp_eq 2038 dL_law_972 (by decide) (fun c => ?_) (fun c => ?_)
  · rw [if_pos c] at h
    exact E_lv [0, 1, 2, 3] rfl (w_L_law_2038 hs384 h)
  · rw [if_neg c] at h
    refine E_iconst (0 : Int32) dL_law_975 (by decide) ?_
    obtain ⟨rfl, rfl⟩ := h
    exact E_zret dL_law_976 rfl (Or.inl rfl)
def W_L_law_977 (X : Sx) (l : Launch) (D : Nat) (x0 : Nat) (x3 : Int32) (σ : AH) (r : Option Value) (σ' : AH) : Prop := ∃ nx0 : Nat, kd σ x0 = (100, nx0) ∧ x0 < nx σ ∧ vp_in (x3 + (1 : Int32)) nx0 ∧ vp_in (x3 + (2 : Int32)) nx0 ∧ ∃ d390 : Nat, ∃ v395 : Int32, ∃ σ391 : AH, d390 + 1 ≤ D ∧ Call X l m_X11_knock d390 [.ref 0, .int (gI σ x0 (x3 + (1 : Int32)).toNatClampNeg), .int (gI σ x0 (x3 + (2 : Int32)).toNatClampNeg)] σ (some (.int v395)) σ391 ∧ vp_in (x3 + (1 : Int32)) nx0 ∧ vp_in (x3 + (2 : Int32)) nx0 ∧ ∃ d400 : Nat, ∃ v405 : Int32, ∃ σ401 : AH, d400 + 1 ≤ D ∧ Call X l m_X12_knock d400 [.ref 124, .int (gI σ391 x0 (x3 + (1 : Int32)).toNatClampNeg), .int (gI σ391 x0 (x3 + (2 : Int32)).toNatClampNeg)] σ391 (some (.int v405)) σ401 ∧ (if v395 = v405 then W_L_law_2038 X l D x0 x3 σ401 r σ' else (r = some (.int (0 : Int32)) ∧ σ' = σ401))
set_option maxRecDepth 100000 in
theorem w_L_law_977 {X : Sx} {l : Launch} {D : Nat} {x0 : Nat} {x3 : Int32} {σ : AH} {r : Option Value} {σ' : AH} (hs : Sh σ) (h : W_L_law_977 X l D x0 x3 σ r σ') : E X l m_L_law D 977 [(0, .ref x0), (1, .ref 0), (2, .ref 124), (3, .int x3)] [] σ r σ' := by
  unfold W_L_law_977 at h
  obtain ⟨nx0, hkx0, hbx0, h⟩ := h
  refine E_aload_n 1 dL_law_977 rfl rfl ?_
  refine E_aload_n 0 dL_law_978 rfl rfl ?_
  refine E_iload_n 3 dL_law_979 rfl rfl ?_
  refine E_iconst (1 : Int32) dL_law_980 (by decide) ?_
  refine E_iadd dL_law_981 ?_
  obtain ⟨g388, h⟩ := h
  refine E_iald2 ((x3 + (1 : Int32)).toNatClampNeg) dL_law_982 hkx0 hbx0 g388 rfl ?_
  refine E_aload_n 0 dL_law_983 rfl rfl ?_
  refine E_iload_n 3 dL_law_984 rfl rfl ?_
  refine E_iconst (2 : Int32) dL_law_985 (by decide) ?_
  refine E_iadd dL_law_986 ?_
  obtain ⟨g389, h⟩ := h
  refine E_iald2 ((x3 + (2 : Int32)).toNatClampNeg) dL_law_987 hkx0 hbx0 g389 rfl ?_
  obtain ⟨d390, v395, σ391, hD392, hC393, h⟩ := h
  have hs394 := hC393.1.2.2.2.1 hs
  have hk396 := (hC393.1.2.2.1 _ hbx0).trans hkx0
  have hb397 := Nat.lt_of_lt_of_le hbx0 hC393.1.1
  refine E_callV (As := [.int (gI σ x0 (x3 + (1 : Int32)).toNatClampNeg), .int (gI σ x0 (x3 + (2 : Int32)).toNatClampNeg)]) (rest := []) (r1 := (some (.int v395))) (b := 0) dL_law_988 ok_X11_knock in_X11_knock se_X11_knock ml_L_81 hD392 rfl rfl (Nat.le_of_ble_eq_true rfl) (sk_0 hs) (sn hs (by decide)) (by decide) rfl (by decide +kernel) hC393 ?_
  refine E_aload_n 2 dL_law_991 rfl rfl ?_
  refine E_aload_n 0 dL_law_992 rfl rfl ?_
  refine E_iload_n 3 dL_law_993 rfl rfl ?_
  refine E_iconst (1 : Int32) dL_law_994 (by decide) ?_
  refine E_iadd dL_law_995 ?_
  obtain ⟨g398, h⟩ := h
  refine E_iald2 ((x3 + (1 : Int32)).toNatClampNeg) dL_law_996 hk396 hb397 g398 rfl ?_
  refine E_aload_n 0 dL_law_997 rfl rfl ?_
  refine E_iload_n 3 dL_law_998 rfl rfl ?_
  refine E_iconst (2 : Int32) dL_law_999 (by decide) ?_
  refine E_iadd dL_law_1000 ?_
  obtain ⟨g399, h⟩ := h
  refine E_iald2 ((x3 + (2 : Int32)).toNatClampNeg) dL_law_1001 hk396 hb397 g399 rfl ?_
  obtain ⟨d400, v405, σ401, hD402, hC403, h⟩ := h
  have hs404 := hC403.1.2.2.2.1 hs394
  have hk406 := (hC403.1.2.2.1 _ hb397).trans hk396
  have hb407 := Nat.lt_of_lt_of_le hb397 hC403.1.1
  refine E_callV (As := [.int (gI σ391 x0 (x3 + (1 : Int32)).toNatClampNeg), .int (gI σ391 x0 (x3 + (2 : Int32)).toNatClampNeg)]) (rest := [.int v395]) (r1 := (some (.int v405))) (b := 124) dL_law_1002 ok_X12_knock in_X12_knock se_X12_knock ml_L_84 hD402 rfl rfl (Nat.le_of_ble_eq_true rfl) (sk_124 hs394) (sn hs394 (by decide)) (by decide) rfl (by decide +kernel) hC403 ?_
  refine E_icmp_eq 2038 dL_law_1005 (by decide) (fun c => ?_) (fun c => ?_)
  · rw [if_pos c] at h
    exact E_lv [0, 1, 2, 3] rfl (w_L_law_2038 hs404 h)
  · rw [if_neg c] at h
    refine E_iconst (0 : Int32) dL_law_1008 (by decide) ?_
    obtain ⟨rfl, rfl⟩ := h
    exact E_zret dL_law_1009 rfl (Or.inl rfl)
def W_L_law_18 (X : Sx) (l : Launch) (D : Nat) (x0 : Nat) (x3 : Int32) (σ : AH) (r : Option Value) (σ' : AH) : Prop := ∃ nx0 : Nat, kd σ x0 = (100, nx0) ∧ x0 < nx σ ∧ (if ((Int32.ofNat nx0) - (9 : Int32)) < x3 then (r = some (.int (1 : Int32)) ∧ σ' = σ) else vp_in x3 nx0 ∧ (if ((gI σ x0 x3.toNatClampNeg) &&& (63 : Int32)) = 0 then W_L_law_224 X l D x0 x3 σ r σ' else (if ((gI σ x0 x3.toNatClampNeg) &&& (63 : Int32)) = 1 then W_L_law_287 X l D x0 x3 σ r σ' else (if ((gI σ x0 x3.toNatClampNeg) &&& (63 : Int32)) = 2 then W_L_law_310 X l D x0 x3 σ r σ' else (if ((gI σ x0 x3.toNatClampNeg) &&& (63 : Int32)) = 3 then W_L_law_343 X l D x0 x3 σ r σ' else (if ((gI σ x0 x3.toNatClampNeg) &&& (63 : Int32)) = 4 then W_L_law_356 X l D x0 x3 σ r σ' else (if ((gI σ x0 x3.toNatClampNeg) &&& (63 : Int32)) = 5 then W_L_law_409 X l D x0 x3 σ r σ' else (if ((gI σ x0 x3.toNatClampNeg) &&& (63 : Int32)) = 6 then W_L_law_452 X l D x0 x3 σ r σ' else (if ((gI σ x0 x3.toNatClampNeg) &&& (63 : Int32)) = 7 then W_L_law_527 X l D x0 x3 σ r σ' else (if ((gI σ x0 x3.toNatClampNeg) &&& (63 : Int32)) = 8 then W_L_law_580 X l D x0 x3 σ r σ' else (if ((gI σ x0 x3.toNatClampNeg) &&& (63 : Int32)) = 9 then W_L_law_679 X l D x0 x3 σ r σ' else (if ((gI σ x0 x3.toNatClampNeg) &&& (63 : Int32)) = 10 then W_L_law_732 X l D x0 x3 σ r σ' else (if ((gI σ x0 x3.toNatClampNeg) &&& (63 : Int32)) = 11 then W_L_law_785 X l D x0 x3 σ r σ' else (if ((gI σ x0 x3.toNatClampNeg) &&& (63 : Int32)) = 12 then W_L_law_828 X l D x0 x3 σ r σ' else (if ((gI σ x0 x3.toNatClampNeg) &&& (63 : Int32)) = 13 then W_L_law_881 X l D x0 x3 σ r σ' else (if ((gI σ x0 x3.toNatClampNeg) &&& (63 : Int32)) = 14 then W_L_law_934 X l D x0 x3 σ r σ' else (if ((gI σ x0 x3.toNatClampNeg) &&& (63 : Int32)) = 15 then W_L_law_977 X l D x0 x3 σ r σ' else (if ((gI σ x0 x3.toNatClampNeg) &&& (63 : Int32)) = 16 then W_L_law_1010 X l D x0 x3 σ r σ' else (if ((gI σ x0 x3.toNatClampNeg) &&& (63 : Int32)) = 17 then W_L_law_1033 X l D x0 x3 σ r σ' else (if ((gI σ x0 x3.toNatClampNeg) &&& (63 : Int32)) = 18 then W_L_law_1046 X l D x0 x3 σ r σ' else (if ((gI σ x0 x3.toNatClampNeg) &&& (63 : Int32)) = 19 then W_L_law_1069 X l D x0 x3 σ r σ' else (if ((gI σ x0 x3.toNatClampNeg) &&& (63 : Int32)) = 20 then W_L_law_1092 X l D x0 x3 σ r σ' else (if ((gI σ x0 x3.toNatClampNeg) &&& (63 : Int32)) = 21 then W_L_law_1115 X l D x0 x3 σ r σ' else (if ((gI σ x0 x3.toNatClampNeg) &&& (63 : Int32)) = 22 then W_L_law_1148 X l D x0 x3 σ r σ' else (if ((gI σ x0 x3.toNatClampNeg) &&& (63 : Int32)) = 23 then W_L_law_1235 X l D x0 x3 σ r σ' else (if ((gI σ x0 x3.toNatClampNeg) &&& (63 : Int32)) = 24 then W_L_law_1278 X l D x0 x3 σ r σ' else (if ((gI σ x0 x3.toNatClampNeg) &&& (63 : Int32)) = 25 then W_L_law_1311 X l D x0 x3 σ r σ' else (if ((gI σ x0 x3.toNatClampNeg) &&& (63 : Int32)) = 26 then W_L_law_1354 X l D x0 x3 σ r σ' else (if ((gI σ x0 x3.toNatClampNeg) &&& (63 : Int32)) = 27 then W_L_law_1407 X l D x0 x3 σ r σ' else (if ((gI σ x0 x3.toNatClampNeg) &&& (63 : Int32)) = 28 then W_L_law_1460 X l D x0 x3 σ r σ' else (if ((gI σ x0 x3.toNatClampNeg) &&& (63 : Int32)) = 29 then W_L_law_1483 X l D x0 x3 σ r σ' else (if ((gI σ x0 x3.toNatClampNeg) &&& (63 : Int32)) = 30 then W_L_law_1526 X l D x0 x3 σ r σ' else (if ((gI σ x0 x3.toNatClampNeg) &&& (63 : Int32)) = 31 then W_L_law_1559 X l D x0 x3 σ r σ' else (if ((gI σ x0 x3.toNatClampNeg) &&& (63 : Int32)) = 32 then W_L_law_1602 X l D x0 x3 σ r σ' else (if ((gI σ x0 x3.toNatClampNeg) &&& (63 : Int32)) = 33 then W_L_law_1635 X l D x0 x3 σ r σ' else (if ((gI σ x0 x3.toNatClampNeg) &&& (63 : Int32)) = 34 then W_L_law_1678 X l D x0 x3 σ r σ' else (if ((gI σ x0 x3.toNatClampNeg) &&& (63 : Int32)) = 35 then W_L_law_1731 X l D x0 x3 σ r σ' else (if ((gI σ x0 x3.toNatClampNeg) &&& (63 : Int32)) = 36 then W_L_law_1764 X l D x0 x3 σ r σ' else (if ((gI σ x0 x3.toNatClampNeg) &&& (63 : Int32)) = 37 then W_L_law_1807 X l D x0 x3 σ r σ' else (if ((gI σ x0 x3.toNatClampNeg) &&& (63 : Int32)) = 38 then W_L_law_1860 X l D x0 x3 σ r σ' else (if ((gI σ x0 x3.toNatClampNeg) &&& (63 : Int32)) = 39 then W_L_law_1913 X l D x0 x3 σ r σ' else (if ((gI σ x0 x3.toNatClampNeg) &&& (63 : Int32)) = 40 then W_L_law_1956 X l D x0 x3 σ r σ' else (if ((gI σ x0 x3.toNatClampNeg) &&& (63 : Int32)) = 41 then W_L_law_1979 X l D x0 x3 σ r σ' else (if ((gI σ x0 x3.toNatClampNeg) &&& (63 : Int32)) = 42 then W_L_law_2002 X l D x0 x3 σ r σ' else (if ((gI σ x0 x3.toNatClampNeg) &&& (63 : Int32)) = 43 then W_L_law_2025 X l D x0 x3 σ r σ' else W_L_law_2038 X l D x0 x3 σ r σ')))))))))))))))))))))))))))))))))))))))))))))
set_option maxRecDepth 100000 in
theorem w_L_law_18 {X : Sx} {l : Launch} {D : Nat} {x0 : Nat} {x3 : Int32} {σ : AH} {r : Option Value} {σ' : AH} (hs : Sh σ) (h : W_L_law_18 X l D x0 x3 σ r σ') : E X l m_L_law D 18 [(0, .ref x0), (1, .ref 0), (2, .ref 124), (3, .int x3)] [] σ r σ' := by
  unfold W_L_law_18 at h
  obtain ⟨nx0, hkx0, hbx0, h⟩ := h
  refine E_iload_n 3 dL_law_18 rfl rfl ?_
  refine E_aload_n 0 dL_law_19 rfl rfl ?_
  refine E_alen dL_law_20 hkx0 hbx0 (by decide) (by decide) ?_
  refine E_bipush (9 : Int32) dL_law_21 (by decide) ?_
  refine E_isub dL_law_23 ?_
  refine E_icmp_gt 2044 dL_law_24 (by decide) (fun c => ?_) (fun c => ?_)
  · rw [if_pos c] at h
    refine E_iconst (1 : Int32) dL_law_2044 (by decide) ?_
    obtain ⟨rfl, rfl⟩ := h
    exact E_zret dL_law_2045 rfl (Or.inr rfl)
  · rw [if_neg c] at h
    refine E_aload_n 0 dL_law_27 rfl rfl ?_
    refine E_iload_n 3 dL_law_28 rfl rfl ?_
    obtain ⟨g37, h⟩ := h
    refine E_iald2 (x3.toNatClampNeg) dL_law_29 hkx0 hbx0 g37 rfl ?_
    refine E_bipush (63 : Int32) dL_law_30 (by decide) ?_
    refine E_iand dL_law_32 ?_
    by_cases c0 : ((gI σ x0 x3.toNatClampNeg) &&& (63 : Int32)) = 0
    · rw [if_pos c0] at h
      refine E_tabIn (off := 191) 224 dL_law_33 (by rw [c0]; decide) (by rw [c0]; decide) (by rw [c0]; rfl) (by decide) ?_
      exact E_lv [0, 1, 2, 3] rfl (w_L_law_224 hs h)
    rw [if_neg c0] at h
    by_cases c1 : ((gI σ x0 x3.toNatClampNeg) &&& (63 : Int32)) = 1
    · rw [if_pos c1] at h
      refine E_tabIn (off := 254) 287 dL_law_33 (by rw [c1]; decide) (by rw [c1]; decide) (by rw [c1]; rfl) (by decide) ?_
      exact E_lv [0, 1, 2, 3] rfl (w_L_law_287 hs h)
    rw [if_neg c1] at h
    by_cases c2 : ((gI σ x0 x3.toNatClampNeg) &&& (63 : Int32)) = 2
    · rw [if_pos c2] at h
      refine E_tabIn (off := 277) 310 dL_law_33 (by rw [c2]; decide) (by rw [c2]; decide) (by rw [c2]; rfl) (by decide) ?_
      exact E_lv [0, 1, 2, 3] rfl (w_L_law_310 hs h)
    rw [if_neg c2] at h
    by_cases c3 : ((gI σ x0 x3.toNatClampNeg) &&& (63 : Int32)) = 3
    · rw [if_pos c3] at h
      refine E_tabIn (off := 310) 343 dL_law_33 (by rw [c3]; decide) (by rw [c3]; decide) (by rw [c3]; rfl) (by decide) ?_
      exact E_lv [0, 1, 2, 3] rfl (w_L_law_343 hs h)
    rw [if_neg c3] at h
    by_cases c4 : ((gI σ x0 x3.toNatClampNeg) &&& (63 : Int32)) = 4
    · rw [if_pos c4] at h
      refine E_tabIn (off := 323) 356 dL_law_33 (by rw [c4]; decide) (by rw [c4]; decide) (by rw [c4]; rfl) (by decide) ?_
      exact E_lv [0, 1, 2, 3] rfl (w_L_law_356 hs h)
    rw [if_neg c4] at h
    by_cases c5 : ((gI σ x0 x3.toNatClampNeg) &&& (63 : Int32)) = 5
    · rw [if_pos c5] at h
      refine E_tabIn (off := 376) 409 dL_law_33 (by rw [c5]; decide) (by rw [c5]; decide) (by rw [c5]; rfl) (by decide) ?_
      exact E_lv [0, 1, 2, 3] rfl (w_L_law_409 hs h)
    rw [if_neg c5] at h
    by_cases c6 : ((gI σ x0 x3.toNatClampNeg) &&& (63 : Int32)) = 6
    · rw [if_pos c6] at h
      refine E_tabIn (off := 419) 452 dL_law_33 (by rw [c6]; decide) (by rw [c6]; decide) (by rw [c6]; rfl) (by decide) ?_
      exact E_lv [0, 1, 2, 3] rfl (w_L_law_452 hs h)
    rw [if_neg c6] at h
    by_cases c7 : ((gI σ x0 x3.toNatClampNeg) &&& (63 : Int32)) = 7
    · rw [if_pos c7] at h
      refine E_tabIn (off := 494) 527 dL_law_33 (by rw [c7]; decide) (by rw [c7]; decide) (by rw [c7]; rfl) (by decide) ?_
      exact E_lv [0, 1, 2, 3] rfl (w_L_law_527 hs h)
    rw [if_neg c7] at h
    by_cases c8 : ((gI σ x0 x3.toNatClampNeg) &&& (63 : Int32)) = 8
    · rw [if_pos c8] at h
      refine E_tabIn (off := 547) 580 dL_law_33 (by rw [c8]; decide) (by rw [c8]; decide) (by rw [c8]; rfl) (by decide) ?_
      exact E_lv [0, 1, 2, 3] rfl (w_L_law_580 hs h)
    rw [if_neg c8] at h
    by_cases c9 : ((gI σ x0 x3.toNatClampNeg) &&& (63 : Int32)) = 9
    · rw [if_pos c9] at h
      refine E_tabIn (off := 646) 679 dL_law_33 (by rw [c9]; decide) (by rw [c9]; decide) (by rw [c9]; rfl) (by decide) ?_
      exact E_lv [0, 1, 2, 3] rfl (w_L_law_679 hs h)
    rw [if_neg c9] at h
    by_cases c10 : ((gI σ x0 x3.toNatClampNeg) &&& (63 : Int32)) = 10
    · rw [if_pos c10] at h
      refine E_tabIn (off := 699) 732 dL_law_33 (by rw [c10]; decide) (by rw [c10]; decide) (by rw [c10]; rfl) (by decide) ?_
      exact E_lv [0, 1, 2, 3] rfl (w_L_law_732 hs h)
    rw [if_neg c10] at h
    by_cases c11 : ((gI σ x0 x3.toNatClampNeg) &&& (63 : Int32)) = 11
    · rw [if_pos c11] at h
      refine E_tabIn (off := 752) 785 dL_law_33 (by rw [c11]; decide) (by rw [c11]; decide) (by rw [c11]; rfl) (by decide) ?_
      exact E_lv [0, 1, 2, 3] rfl (w_L_law_785 hs h)
    rw [if_neg c11] at h
    by_cases c12 : ((gI σ x0 x3.toNatClampNeg) &&& (63 : Int32)) = 12
    · rw [if_pos c12] at h
      refine E_tabIn (off := 795) 828 dL_law_33 (by rw [c12]; decide) (by rw [c12]; decide) (by rw [c12]; rfl) (by decide) ?_
      exact E_lv [0, 1, 2, 3] rfl (w_L_law_828 hs h)
    rw [if_neg c12] at h
    by_cases c13 : ((gI σ x0 x3.toNatClampNeg) &&& (63 : Int32)) = 13
    · rw [if_pos c13] at h
      refine E_tabIn (off := 848) 881 dL_law_33 (by rw [c13]; decide) (by rw [c13]; decide) (by rw [c13]; rfl) (by decide) ?_
      exact E_lv [0, 1, 2, 3] rfl (w_L_law_881 hs h)
    rw [if_neg c13] at h
    by_cases c14 : ((gI σ x0 x3.toNatClampNeg) &&& (63 : Int32)) = 14
    · rw [if_pos c14] at h
      refine E_tabIn (off := 901) 934 dL_law_33 (by rw [c14]; decide) (by rw [c14]; decide) (by rw [c14]; rfl) (by decide) ?_
      exact E_lv [0, 1, 2, 3] rfl (w_L_law_934 hs h)
    rw [if_neg c14] at h
    by_cases c15 : ((gI σ x0 x3.toNatClampNeg) &&& (63 : Int32)) = 15
    · rw [if_pos c15] at h
      refine E_tabIn (off := 944) 977 dL_law_33 (by rw [c15]; decide) (by rw [c15]; decide) (by rw [c15]; rfl) (by decide) ?_
      exact E_lv [0, 1, 2, 3] rfl (w_L_law_977 hs h)
    rw [if_neg c15] at h
    by_cases c16 : ((gI σ x0 x3.toNatClampNeg) &&& (63 : Int32)) = 16
    · rw [if_pos c16] at h
      refine E_tabIn (off := 977) 1010 dL_law_33 (by rw [c16]; decide) (by rw [c16]; decide) (by rw [c16]; rfl) (by decide) ?_
      exact E_lv [0, 1, 2, 3] rfl (w_L_law_1010 hs h)
    rw [if_neg c16] at h
    by_cases c17 : ((gI σ x0 x3.toNatClampNeg) &&& (63 : Int32)) = 17
    · rw [if_pos c17] at h
      refine E_tabIn (off := 1000) 1033 dL_law_33 (by rw [c17]; decide) (by rw [c17]; decide) (by rw [c17]; rfl) (by decide) ?_
      exact E_lv [0, 1, 2, 3] rfl (w_L_law_1033 hs h)
    rw [if_neg c17] at h
    by_cases c18 : ((gI σ x0 x3.toNatClampNeg) &&& (63 : Int32)) = 18
    · rw [if_pos c18] at h
      refine E_tabIn (off := 1013) 1046 dL_law_33 (by rw [c18]; decide) (by rw [c18]; decide) (by rw [c18]; rfl) (by decide) ?_
      exact E_lv [0, 1, 2, 3] rfl (w_L_law_1046 hs h)
    rw [if_neg c18] at h
    by_cases c19 : ((gI σ x0 x3.toNatClampNeg) &&& (63 : Int32)) = 19
    · rw [if_pos c19] at h
      refine E_tabIn (off := 1036) 1069 dL_law_33 (by rw [c19]; decide) (by rw [c19]; decide) (by rw [c19]; rfl) (by decide) ?_
      exact E_lv [0, 1, 2, 3] rfl (w_L_law_1069 hs h)
    rw [if_neg c19] at h
    by_cases c20 : ((gI σ x0 x3.toNatClampNeg) &&& (63 : Int32)) = 20
    · rw [if_pos c20] at h
      refine E_tabIn (off := 1059) 1092 dL_law_33 (by rw [c20]; decide) (by rw [c20]; decide) (by rw [c20]; rfl) (by decide) ?_
      exact E_lv [0, 1, 2, 3] rfl (w_L_law_1092 hs h)
    rw [if_neg c20] at h
    by_cases c21 : ((gI σ x0 x3.toNatClampNeg) &&& (63 : Int32)) = 21
    · rw [if_pos c21] at h
      refine E_tabIn (off := 1082) 1115 dL_law_33 (by rw [c21]; decide) (by rw [c21]; decide) (by rw [c21]; rfl) (by decide) ?_
      exact E_lv [0, 1, 2, 3] rfl (w_L_law_1115 hs h)
    rw [if_neg c21] at h
    by_cases c22 : ((gI σ x0 x3.toNatClampNeg) &&& (63 : Int32)) = 22
    · rw [if_pos c22] at h
      refine E_tabIn (off := 1115) 1148 dL_law_33 (by rw [c22]; decide) (by rw [c22]; decide) (by rw [c22]; rfl) (by decide) ?_
      exact E_lv [0, 1, 2, 3] rfl (w_L_law_1148 hs h)
    rw [if_neg c22] at h
    by_cases c23 : ((gI σ x0 x3.toNatClampNeg) &&& (63 : Int32)) = 23
    · rw [if_pos c23] at h
      refine E_tabIn (off := 1202) 1235 dL_law_33 (by rw [c23]; decide) (by rw [c23]; decide) (by rw [c23]; rfl) (by decide) ?_
      exact E_lv [0, 1, 2, 3] rfl (w_L_law_1235 hs h)
    rw [if_neg c23] at h
    by_cases c24 : ((gI σ x0 x3.toNatClampNeg) &&& (63 : Int32)) = 24
    · rw [if_pos c24] at h
      refine E_tabIn (off := 1245) 1278 dL_law_33 (by rw [c24]; decide) (by rw [c24]; decide) (by rw [c24]; rfl) (by decide) ?_
      exact E_lv [0, 1, 2, 3] rfl (w_L_law_1278 hs h)
    rw [if_neg c24] at h
    by_cases c25 : ((gI σ x0 x3.toNatClampNeg) &&& (63 : Int32)) = 25
    · rw [if_pos c25] at h
      refine E_tabIn (off := 1278) 1311 dL_law_33 (by rw [c25]; decide) (by rw [c25]; decide) (by rw [c25]; rfl) (by decide) ?_
      exact E_lv [0, 1, 2, 3] rfl (w_L_law_1311 hs h)
    rw [if_neg c25] at h
    by_cases c26 : ((gI σ x0 x3.toNatClampNeg) &&& (63 : Int32)) = 26
    · rw [if_pos c26] at h
      refine E_tabIn (off := 1321) 1354 dL_law_33 (by rw [c26]; decide) (by rw [c26]; decide) (by rw [c26]; rfl) (by decide) ?_
      exact E_lv [0, 1, 2, 3] rfl (w_L_law_1354 hs h)
    rw [if_neg c26] at h
    by_cases c27 : ((gI σ x0 x3.toNatClampNeg) &&& (63 : Int32)) = 27
    · rw [if_pos c27] at h
      refine E_tabIn (off := 1374) 1407 dL_law_33 (by rw [c27]; decide) (by rw [c27]; decide) (by rw [c27]; rfl) (by decide) ?_
      exact E_lv [0, 1, 2, 3] rfl (w_L_law_1407 hs h)
    rw [if_neg c27] at h
    by_cases c28 : ((gI σ x0 x3.toNatClampNeg) &&& (63 : Int32)) = 28
    · rw [if_pos c28] at h
      refine E_tabIn (off := 1427) 1460 dL_law_33 (by rw [c28]; decide) (by rw [c28]; decide) (by rw [c28]; rfl) (by decide) ?_
      exact E_lv [0, 1, 2, 3] rfl (w_L_law_1460 hs h)
    rw [if_neg c28] at h
    by_cases c29 : ((gI σ x0 x3.toNatClampNeg) &&& (63 : Int32)) = 29
    · rw [if_pos c29] at h
      refine E_tabIn (off := 1450) 1483 dL_law_33 (by rw [c29]; decide) (by rw [c29]; decide) (by rw [c29]; rfl) (by decide) ?_
      exact E_lv [0, 1, 2, 3] rfl (w_L_law_1483 hs h)
    rw [if_neg c29] at h
    by_cases c30 : ((gI σ x0 x3.toNatClampNeg) &&& (63 : Int32)) = 30
    · rw [if_pos c30] at h
      refine E_tabIn (off := 1493) 1526 dL_law_33 (by rw [c30]; decide) (by rw [c30]; decide) (by rw [c30]; rfl) (by decide) ?_
      exact E_lv [0, 1, 2, 3] rfl (w_L_law_1526 hs h)
    rw [if_neg c30] at h
    by_cases c31 : ((gI σ x0 x3.toNatClampNeg) &&& (63 : Int32)) = 31
    · rw [if_pos c31] at h
      refine E_tabIn (off := 1526) 1559 dL_law_33 (by rw [c31]; decide) (by rw [c31]; decide) (by rw [c31]; rfl) (by decide) ?_
      exact E_lv [0, 1, 2, 3] rfl (w_L_law_1559 hs h)
    rw [if_neg c31] at h
    by_cases c32 : ((gI σ x0 x3.toNatClampNeg) &&& (63 : Int32)) = 32
    · rw [if_pos c32] at h
      refine E_tabIn (off := 1569) 1602 dL_law_33 (by rw [c32]; decide) (by rw [c32]; decide) (by rw [c32]; rfl) (by decide) ?_
      exact E_lv [0, 1, 2, 3] rfl (w_L_law_1602 hs h)
    rw [if_neg c32] at h
    by_cases c33 : ((gI σ x0 x3.toNatClampNeg) &&& (63 : Int32)) = 33
    · rw [if_pos c33] at h
      refine E_tabIn (off := 1602) 1635 dL_law_33 (by rw [c33]; decide) (by rw [c33]; decide) (by rw [c33]; rfl) (by decide) ?_
      exact E_lv [0, 1, 2, 3] rfl (w_L_law_1635 hs h)
    rw [if_neg c33] at h
    by_cases c34 : ((gI σ x0 x3.toNatClampNeg) &&& (63 : Int32)) = 34
    · rw [if_pos c34] at h
      refine E_tabIn (off := 1645) 1678 dL_law_33 (by rw [c34]; decide) (by rw [c34]; decide) (by rw [c34]; rfl) (by decide) ?_
      exact E_lv [0, 1, 2, 3] rfl (w_L_law_1678 hs h)
    rw [if_neg c34] at h
    by_cases c35 : ((gI σ x0 x3.toNatClampNeg) &&& (63 : Int32)) = 35
    · rw [if_pos c35] at h
      refine E_tabIn (off := 1698) 1731 dL_law_33 (by rw [c35]; decide) (by rw [c35]; decide) (by rw [c35]; rfl) (by decide) ?_
      exact E_lv [0, 1, 2, 3] rfl (w_L_law_1731 hs h)
    rw [if_neg c35] at h
    by_cases c36 : ((gI σ x0 x3.toNatClampNeg) &&& (63 : Int32)) = 36
    · rw [if_pos c36] at h
      refine E_tabIn (off := 1731) 1764 dL_law_33 (by rw [c36]; decide) (by rw [c36]; decide) (by rw [c36]; rfl) (by decide) ?_
      exact E_lv [0, 1, 2, 3] rfl (w_L_law_1764 hs h)
    rw [if_neg c36] at h
    by_cases c37 : ((gI σ x0 x3.toNatClampNeg) &&& (63 : Int32)) = 37
    · rw [if_pos c37] at h
      refine E_tabIn (off := 1774) 1807 dL_law_33 (by rw [c37]; decide) (by rw [c37]; decide) (by rw [c37]; rfl) (by decide) ?_
      exact E_lv [0, 1, 2, 3] rfl (w_L_law_1807 hs h)
    rw [if_neg c37] at h
    by_cases c38 : ((gI σ x0 x3.toNatClampNeg) &&& (63 : Int32)) = 38
    · rw [if_pos c38] at h
      refine E_tabIn (off := 1827) 1860 dL_law_33 (by rw [c38]; decide) (by rw [c38]; decide) (by rw [c38]; rfl) (by decide) ?_
      exact E_lv [0, 1, 2, 3] rfl (w_L_law_1860 hs h)
    rw [if_neg c38] at h
    by_cases c39 : ((gI σ x0 x3.toNatClampNeg) &&& (63 : Int32)) = 39
    · rw [if_pos c39] at h
      refine E_tabIn (off := 1880) 1913 dL_law_33 (by rw [c39]; decide) (by rw [c39]; decide) (by rw [c39]; rfl) (by decide) ?_
      exact E_lv [0, 1, 2, 3] rfl (w_L_law_1913 hs h)
    rw [if_neg c39] at h
    by_cases c40 : ((gI σ x0 x3.toNatClampNeg) &&& (63 : Int32)) = 40
    · rw [if_pos c40] at h
      refine E_tabIn (off := 1923) 1956 dL_law_33 (by rw [c40]; decide) (by rw [c40]; decide) (by rw [c40]; rfl) (by decide) ?_
      exact E_lv [0, 1, 2, 3] rfl (w_L_law_1956 hs h)
    rw [if_neg c40] at h
    by_cases c41 : ((gI σ x0 x3.toNatClampNeg) &&& (63 : Int32)) = 41
    · rw [if_pos c41] at h
      refine E_tabIn (off := 1946) 1979 dL_law_33 (by rw [c41]; decide) (by rw [c41]; decide) (by rw [c41]; rfl) (by decide) ?_
      exact E_lv [0, 1, 2, 3] rfl (w_L_law_1979 hs h)
    rw [if_neg c41] at h
    by_cases c42 : ((gI σ x0 x3.toNatClampNeg) &&& (63 : Int32)) = 42
    · rw [if_pos c42] at h
      refine E_tabIn (off := 1969) 2002 dL_law_33 (by rw [c42]; decide) (by rw [c42]; decide) (by rw [c42]; rfl) (by decide) ?_
      exact E_lv [0, 1, 2, 3] rfl (w_L_law_2002 hs h)
    rw [if_neg c42] at h
    by_cases c43 : ((gI σ x0 x3.toNatClampNeg) &&& (63 : Int32)) = 43
    · rw [if_pos c43] at h
      refine E_tabIn (off := 1992) 2025 dL_law_33 (by rw [c43]; decide) (by rw [c43]; decide) (by rw [c43]; rfl) (by decide) ?_
      exact E_lv [0, 1, 2, 3] rfl (w_L_law_2025 hs h)
    rw [if_neg c43] at h
    refine E_tabOut 2038 dL_law_33 (i32_out (x := ((gI σ x0 x3.toNatClampNeg) &&& (63 : Int32))) 0 43 (fun k h1 h2 => by
        rcases (show k = 0 ∨ k = 1 ∨ k = 2 ∨ k = 3 ∨ k = 4 ∨ k = 5 ∨ k = 6 ∨ k = 7 ∨ k = 8 ∨ k = 9 ∨ k = 10 ∨ k = 11 ∨ k = 12 ∨ k = 13 ∨ k = 14 ∨ k = 15 ∨ k = 16 ∨ k = 17 ∨ k = 18 ∨ k = 19 ∨ k = 20 ∨ k = 21 ∨ k = 22 ∨ k = 23 ∨ k = 24 ∨ k = 25 ∨ k = 26 ∨ k = 27 ∨ k = 28 ∨ k = 29 ∨ k = 30 ∨ k = 31 ∨ k = 32 ∨ k = 33 ∨ k = 34 ∨ k = 35 ∨ k = 36 ∨ k = 37 ∨ k = 38 ∨ k = 39 ∨ k = 40 ∨ k = 41 ∨ k = 42 ∨ k = 43 by omega) with rfl | rfl | rfl | rfl | rfl | rfl | rfl | rfl | rfl | rfl | rfl | rfl | rfl | rfl | rfl | rfl | rfl | rfl | rfl | rfl | rfl | rfl | rfl | rfl | rfl | rfl | rfl | rfl | rfl | rfl | rfl | rfl | rfl | rfl | rfl | rfl | rfl | rfl | rfl | rfl | rfl | rfl | rfl | rfl
        · exact c0
        · exact c1
        · exact c2
        · exact c3
        · exact c4
        · exact c5
        · exact c6
        · exact c7
        · exact c8
        · exact c9
        · exact c10
        · exact c11
        · exact c12
        · exact c13
        · exact c14
        · exact c15
        · exact c16
        · exact c17
        · exact c18
        · exact c19
        · exact c20
        · exact c21
        · exact c22
        · exact c23
        · exact c24
        · exact c25
        · exact c26
        · exact c27
        · exact c28
        · exact c29
        · exact c30
        · exact c31
        · exact c32
        · exact c33
        · exact c34
        · exact c35
        · exact c36
        · exact c37
        · exact c38
        · exact c39
        · exact c40
        · exact c41
        · exact c42
        · exact c43
        )) (by decide) ?_
    exact E_lv [0, 1, 2, 3] rfl (w_L_law_2038 hs h)
