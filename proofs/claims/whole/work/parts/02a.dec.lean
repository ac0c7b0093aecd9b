theorem dX0_init_0 : decode cX0_init 0 = .ok (.aload_n 0, 1) := by decide +kernel
theorem dX0_init_1 : decode cX0_init 1 = .ok (.invokespecial 3, 3) := by decide +kernel
theorem dX0_init_4 : decode cX0_init 4 = .ok (.aload_n 0, 1) := by decide +kernel
theorem dX0_init_5 : decode cX0_init 5 = .ok (.bipush 30, 2) := by decide +kernel
theorem dX0_init_7 : decode cX0_init 7 = .ok (.newarray .int, 2) := by decide +kernel
theorem dX0_init_9 : decode cX0_init 9 = .ok (.putfield 11, 3) := by decide +kernel
theorem dX0_init_12 : decode cX0_init 12 = .ok (.aload_n 0, 1) := by decide +kernel
theorem dX0_init_13 : decode cX0_init 13 = .ok (.iconst 0, 1) := by decide +kernel
theorem dX0_init_14 : decode cX0_init 14 = .ok (.putfield 15, 3) := by decide +kernel
theorem dX0_init_17 : decode cX0_init 17 = .ok (.aload_n 0, 1) := by decide +kernel
theorem dX0_init_18 : decode cX0_init 18 = .ok (.iconst 0, 1) := by decide +kernel
theorem dX0_init_19 : decode cX0_init 19 = .ok (.putfield 19, 3) := by decide +kernel
theorem dX0_init_22 : decode cX0_init 22 = .ok (.aload_n 0, 1) := by decide +kernel
theorem dX0_init_23 : decode cX0_init 23 = .ok (.iconst 0, 1) := by decide +kernel
theorem dX0_init_24 : decode cX0_init 24 = .ok (.putfield 22, 3) := by decide +kernel
theorem dX0_init_27 : decode cX0_init 27 = .ok (.aload_n 0, 1) := by decide +kernel
theorem dX0_init_28 : decode cX0_init 28 = .ok (.iconst 0, 1) := by decide +kernel
theorem dX0_init_29 : decode cX0_init 29 = .ok (.putfield 25, 3) := by decide +kernel
theorem dX0_init_32 : decode cX0_init 32 = .ok (.aload_n 0, 1) := by decide +kernel
theorem dX0_init_33 : decode cX0_init 33 = .ok (.iconst 0, 1) := by decide +kernel
theorem dX0_init_34 : decode cX0_init 34 = .ok (.putfield 28, 3) := by decide +kernel
theorem dX0_init_37 : decode cX0_init 37 = .ok (.return_, 1) := by decide +kernel
theorem dX0_clearTrace_0 : decode cX0_clearTrace 0 = .ok (.aload_n 0, 1) := by decide +kernel
theorem dX0_clearTrace_1 : decode cX0_clearTrace 1 = .ok (.iconst 0, 1) := by decide +kernel
theorem dX0_clearTrace_2 : decode cX0_clearTrace 2 = .ok (.putfield 15, 3) := by decide +kernel
theorem dX0_clearTrace_5 : decode cX0_clearTrace 5 = .ok (.return_, 1) := by decide +kernel
theorem dX0_play_0 : decode cX0_play 0 = .ok (.aload_n 0, 1) := by decide +kernel
theorem dX0_play_1 : decode cX0_play 1 = .ok (.iload_n 1, 1) := by decide +kernel
theorem dX0_play_2 : decode cX0_play 2 = .ok (.putfield 19, 3) := by decide +kernel
theorem dX0_play_5 : decode cX0_play 5 = .ok (.aload_n 0, 1) := by decide +kernel
theorem dX0_play_6 : decode cX0_play 6 = .ok (.iload_n 2, 1) := by decide +kernel
theorem dX0_play_7 : decode cX0_play 7 = .ok (.putfield 22, 3) := by decide +kernel
theorem dX0_play_10 : decode cX0_play 10 = .ok (.aload_n 0, 1) := by decide +kernel
theorem dX0_play_11 : decode cX0_play 11 = .ok (.iload_n 3, 1) := by decide +kernel
theorem dX0_play_12 : decode cX0_play 12 = .ok (.putfield 25, 3) := by decide +kernel
theorem dX0_play_15 : decode cX0_play 15 = .ok (.aload_n 0, 1) := by decide +kernel
theorem dX0_play_16 : decode cX0_play 16 = .ok (.iconst 0, 1) := by decide +kernel
theorem dX0_play_17 : decode cX0_play 17 = .ok (.putfield 28, 3) := by decide +kernel
theorem dX0_play_20 : decode cX0_play 20 = .ok (.aload_n 0, 1) := by decide +kernel
theorem dX0_play_21 : decode cX0_play 21 = .ok (.iload_n 1, 1) := by decide +kernel
theorem dX0_play_22 : decode cX0_play 22 = .ok (.iload 4, 2) := by decide +kernel
theorem dX0_play_24 : decode cX0_play 24 = .ok (.iload 5, 2) := by decide +kernel
theorem dX0_play_26 : decode cX0_play 26 = .ok (.iconst 0, 1) := by decide +kernel
theorem dX0_play_27 : decode cX0_play 27 = .ok (.invokevirtual 32, 3) := by decide +kernel
theorem dX0_play_30 : decode cX0_play 30 = .ok (.istore 6, 2) := by decide +kernel
theorem dX0_play_32 : decode cX0_play 32 = .ok (.aload_n 0, 1) := by decide +kernel
theorem dX0_play_33 : decode cX0_play 33 = .ok (.getfield 28, 3) := by decide +kernel
theorem dX0_play_36 : decode cX0_play 36 = .ok (.ifCond .eq 8, 3) := by decide +kernel
theorem dX0_play_39 : decode cX0_play 39 = .ok (.bipush (-15), 2) := by decide +kernel
theorem dX0_play_41 : decode cX0_play 41 = .ok (.goto 5, 3) := by decide +kernel
theorem dX0_play_44 : decode cX0_play 44 = .ok (.iload 6, 2) := by decide +kernel
theorem dX0_play_46 : decode cX0_play 46 = .ok (.ireturn, 1) := by decide +kernel
theorem dX0_perform_0 : decode cX0_perform 0 = .ok (.iload 4, 2) := by decide +kernel
theorem dX0_perform_2 : decode cX0_perform 2 = .ok (.bipush 40, 2) := by decide +kernel
theorem dX0_perform_4 : decode cX0_perform 4 = .ok (.if_icmp .le 5, 3) := by decide +kernel
theorem dX0_perform_7 : decode cX0_perform 7 = .ok (.iconst 0, 1) := by decide +kernel
theorem dX0_perform_8 : decode cX0_perform 8 = .ok (.ireturn, 1) := by decide +kernel
theorem dX0_perform_9 : decode cX0_perform 9 = .ok (.getstatic 36, 3) := by decide +kernel
theorem dX0_perform_12 : decode cX0_perform 12 = .ok (.iconst 4, 1) := by decide +kernel
theorem dX0_perform_13 : decode cX0_perform 13 = .ok (.iload_n 1, 1) := by decide +kernel
theorem dX0_perform_14 : decode cX0_perform 14 = .ok (.imul, 1) := by decide +kernel
theorem dX0_perform_15 : decode cX0_perform 15 = .ok (.iload_n 2, 1) := by decide +kernel
theorem dX0_perform_16 : decode cX0_perform 16 = .ok (.iadd, 1) := by decide +kernel
theorem dX0_perform_17 : decode cX0_perform 17 = .ok (.iaload, 1) := by decide +kernel
theorem dX0_perform_18 : decode cX0_perform 18 = .ok (.istore 5, 2) := by decide +kernel
theorem dX0_perform_20 : decode cX0_perform 20 = .ok (.aload_n 0, 1) := by decide +kernel
theorem dX0_perform_21 : decode cX0_perform 21 = .ok (.getfield 15, 3) := by decide +kernel
theorem dX0_perform_24 : decode cX0_perform 24 = .ok (.bipush 30, 2) := by decide +kernel
theorem dX0_perform_26 : decode cX0_perform 26 = .ok (.if_icmp .ge 24, 3) := by decide +kernel
theorem dX0_perform_29 : decode cX0_perform 29 = .ok (.aload_n 0, 1) := by decide +kernel
theorem dX0_perform_30 : decode cX0_perform 30 = .ok (.getfield 11, 3) := by decide +kernel
theorem dX0_perform_33 : decode cX0_perform 33 = .ok (.aload_n 0, 1) := by decide +kernel
theorem dX0_perform_34 : decode cX0_perform 34 = .ok (.getfield 15, 3) := by decide +kernel
theorem dX0_perform_37 : decode cX0_perform 37 = .ok (.iload 5, 2) := by decide +kernel
theorem dX0_perform_39 : decode cX0_perform 39 = .ok (.iastore, 1) := by decide +kernel
theorem dX0_perform_40 : decode cX0_perform 40 = .ok (.aload_n 0, 1) := by decide +kernel
theorem dX0_perform_41 : decode cX0_perform 41 = .ok (.dup, 1) := by decide +kernel
theorem dX0_perform_42 : decode cX0_perform 42 = .ok (.getfield 15, 3) := by decide +kernel
theorem dX0_perform_45 : decode cX0_perform 45 = .ok (.iconst 1, 1) := by decide +kernel
theorem dX0_perform_46 : decode cX0_perform 46 = .ok (.iadd, 1) := by decide +kernel
theorem dX0_perform_47 : decode cX0_perform 47 = .ok (.putfield 15, 3) := by decide +kernel
theorem dX0_perform_50 : decode cX0_perform 50 = .ok (.aload_n 0, 1) := by decide +kernel
theorem dX0_perform_51 : decode cX0_perform 51 = .ok (.iload 5, 2) := by decide +kernel
theorem dX0_perform_53 : decode cX0_perform 53 = .ok (.iload_n 3, 1) := by decide +kernel
theorem dX0_perform_54 : decode cX0_perform 54 = .ok (.iload 4, 2) := by decide +kernel
theorem dX0_perform_56 : decode cX0_perform 56 = .ok (.iconst 1, 1) := by decide +kernel
theorem dX0_perform_57 : decode cX0_perform 57 = .ok (.iadd, 1) := by decide +kernel
theorem dX0_perform_58 : decode cX0_perform 58 = .ok (.invokevirtual 39, 3) := by decide +kernel
theorem dX0_perform_61 : decode cX0_perform 61 = .ok (.ireturn, 1) := by decide +kernel
theorem dX0_answerOf_0 : decode cX0_answerOf 0 = .ok (.iload_n 1, 1) := by decide +kernel
theorem dX0_answerOf_1 : decode cX0_answerOf 1 = .ok (.tableswitch 480 10 73 #[271, 278, 292, 307, 480, 480, 480, 480, 480, 480, 324, 480, 480, 480, 480, 480, 480, 480, 480, 480, 335, 480, 480, 480, 480, 480, 480, 480, 480, 480, 346, 360, 480, 480, 480, 480, 480, 480, 480, 480, 386, 480, 480, 480, 480, 480, 480, 480, 480, 480, 397, 411, 480, 480, 480, 480, 480, 480, 480, 480, 422, 429, 446, 453], 271) := by decide +kernel
theorem dX0_answerOf_272 : decode cX0_answerOf 272 = .ok (.iload_n 2, 1) := by decide +kernel
theorem dX0_answerOf_273 : decode cX0_answerOf 273 = .ok (.aload_n 0, 1) := by decide +kernel
theorem dX0_answerOf_274 : decode cX0_answerOf 274 = .ok (.getfield 25, 3) := by decide +kernel
theorem dX0_answerOf_277 : decode cX0_answerOf 277 = .ok (.iadd, 1) := by decide +kernel
theorem dX0_answerOf_278 : decode cX0_answerOf 278 = .ok (.ireturn, 1) := by decide +kernel
theorem dX0_answerOf_279 : decode cX0_answerOf 279 = .ok (.aload_n 0, 1) := by decide +kernel
theorem dX0_answerOf_280 : decode cX0_answerOf 280 = .ok (.aload_n 0, 1) := by decide +kernel
theorem dX0_answerOf_281 : decode cX0_answerOf 281 = .ok (.getfield 19, 3) := by decide +kernel
theorem dX0_answerOf_284 : decode cX0_answerOf 284 = .ok (.iconst 0, 1) := by decide +kernel
theorem dX0_answerOf_285 : decode cX0_answerOf 285 = .ok (.iload_n 2, 1) := by decide +kernel
theorem dX0_answerOf_286 : decode cX0_answerOf 286 = .ok (.iload_n 3, 1) := by decide +kernel
theorem dX0_answerOf_287 : decode cX0_answerOf 287 = .ok (.invokevirtual 32, 3) := by decide +kernel
theorem dX0_answerOf_290 : decode cX0_answerOf 290 = .ok (.iconst 2, 1) := by decide +kernel
theorem dX0_answerOf_291 : decode cX0_answerOf 291 = .ok (.imul, 1) := by decide +kernel
theorem dX0_answerOf_292 : decode cX0_answerOf 292 = .ok (.ireturn, 1) := by decide +kernel
theorem dX0_answerOf_293 : decode cX0_answerOf 293 = .ok (.aload_n 0, 1) := by decide +kernel
theorem dX0_answerOf_294 : decode cX0_answerOf 294 = .ok (.iload_n 2, 1) := by decide +kernel
theorem dX0_answerOf_295 : decode cX0_answerOf 295 = .ok (.aload_n 0, 1) := by decide +kernel
theorem dX0_answerOf_296 : decode cX0_answerOf 296 = .ok (.getfield 25, 3) := by decide +kernel
theorem dX0_answerOf_299 : decode cX0_answerOf 299 = .ok (.aload_n 0, 1) := by decide +kernel
theorem dX0_answerOf_300 : decode cX0_answerOf 300 = .ok (.getfield 22, 3) := by decide +kernel
theorem dX0_answerOf_303 : decode cX0_answerOf 303 = .ok (.isub, 1) := by decide +kernel
theorem dX0_answerOf_304 : decode cX0_answerOf 304 = .ok (.invokevirtual 43, 3) := by decide +kernel
theorem dX0_answerOf_307 : decode cX0_answerOf 307 = .ok (.ireturn, 1) := by decide +kernel
theorem dX0_answerOf_308 : decode cX0_answerOf 308 = .ok (.aload_n 0, 1) := by decide +kernel
theorem dX0_answerOf_309 : decode cX0_answerOf 309 = .ok (.aload_n 0, 1) := by decide +kernel
theorem dX0_answerOf_310 : decode cX0_answerOf 310 = .ok (.getfield 19, 3) := by decide +kernel
theorem dX0_answerOf_313 : decode cX0_answerOf 313 = .ok (.iconst 1, 1) := by decide +kernel
theorem dX0_answerOf_314 : decode cX0_answerOf 314 = .ok (.iload_n 2, 1) := by decide +kernel
theorem dX0_answerOf_315 : decode cX0_answerOf 315 = .ok (.iload_n 3, 1) := by decide +kernel
theorem dX0_answerOf_316 : decode cX0_answerOf 316 = .ok (.invokevirtual 32, 3) := by decide +kernel
theorem dX0_answerOf_319 : decode cX0_answerOf 319 = .ok (.aload_n 0, 1) := by decide +kernel
theorem dX0_answerOf_320 : decode cX0_answerOf 320 = .ok (.getfield 22, 3) := by decide +kernel
theorem dX0_answerOf_323 : decode cX0_answerOf 323 = .ok (.ixor, 1) := by decide +kernel
theorem dX0_answerOf_324 : decode cX0_answerOf 324 = .ok (.ireturn, 1) := by decide +kernel
theorem dX0_answerOf_325 : decode cX0_answerOf 325 = .ok (.iconst 0, 1) := by decide +kernel
theorem dX0_answerOf_326 : decode cX0_answerOf 326 = .ok (.aload_n 0, 1) := by decide +kernel
theorem dX0_answerOf_327 : decode cX0_answerOf 327 = .ok (.iconst 0, 1) := by decide +kernel
theorem dX0_answerOf_328 : decode cX0_answerOf 328 = .ok (.iconst 1, 1) := by decide +kernel
theorem dX0_answerOf_329 : decode cX0_answerOf 329 = .ok (.iload_n 2, 1) := by decide +kernel
theorem dX0_answerOf_330 : decode cX0_answerOf 330 = .ok (.iload_n 3, 1) := by decide +kernel
theorem dX0_answerOf_331 : decode cX0_answerOf 331 = .ok (.invokevirtual 32, 3) := by decide +kernel
theorem dX0_answerOf_334 : decode cX0_answerOf 334 = .ok (.isub, 1) := by decide +kernel
theorem dX0_answerOf_335 : decode cX0_answerOf 335 = .ok (.ireturn, 1) := by decide +kernel
theorem dX0_answerOf_336 : decode cX0_answerOf 336 = .ok (.aload_n 0, 1) := by decide +kernel
theorem dX0_answerOf_337 : decode cX0_answerOf 337 = .ok (.iconst 0, 1) := by decide +kernel
theorem dX0_answerOf_338 : decode cX0_answerOf 338 = .ok (.iconst 0, 1) := by decide +kernel
theorem dX0_answerOf_339 : decode cX0_answerOf 339 = .ok (.iload_n 2, 1) := by decide +kernel
theorem dX0_answerOf_340 : decode cX0_answerOf 340 = .ok (.iload_n 3, 1) := by decide +kernel
theorem dX0_answerOf_341 : decode cX0_answerOf 341 = .ok (.invokevirtual 32, 3) := by decide +kernel
theorem dX0_answerOf_344 : decode cX0_answerOf 344 = .ok (.iconst 3, 1) := by decide +kernel
theorem dX0_answerOf_345 : decode cX0_answerOf 345 = .ok (.imul, 1) := by decide +kernel
theorem dX0_answerOf_346 : decode cX0_answerOf 346 = .ok (.ireturn, 1) := by decide +kernel
theorem dX0_answerOf_347 : decode cX0_answerOf 347 = .ok (.aload_n 0, 1) := by decide +kernel
theorem dX0_answerOf_348 : decode cX0_answerOf 348 = .ok (.iconst 2, 1) := by decide +kernel
theorem dX0_answerOf_349 : decode cX0_answerOf 349 = .ok (.iconst 1, 1) := by decide +kernel
theorem dX0_answerOf_350 : decode cX0_answerOf 350 = .ok (.iload_n 2, 1) := by decide +kernel
theorem dX0_answerOf_351 : decode cX0_answerOf 351 = .ok (.iload_n 3, 1) := by decide +kernel
theorem dX0_answerOf_352 : decode cX0_answerOf 352 = .ok (.invokevirtual 32, 3) := by decide +kernel
theorem dX0_answerOf_355 : decode cX0_answerOf 355 = .ok (.aload_n 0, 1) := by decide +kernel
theorem dX0_answerOf_356 : decode cX0_answerOf 356 = .ok (.getfield 25, 3) := by decide +kernel
theorem dX0_answerOf_359 : decode cX0_answerOf 359 = .ok (.iadd, 1) := by decide +kernel
theorem dX0_answerOf_360 : decode cX0_answerOf 360 = .ok (.ireturn, 1) := by decide +kernel
theorem dX0_answerOf_361 : decode cX0_answerOf 361 = .ok (.aload_n 0, 1) := by decide +kernel
theorem dX0_answerOf_362 : decode cX0_answerOf 362 = .ok (.iconst 2, 1) := by decide +kernel
theorem dX0_answerOf_363 : decode cX0_answerOf 363 = .ok (.iconst 3, 1) := by decide +kernel
theorem dX0_answerOf_364 : decode cX0_answerOf 364 = .ok (.iload_n 2, 1) := by decide +kernel
theorem dX0_answerOf_365 : decode cX0_answerOf 365 = .ok (.iload_n 3, 1) := by decide +kernel
theorem dX0_answerOf_366 : decode cX0_answerOf 366 = .ok (.invokevirtual 32, 3) := by decide +kernel
theorem dX0_answerOf_369 : decode cX0_answerOf 369 = .ok (.aload_n 0, 1) := by decide +kernel
theorem dX0_answerOf_370 : decode cX0_answerOf 370 = .ok (.aload_n 0, 1) := by decide +kernel
theorem dX0_answerOf_371 : decode cX0_answerOf 371 = .ok (.getfield 19, 3) := by decide +kernel
theorem dX0_answerOf_374 : decode cX0_answerOf 374 = .ok (.iconst 2, 1) := by decide +kernel
theorem dX0_answerOf_375 : decode cX0_answerOf 375 = .ok (.aload_n 0, 1) := by decide +kernel
theorem dX0_answerOf_376 : decode cX0_answerOf 376 = .ok (.getfield 22, 3) := by decide +kernel
theorem dX0_answerOf_379 : decode cX0_answerOf 379 = .ok (.iconst 1, 1) := by decide +kernel
theorem dX0_answerOf_380 : decode cX0_answerOf 380 = .ok (.iadd, 1) := by decide +kernel
theorem dX0_answerOf_381 : decode cX0_answerOf 381 = .ok (.iload_n 3, 1) := by decide +kernel
theorem dX0_answerOf_382 : decode cX0_answerOf 382 = .ok (.invokevirtual 32, 3) := by decide +kernel
theorem dX0_answerOf_385 : decode cX0_answerOf 385 = .ok (.iadd, 1) := by decide +kernel
theorem dX0_answerOf_386 : decode cX0_answerOf 386 = .ok (.ireturn, 1) := by decide +kernel
theorem dX0_answerOf_387 : decode cX0_answerOf 387 = .ok (.aload_n 0, 1) := by decide +kernel
theorem dX0_answerOf_388 : decode cX0_answerOf 388 = .ok (.iconst 2, 1) := by decide +kernel
theorem dX0_answerOf_389 : decode cX0_answerOf 389 = .ok (.iconst 2, 1) := by decide +kernel
theorem dX0_answerOf_390 : decode cX0_answerOf 390 = .ok (.iload_n 2, 1) := by decide +kernel
theorem dX0_answerOf_391 : decode cX0_answerOf 391 = .ok (.iconst 1, 1) := by decide +kernel
theorem dX0_answerOf_392 : decode cX0_answerOf 392 = .ok (.isub, 1) := by decide +kernel
theorem dX0_answerOf_393 : decode cX0_answerOf 393 = .ok (.iload_n 3, 1) := by decide +kernel
theorem dX0_answerOf_394 : decode cX0_answerOf 394 = .ok (.invokevirtual 32, 3) := by decide +kernel
theorem dX0_answerOf_397 : decode cX0_answerOf 397 = .ok (.ireturn, 1) := by decide +kernel
theorem dX0_answerOf_398 : decode cX0_answerOf 398 = .ok (.aload_n 0, 1) := by decide +kernel
theorem dX0_answerOf_399 : decode cX0_answerOf 399 = .ok (.iconst 3, 1) := by decide +kernel
theorem dX0_answerOf_400 : decode cX0_answerOf 400 = .ok (.iconst 0, 1) := by decide +kernel
theorem dX0_answerOf_401 : decode cX0_answerOf 401 = .ok (.iload_n 2, 1) := by decide +kernel
theorem dX0_answerOf_402 : decode cX0_answerOf 402 = .ok (.iload_n 3, 1) := by decide +kernel
theorem dX0_answerOf_403 : decode cX0_answerOf 403 = .ok (.invokevirtual 32, 3) := by decide +kernel
theorem dX0_answerOf_406 : decode cX0_answerOf 406 = .ok (.aload_n 0, 1) := by decide +kernel
theorem dX0_answerOf_407 : decode cX0_answerOf 407 = .ok (.getfield 25, 3) := by decide +kernel
theorem dX0_answerOf_410 : decode cX0_answerOf 410 = .ok (.ixor, 1) := by decide +kernel
theorem dX0_answerOf_411 : decode cX0_answerOf 411 = .ok (.ireturn, 1) := by decide +kernel
theorem dX0_answerOf_412 : decode cX0_answerOf 412 = .ok (.aload_n 0, 1) := by decide +kernel
theorem dX0_answerOf_413 : decode cX0_answerOf 413 = .ok (.iconst 3, 1) := by decide +kernel
theorem dX0_answerOf_414 : decode cX0_answerOf 414 = .ok (.iconst 2, 1) := by decide +kernel
theorem dX0_answerOf_415 : decode cX0_answerOf 415 = .ok (.iload_n 2, 1) := by decide +kernel
theorem dX0_answerOf_416 : decode cX0_answerOf 416 = .ok (.iconst 2, 1) := by decide +kernel
theorem dX0_answerOf_417 : decode cX0_answerOf 417 = .ok (.iadd, 1) := by decide +kernel
theorem dX0_answerOf_418 : decode cX0_answerOf 418 = .ok (.iload_n 3, 1) := by decide +kernel
theorem dX0_answerOf_419 : decode cX0_answerOf 419 = .ok (.invokevirtual 32, 3) := by decide +kernel
theorem dX0_answerOf_422 : decode cX0_answerOf 422 = .ok (.ireturn, 1) := by decide +kernel
theorem dX0_answerOf_423 : decode cX0_answerOf 423 = .ok (.iload_n 2, 1) := by decide +kernel
theorem dX0_answerOf_424 : decode cX0_answerOf 424 = .ok (.aload_n 0, 1) := by decide +kernel
theorem dX0_answerOf_425 : decode cX0_answerOf 425 = .ok (.getfield 25, 3) := by decide +kernel
theorem dX0_answerOf_428 : decode cX0_answerOf 428 = .ok (.isub, 1) := by decide +kernel
theorem dX0_answerOf_429 : decode cX0_answerOf 429 = .ok (.ireturn, 1) := by decide +kernel
theorem dX0_answerOf_430 : decode cX0_answerOf 430 = .ok (.aload_n 0, 1) := by decide +kernel
theorem dX0_answerOf_431 : decode cX0_answerOf 431 = .ok (.aload_n 0, 1) := by decide +kernel
theorem dX0_answerOf_432 : decode cX0_answerOf 432 = .ok (.getfield 19, 3) := by decide +kernel
theorem dX0_answerOf_435 : decode cX0_answerOf 435 = .ok (.iconst 0, 1) := by decide +kernel
theorem dX0_answerOf_436 : decode cX0_answerOf 436 = .ok (.iload_n 2, 1) := by decide +kernel
theorem dX0_answerOf_437 : decode cX0_answerOf 437 = .ok (.iload_n 3, 1) := by decide +kernel
theorem dX0_answerOf_438 : decode cX0_answerOf 438 = .ok (.invokevirtual 32, 3) := by decide +kernel
theorem dX0_answerOf_441 : decode cX0_answerOf 441 = .ok (.aload_n 0, 1) := by decide +kernel
theorem dX0_answerOf_442 : decode cX0_answerOf 442 = .ok (.getfield 22, 3) := by decide +kernel
theorem dX0_answerOf_445 : decode cX0_answerOf 445 = .ok (.imul, 1) := by decide +kernel
theorem dX0_answerOf_446 : decode cX0_answerOf 446 = .ok (.ireturn, 1) := by decide +kernel
theorem dX0_answerOf_447 : decode cX0_answerOf 447 = .ok (.iload_n 2, 1) := by decide +kernel
theorem dX0_answerOf_448 : decode cX0_answerOf 448 = .ok (.aload_n 0, 1) := by decide +kernel
theorem dX0_answerOf_449 : decode cX0_answerOf 449 = .ok (.getfield 25, 3) := by decide +kernel
theorem dX0_answerOf_452 : decode cX0_answerOf 452 = .ok (.ixor, 1) := by decide +kernel
theorem dX0_answerOf_453 : decode cX0_answerOf 453 = .ok (.ireturn, 1) := by decide +kernel
theorem dX0_answerOf_454 : decode cX0_answerOf 454 = .ok (.aload_n 0, 1) := by decide +kernel
theorem dX0_answerOf_455 : decode cX0_answerOf 455 = .ok (.aload_n 0, 1) := by decide +kernel
theorem dX0_answerOf_456 : decode cX0_answerOf 456 = .ok (.getfield 19, 3) := by decide +kernel
theorem dX0_answerOf_459 : decode cX0_answerOf 459 = .ok (.iconst 1, 1) := by decide +kernel
theorem dX0_answerOf_460 : decode cX0_answerOf 460 = .ok (.iload_n 2, 1) := by decide +kernel
theorem dX0_answerOf_461 : decode cX0_answerOf 461 = .ok (.iload_n 3, 1) := by decide +kernel
theorem dX0_answerOf_462 : decode cX0_answerOf 462 = .ok (.invokevirtual 32, 3) := by decide +kernel
theorem dX0_answerOf_465 : decode cX0_answerOf 465 = .ok (.aload_n 0, 1) := by decide +kernel
theorem dX0_answerOf_466 : decode cX0_answerOf 466 = .ok (.aload_n 0, 1) := by decide +kernel
theorem dX0_answerOf_467 : decode cX0_answerOf 467 = .ok (.getfield 19, 3) := by decide +kernel
theorem dX0_answerOf_470 : decode cX0_answerOf 470 = .ok (.iconst 2, 1) := by decide +kernel
theorem dX0_answerOf_471 : decode cX0_answerOf 471 = .ok (.aload_n 0, 1) := by decide +kernel
theorem dX0_answerOf_472 : decode cX0_answerOf 472 = .ok (.getfield 22, 3) := by decide +kernel
theorem dX0_answerOf_475 : decode cX0_answerOf 475 = .ok (.iload_n 3, 1) := by decide +kernel
theorem dX0_answerOf_476 : decode cX0_answerOf 476 = .ok (.invokevirtual 32, 3) := by decide +kernel
theorem dX0_answerOf_479 : decode cX0_answerOf 479 = .ok (.iadd, 1) := by decide +kernel
theorem dX0_answerOf_480 : decode cX0_answerOf 480 = .ok (.ireturn, 1) := by decide +kernel
theorem dX0_answerOf_481 : decode cX0_answerOf 481 = .ok (.iconst 0, 1) := by decide +kernel
theorem dX0_answerOf_482 : decode cX0_answerOf 482 = .ok (.ireturn, 1) := by decide +kernel
theorem dX0_quotient_0 : decode cX0_quotient 0 = .ok (.iload_n 2, 1) := by decide +kernel
theorem dX0_quotient_1 : decode cX0_quotient 1 = .ok (.ifCond .ne 10, 3) := by decide +kernel
theorem dX0_quotient_4 : decode cX0_quotient 4 = .ok (.aload_n 0, 1) := by decide +kernel
theorem dX0_quotient_5 : decode cX0_quotient 5 = .ok (.iconst 1, 1) := by decide +kernel
theorem dX0_quotient_6 : decode cX0_quotient 6 = .ok (.putfield 28, 3) := by decide +kernel
theorem dX0_quotient_9 : decode cX0_quotient 9 = .ok (.iconst 0, 1) := by decide +kernel
theorem dX0_quotient_10 : decode cX0_quotient 10 = .ok (.ireturn, 1) := by decide +kernel
theorem dX0_quotient_11 : decode cX0_quotient 11 = .ok (.iload_n 1, 1) := by decide +kernel
theorem dX0_quotient_12 : decode cX0_quotient 12 = .ok (.iload_n 2, 1) := by decide +kernel
theorem dX0_quotient_13 : decode cX0_quotient 13 = .ok (.idiv, 1) := by decide +kernel
theorem dX0_quotient_14 : decode cX0_quotient 14 = .ok (.ireturn, 1) := by decide +kernel
theorem dX1_init_0 : decode cX1_init 0 = .ok (.aload_n 0, 1) := by decide +kernel
theorem dX1_init_1 : decode cX1_init 1 = .ok (.invokespecial 3, 3) := by decide +kernel
theorem dX1_init_4 : decode cX1_init 4 = .ok (.aload_n 0, 1) := by decide +kernel
theorem dX1_init_5 : decode cX1_init 5 = .ok (.bipush 6, 2) := by decide +kernel
theorem dX1_init_7 : decode cX1_init 7 = .ok (.newarray .int, 2) := by decide +kernel
theorem dX1_init_9 : decode cX1_init 9 = .ok (.putfield 9, 3) := by decide +kernel
theorem dX1_init_12 : decode cX1_init 12 = .ok (.aload_n 0, 1) := by decide +kernel
theorem dX1_init_13 : decode cX1_init 13 = .ok (.bipush 7, 2) := by decide +kernel
theorem dX1_init_15 : decode cX1_init 15 = .ok (.bipush 121, 2) := by decide +kernel
theorem dX1_init_17 : decode cX1_init 17 = .ok (.multianewarray 15 2, 4) := by decide +kernel
theorem dX1_init_21 : decode cX1_init 21 = .ok (.putfield 17, 3) := by decide +kernel
theorem dX1_init_24 : decode cX1_init 24 = .ok (.return_, 1) := by decide +kernel
theorem dX1_clean_0 : decode cX1_clean 0 = .ok (.aload_n 1, 1) := by decide +kernel
theorem dX1_clean_1 : decode cX1_clean 1 = .ok (.getfield 20, 3) := by decide +kernel
theorem dX1_clean_4 : decode cX1_clean 4 = .ok (.iconst 1, 1) := by decide +kernel
theorem dX1_clean_5 : decode cX1_clean 5 = .ok (.isub, 1) := by decide +kernel
theorem dX1_clean_6 : decode cX1_clean 6 = .ok (.istore_n 2, 1) := by decide +kernel
theorem dX1_clean_7 : decode cX1_clean 7 = .ok (.iconst 0, 1) := by decide +kernel
theorem dX1_clean_8 : decode cX1_clean 8 = .ok (.istore_n 3, 1) := by decide +kernel
theorem dX1_clean_9 : decode cX1_clean 9 = .ok (.iconst 0, 1) := by decide +kernel
theorem dX1_clean_10 : decode cX1_clean 10 = .ok (.istore 4, 2) := by decide +kernel
theorem dX1_clean_12 : decode cX1_clean 12 = .ok (.iload 4, 2) := by decide +kernel
theorem dX1_clean_14 : decode cX1_clean 14 = .ok (.iload_n 2, 1) := by decide +kernel
theorem dX1_clean_15 : decode cX1_clean 15 = .ok (.if_icmp .gt 21, 3) := by decide +kernel
theorem dX1_clean_18 : decode cX1_clean 18 = .ok (.iload_n 3, 1) := by decide +kernel
theorem dX1_clean_19 : decode cX1_clean 19 = .ok (.aload_n 1, 1) := by decide +kernel
theorem dX1_clean_20 : decode cX1_clean 20 = .ok (.getfield 26, 3) := by decide +kernel
theorem dX1_clean_23 : decode cX1_clean 23 = .ok (.iload 4, 2) := by decide +kernel
theorem dX1_clean_25 : decode cX1_clean 25 = .ok (.aaload, 1) := by decide +kernel
theorem dX1_clean_26 : decode cX1_clean 26 = .ok (.iconst 3, 1) := by decide +kernel
theorem dX1_clean_27 : decode cX1_clean 27 = .ok (.iaload, 1) := by decide +kernel
theorem dX1_clean_28 : decode cX1_clean 28 = .ok (.iadd, 1) := by decide +kernel
theorem dX1_clean_29 : decode cX1_clean 29 = .ok (.istore_n 3, 1) := by decide +kernel
theorem dX1_clean_30 : decode cX1_clean 30 = .ok (.iinc 4 1, 3) := by decide +kernel
theorem dX1_clean_33 : decode cX1_clean 33 = .ok (.goto (-21), 3) := by decide +kernel
theorem dX1_clean_36 : decode cX1_clean 36 = .ok (.aload_n 0, 1) := by decide +kernel
theorem dX1_clean_37 : decode cX1_clean 37 = .ok (.getfield 17, 3) := by decide +kernel
theorem dX1_clean_40 : decode cX1_clean 40 = .ok (.iload_n 2, 1) := by decide +kernel
theorem dX1_clean_41 : decode cX1_clean 41 = .ok (.iconst 1, 1) := by decide +kernel
theorem dX1_clean_42 : decode cX1_clean 42 = .ok (.iadd, 1) := by decide +kernel
theorem dX1_clean_43 : decode cX1_clean 43 = .ok (.aaload, 1) := by decide +kernel
theorem dX1_clean_44 : decode cX1_clean 44 = .ok (.iconst 0, 1) := by decide +kernel
theorem dX1_clean_45 : decode cX1_clean 45 = .ok (.invokestatic 29, 3) := by decide +kernel
theorem dX1_clean_48 : decode cX1_clean 48 = .ok (.iload_n 2, 1) := by decide +kernel
theorem dX1_clean_49 : decode cX1_clean 49 = .ok (.istore 4, 2) := by decide +kernel
theorem dX1_clean_51 : decode cX1_clean 51 = .ok (.iload 4, 2) := by decide +kernel
theorem dX1_clean_53 : decode cX1_clean 53 = .ok (.ifCond .lt 78, 3) := by decide +kernel
theorem dX1_clean_56 : decode cX1_clean 56 = .ok (.iload_n 3, 1) := by decide +kernel
theorem dX1_clean_57 : decode cX1_clean 57 = .ok (.aload_n 1, 1) := by decide +kernel
theorem dX1_clean_58 : decode cX1_clean 58 = .ok (.getfield 26, 3) := by decide +kernel
theorem dX1_clean_61 : decode cX1_clean 61 = .ok (.iload 4, 2) := by decide +kernel
theorem dX1_clean_63 : decode cX1_clean 63 = .ok (.aaload, 1) := by decide +kernel
theorem dX1_clean_64 : decode cX1_clean 64 = .ok (.iconst 3, 1) := by decide +kernel
theorem dX1_clean_65 : decode cX1_clean 65 = .ok (.iaload, 1) := by decide +kernel
theorem dX1_clean_66 : decode cX1_clean 66 = .ok (.isub, 1) := by decide +kernel
theorem dX1_clean_67 : decode cX1_clean 67 = .ok (.istore_n 3, 1) := by decide +kernel
theorem dX1_clean_68 : decode cX1_clean 68 = .ok (.iconst 0, 1) := by decide +kernel
theorem dX1_clean_69 : decode cX1_clean 69 = .ok (.istore 5, 2) := by decide +kernel
theorem dX1_clean_71 : decode cX1_clean 71 = .ok (.iload 5, 2) := by decide +kernel
theorem dX1_clean_73 : decode cX1_clean 73 = .ok (.iload_n 3, 1) := by decide +kernel
theorem dX1_clean_74 : decode cX1_clean 74 = .ok (.if_icmp .gt 51, 3) := by decide +kernel
theorem dX1_clean_77 : decode cX1_clean 77 = .ok (.iload 5, 2) := by decide +kernel
theorem dX1_clean_79 : decode cX1_clean 79 = .ok (.aload_n 1, 1) := by decide +kernel
theorem dX1_clean_80 : decode cX1_clean 80 = .ok (.getfield 26, 3) := by decide +kernel
theorem dX1_clean_83 : decode cX1_clean 83 = .ok (.iload 4, 2) := by decide +kernel
theorem dX1_clean_85 : decode cX1_clean 85 = .ok (.aaload, 1) := by decide +kernel
theorem dX1_clean_86 : decode cX1_clean 86 = .ok (.iconst 3, 1) := by decide +kernel
theorem dX1_clean_87 : decode cX1_clean 87 = .ok (.iaload, 1) := by decide +kernel
theorem dX1_clean_88 : decode cX1_clean 88 = .ok (.iadd, 1) := by decide +kernel
theorem dX1_clean_89 : decode cX1_clean 89 = .ok (.istore 6, 2) := by decide +kernel
theorem dX1_clean_91 : decode cX1_clean 91 = .ok (.aload_n 0, 1) := by decide +kernel
theorem dX1_clean_92 : decode cX1_clean 92 = .ok (.getfield 17, 3) := by decide +kernel
theorem dX1_clean_95 : decode cX1_clean 95 = .ok (.iload 4, 2) := by decide +kernel
theorem dX1_clean_97 : decode cX1_clean 97 = .ok (.aaload, 1) := by decide +kernel
theorem dX1_clean_98 : decode cX1_clean 98 = .ok (.iload 5, 2) := by decide +kernel
theorem dX1_clean_100 : decode cX1_clean 100 = .ok (.aload_n 0, 1) := by decide +kernel
theorem dX1_clean_101 : decode cX1_clean 101 = .ok (.aload_n 1, 1) := by decide +kernel
theorem dX1_clean_102 : decode cX1_clean 102 = .ok (.iload 4, 2) := by decide +kernel
theorem dX1_clean_104 : decode cX1_clean 104 = .ok (.iload 6, 2) := by decide +kernel
theorem dX1_clean_106 : decode cX1_clean 106 = .ok (.aload_n 0, 1) := by decide +kernel
theorem dX1_clean_107 : decode cX1_clean 107 = .ok (.aload_n 1, 1) := by decide +kernel
theorem dX1_clean_108 : decode cX1_clean 108 = .ok (.iload 4, 2) := by decide +kernel
theorem dX1_clean_110 : decode cX1_clean 110 = .ok (.iload 6, 2) := by decide +kernel
theorem dX1_clean_112 : decode cX1_clean 112 = .ok (.invokevirtual 35, 3) := by decide +kernel
theorem dX1_clean_115 : decode cX1_clean 115 = .ok (.invokevirtual 39, 3) := by decide +kernel
theorem dX1_clean_118 : decode cX1_clean 118 = .ok (.iastore, 1) := by decide +kernel
theorem dX1_clean_119 : decode cX1_clean 119 = .ok (.iinc 5 1, 3) := by decide +kernel
theorem dX1_clean_122 : decode cX1_clean 122 = .ok (.goto (-51), 3) := by decide +kernel
theorem dX1_clean_125 : decode cX1_clean 125 = .ok (.iinc 4 (-1), 3) := by decide +kernel
theorem dX1_clean_128 : decode cX1_clean 128 = .ok (.goto (-77), 3) := by decide +kernel
theorem dX1_clean_131 : decode cX1_clean 131 = .ok (.iconst 0, 1) := by decide +kernel
theorem dX1_clean_132 : decode cX1_clean 132 = .ok (.istore 4, 2) := by decide +kernel
theorem dX1_clean_134 : decode cX1_clean 134 = .ok (.iconst 0, 1) := by decide +kernel
theorem dX1_clean_135 : decode cX1_clean 135 = .ok (.istore 5, 2) := by decide +kernel
theorem dX1_clean_137 : decode cX1_clean 137 = .ok (.iload 5, 2) := by decide +kernel
theorem dX1_clean_139 : decode cX1_clean 139 = .ok (.iload_n 2, 1) := by decide +kernel
theorem dX1_clean_140 : decode cX1_clean 140 = .ok (.if_icmp .gt 51, 3) := by decide +kernel
theorem dX1_clean_143 : decode cX1_clean 143 = .ok (.iload 4, 2) := by decide +kernel
theorem dX1_clean_145 : decode cX1_clean 145 = .ok (.aload_n 1, 1) := by decide +kernel
theorem dX1_clean_146 : decode cX1_clean 146 = .ok (.getfield 26, 3) := by decide +kernel
theorem dX1_clean_149 : decode cX1_clean 149 = .ok (.iload 5, 2) := by decide +kernel
theorem dX1_clean_151 : decode cX1_clean 151 = .ok (.aaload, 1) := by decide +kernel
theorem dX1_clean_152 : decode cX1_clean 152 = .ok (.iconst 3, 1) := by decide +kernel
theorem dX1_clean_153 : decode cX1_clean 153 = .ok (.iaload, 1) := by decide +kernel
theorem dX1_clean_154 : decode cX1_clean 154 = .ok (.iadd, 1) := by decide +kernel
theorem dX1_clean_155 : decode cX1_clean 155 = .ok (.istore 6, 2) := by decide +kernel
theorem dX1_clean_157 : decode cX1_clean 157 = .ok (.aload_n 0, 1) := by decide +kernel
theorem dX1_clean_158 : decode cX1_clean 158 = .ok (.getfield 9, 3) := by decide +kernel
theorem dX1_clean_161 : decode cX1_clean 161 = .ok (.iload 5, 2) := by decide +kernel
theorem dX1_clean_163 : decode cX1_clean 163 = .ok (.aload_n 0, 1) := by decide +kernel
theorem dX1_clean_164 : decode cX1_clean 164 = .ok (.aload_n 1, 1) := by decide +kernel
theorem dX1_clean_165 : decode cX1_clean 165 = .ok (.iload 5, 2) := by decide +kernel
theorem dX1_clean_167 : decode cX1_clean 167 = .ok (.iload 6, 2) := by decide +kernel
theorem dX1_clean_169 : decode cX1_clean 169 = .ok (.invokevirtual 35, 3) := by decide +kernel
theorem dX1_clean_172 : decode cX1_clean 172 = .ok (.iastore, 1) := by decide +kernel
theorem dX1_clean_173 : decode cX1_clean 173 = .ok (.iload 6, 2) := by decide +kernel
theorem dX1_clean_175 : decode cX1_clean 175 = .ok (.aload_n 0, 1) := by decide +kernel
theorem dX1_clean_176 : decode cX1_clean 176 = .ok (.getfield 9, 3) := by decide +kernel
theorem dX1_clean_179 : decode cX1_clean 179 = .ok (.iload 5, 2) := by decide +kernel
theorem dX1_clean_181 : decode cX1_clean 181 = .ok (.iaload, 1) := by decide +kernel
theorem dX1_clean_182 : decode cX1_clean 182 = .ok (.isub, 1) := by decide +kernel
theorem dX1_clean_183 : decode cX1_clean 183 = .ok (.istore 4, 2) := by decide +kernel
theorem dX1_clean_185 : decode cX1_clean 185 = .ok (.iinc 5 1, 3) := by decide +kernel
theorem dX1_clean_188 : decode cX1_clean 188 = .ok (.goto (-51), 3) := by decide +kernel
theorem dX1_clean_191 : decode cX1_clean 191 = .ok (.aload_n 0, 1) := by decide +kernel
theorem dX1_clean_192 : decode cX1_clean 192 = .ok (.getfield 17, 3) := by decide +kernel
theorem dX1_clean_195 : decode cX1_clean 195 = .ok (.iconst 0, 1) := by decide +kernel
theorem dX1_clean_196 : decode cX1_clean 196 = .ok (.aaload, 1) := by decide +kernel
theorem dX1_clean_197 : decode cX1_clean 197 = .ok (.iconst 0, 1) := by decide +kernel
theorem dX1_clean_198 : decode cX1_clean 198 = .ok (.iaload, 1) := by decide +kernel
theorem dX1_clean_199 : decode cX1_clean 199 = .ok (.ireturn, 1) := by decide +kernel
theorem dX1_coins_0 : decode cX1_coins 0 = .ok (.iload 4, 2) := by decide +kernel
theorem dX1_coins_2 : decode cX1_coins 2 = .ok (.aload_n 1, 1) := by decide +kernel
theorem dX1_coins_3 : decode cX1_coins 3 = .ok (.getfield 26, 3) := by decide +kernel
theorem dX1_coins_6 : decode cX1_coins 6 = .ok (.iload_n 2, 1) := by decide +kernel
theorem dX1_coins_7 : decode cX1_coins 7 = .ok (.aaload, 1) := by decide +kernel
theorem dX1_coins_8 : decode cX1_coins 8 = .ok (.iconst 5, 1) := by decide +kernel
theorem dX1_coins_9 : decode cX1_coins 9 = .ok (.iaload, 1) := by decide +kernel
theorem dX1_coins_10 : decode cX1_coins 10 = .ok (.imul, 1) := by decide +kernel
theorem dX1_coins_11 : decode cX1_coins 11 = .ok (.aload_n 0, 1) := by decide +kernel
theorem dX1_coins_12 : decode cX1_coins 12 = .ok (.getfield 17, 3) := by decide +kernel
theorem dX1_coins_15 : decode cX1_coins 15 = .ok (.iload_n 2, 1) := by decide +kernel
theorem dX1_coins_16 : decode cX1_coins 16 = .ok (.iconst 1, 1) := by decide +kernel
theorem dX1_coins_17 : decode cX1_coins 17 = .ok (.iadd, 1) := by decide +kernel
theorem dX1_coins_18 : decode cX1_coins 18 = .ok (.aaload, 1) := by decide +kernel
theorem dX1_coins_19 : decode cX1_coins 19 = .ok (.iload_n 3, 1) := by decide +kernel
theorem dX1_coins_20 : decode cX1_coins 20 = .ok (.iload 4, 2) := by decide +kernel
theorem dX1_coins_22 : decode cX1_coins 22 = .ok (.isub, 1) := by decide +kernel
theorem dX1_coins_23 : decode cX1_coins 23 = .ok (.iaload, 1) := by decide +kernel
theorem dX1_coins_24 : decode cX1_coins 24 = .ok (.iadd, 1) := by decide +kernel
theorem dX1_coins_25 : decode cX1_coins 25 = .ok (.ireturn, 1) := by decide +kernel
theorem dX1_leastBest_0 : decode cX1_leastBest 0 = .ok (.iconst 0, 1) := by decide +kernel
theorem dX1_leastBest_1 : decode cX1_leastBest 1 = .ok (.istore 4, 2) := by decide +kernel
theorem dX1_leastBest_3 : decode cX1_leastBest 3 = .ok (.iload_n 2, 1) := by decide +kernel
theorem dX1_leastBest_4 : decode cX1_leastBest 4 = .ok (.iconst 1, 1) := by decide +kernel
theorem dX1_leastBest_5 : decode cX1_leastBest 5 = .ok (.iadd, 1) := by decide +kernel
theorem dX1_leastBest_6 : decode cX1_leastBest 6 = .ok (.aload_n 1, 1) := by decide +kernel
theorem dX1_leastBest_7 : decode cX1_leastBest 7 = .ok (.getfield 20, 3) := by decide +kernel
theorem dX1_leastBest_10 : decode cX1_leastBest 10 = .ok (.if_icmp .ge 21, 3) := by decide +kernel
theorem dX1_leastBest_13 : decode cX1_leastBest 13 = .ok (.iconst 0, 1) := by decide +kernel
theorem dX1_leastBest_14 : decode cX1_leastBest 14 = .ok (.iload_n 3, 1) := by decide +kernel
theorem dX1_leastBest_15 : decode cX1_leastBest 15 = .ok (.aload_n 1, 1) := by decide +kernel
theorem dX1_leastBest_16 : decode cX1_leastBest 16 = .ok (.getfield 26, 3) := by decide +kernel
theorem dX1_leastBest_19 : decode cX1_leastBest 19 = .ok (.iload_n 2, 1) := by decide +kernel
theorem dX1_leastBest_20 : decode cX1_leastBest 20 = .ok (.iconst 1, 1) := by decide +kernel
theorem dX1_leastBest_21 : decode cX1_leastBest 21 = .ok (.iadd, 1) := by decide +kernel
theorem dX1_leastBest_22 : decode cX1_leastBest 22 = .ok (.aaload, 1) := by decide +kernel
theorem dX1_leastBest_23 : decode cX1_leastBest 23 = .ok (.iconst 4, 1) := by decide +kernel
theorem dX1_leastBest_24 : decode cX1_leastBest 24 = .ok (.iaload, 1) := by decide +kernel
theorem dX1_leastBest_25 : decode cX1_leastBest 25 = .ok (.isub, 1) := by decide +kernel
theorem dX1_leastBest_26 : decode cX1_leastBest 26 = .ok (.invokestatic 43, 3) := by decide +kernel
theorem dX1_leastBest_29 : decode cX1_leastBest 29 = .ok (.istore 4, 2) := by decide +kernel
theorem dX1_leastBest_31 : decode cX1_leastBest 31 = .ok (.iload 4, 2) := by decide +kernel
theorem dX1_leastBest_33 : decode cX1_leastBest 33 = .ok (.istore 5, 2) := by decide +kernel
theorem dX1_leastBest_35 : decode cX1_leastBest 35 = .ok (.iload 4, 2) := by decide +kernel
theorem dX1_leastBest_37 : decode cX1_leastBest 37 = .ok (.iconst 1, 1) := by decide +kernel
theorem dX1_leastBest_38 : decode cX1_leastBest 38 = .ok (.iadd, 1) := by decide +kernel
theorem dX1_leastBest_39 : decode cX1_leastBest 39 = .ok (.istore 6, 2) := by decide +kernel
theorem dX1_leastBest_41 : decode cX1_leastBest 41 = .ok (.iload 6, 2) := by decide +kernel
theorem dX1_leastBest_43 : decode cX1_leastBest 43 = .ok (.iload_n 3, 1) := by decide +kernel
theorem dX1_leastBest_44 : decode cX1_leastBest 44 = .ok (.if_icmp .gt 34, 3) := by decide +kernel
theorem dX1_leastBest_47 : decode cX1_leastBest 47 = .ok (.aload_n 0, 1) := by decide +kernel
theorem dX1_leastBest_48 : decode cX1_leastBest 48 = .ok (.aload_n 1, 1) := by decide +kernel
theorem dX1_leastBest_49 : decode cX1_leastBest 49 = .ok (.iload_n 2, 1) := by decide +kernel
theorem dX1_leastBest_50 : decode cX1_leastBest 50 = .ok (.iload_n 3, 1) := by decide +kernel
theorem dX1_leastBest_51 : decode cX1_leastBest 51 = .ok (.iload 6, 2) := by decide +kernel
theorem dX1_leastBest_53 : decode cX1_leastBest 53 = .ok (.invokevirtual 39, 3) := by decide +kernel
theorem dX1_leastBest_56 : decode cX1_leastBest 56 = .ok (.aload_n 0, 1) := by decide +kernel
theorem dX1_leastBest_57 : decode cX1_leastBest 57 = .ok (.aload_n 1, 1) := by decide +kernel
theorem dX1_leastBest_58 : decode cX1_leastBest 58 = .ok (.iload_n 2, 1) := by decide +kernel
theorem dX1_leastBest_59 : decode cX1_leastBest 59 = .ok (.iload_n 3, 1) := by decide +kernel
theorem dX1_leastBest_60 : decode cX1_leastBest 60 = .ok (.iload 5, 2) := by decide +kernel
theorem dX1_leastBest_62 : decode cX1_leastBest 62 = .ok (.invokevirtual 39, 3) := by decide +kernel
theorem dX1_leastBest_65 : decode cX1_leastBest 65 = .ok (.if_icmp .ge 7, 3) := by decide +kernel
theorem dX1_leastBest_68 : decode cX1_leastBest 68 = .ok (.iload 6, 2) := by decide +kernel
theorem dX1_leastBest_70 : decode cX1_leastBest 70 = .ok (.istore 5, 2) := by decide +kernel
theorem dX1_leastBest_72 : decode cX1_leastBest 72 = .ok (.iinc 6 1, 3) := by decide +kernel
theorem dX1_leastBest_75 : decode cX1_leastBest 75 = .ok (.goto (-34), 3) := by decide +kernel
theorem dX1_leastBest_78 : decode cX1_leastBest 78 = .ok (.iload 5, 2) := by decide +kernel
theorem dX1_leastBest_80 : decode cX1_leastBest 80 = .ok (.ireturn, 1) := by decide +kernel
theorem dX2_init_0 : decode cX2_init 0 = .ok (.aload_n 0, 1) := by decide +kernel
theorem dX2_init_1 : decode cX2_init 1 = .ok (.invokespecial 3, 3) := by decide +kernel
theorem dX2_init_4 : decode cX2_init 4 = .ok (.aload_n 0, 1) := by decide +kernel
theorem dX2_init_5 : decode cX2_init 5 = .ok (.iconst 0, 1) := by decide +kernel
theorem dX2_init_6 : decode cX2_init 6 = .ok (.putfield 9, 3) := by decide +kernel
theorem dX2_init_9 : decode cX2_init 9 = .ok (.aload_n 0, 1) := by decide +kernel
theorem dX2_init_10 : decode cX2_init 10 = .ok (.bipush 6, 2) := by decide +kernel
theorem dX2_init_12 : decode cX2_init 12 = .ok (.bipush 6, 2) := by decide +kernel
theorem dX2_init_14 : decode cX2_init 14 = .ok (.multianewarray 15 2, 4) := by decide +kernel
theorem dX2_init_18 : decode cX2_init 18 = .ok (.putfield 17, 3) := by decide +kernel
theorem dX2_init_21 : decode cX2_init 21 = .ok (.aload_n 0, 1) := by decide +kernel
theorem dX2_init_22 : decode cX2_init 22 = .ok (.bipush 6, 2) := by decide +kernel
theorem dX2_init_24 : decode cX2_init 24 = .ok (.bipush 13, 2) := by decide +kernel
theorem dX2_init_26 : decode cX2_init 26 = .ok (.multianewarray 15 2, 4) := by decide +kernel
theorem dX2_init_30 : decode cX2_init 30 = .ok (.putfield 20, 3) := by decide +kernel
theorem dX2_init_33 : decode cX2_init 33 = .ok (.aload_n 0, 1) := by decide +kernel
theorem dX2_init_34 : decode cX2_init 34 = .ok (.iconst 0, 1) := by decide +kernel
theorem dX2_init_35 : decode cX2_init 35 = .ok (.putfield 23, 3) := by decide +kernel
theorem dX2_init_38 : decode cX2_init 38 = .ok (.aload_n 0, 1) := by decide +kernel
theorem dX2_init_39 : decode cX2_init 39 = .ok (.bipush 6, 2) := by decide +kernel
theorem dX2_init_41 : decode cX2_init 41 = .ok (.newarray .int, 2) := by decide +kernel
theorem dX2_init_43 : decode cX2_init 43 = .ok (.putfield 26, 3) := by decide +kernel
theorem dX2_init_46 : decode cX2_init 46 = .ok (.aload_n 0, 1) := by decide +kernel
theorem dX2_init_47 : decode cX2_init 47 = .ok (.iconst (-1), 1) := by decide +kernel
theorem dX2_init_48 : decode cX2_init 48 = .ok (.putfield 30, 3) := by decide +kernel
theorem dX2_init_51 : decode cX2_init 51 = .ok (.aload_n 0, 1) := by decide +kernel
theorem dX2_init_52 : decode cX2_init 52 = .ok (.iconst 0, 1) := by decide +kernel
theorem dX2_init_53 : decode cX2_init 53 = .ok (.putfield 33, 3) := by decide +kernel
theorem dX2_init_56 : decode cX2_init 56 = .ok (.aload_n 0, 1) := by decide +kernel
theorem dX2_init_57 : decode cX2_init 57 = .ok (.new 36, 3) := by decide +kernel
theorem dX2_init_60 : decode cX2_init 60 = .ok (.dup, 1) := by decide +kernel
theorem dX2_init_61 : decode cX2_init 61 = .ok (.invokespecial 38, 3) := by decide +kernel
theorem dX2_init_64 : decode cX2_init 64 = .ok (.putfield 39, 3) := by decide +kernel
theorem dX2_init_67 : decode cX2_init 67 = .ok (.return_, 1) := by decide +kernel
theorem dX2_addVillage_0 : decode cX2_addVillage 0 = .ok (.aload_n 0, 1) := by decide +kernel
theorem dX2_addVillage_1 : decode cX2_addVillage 1 = .ok (.getfield 9, 3) := by decide +kernel
theorem dX2_addVillage_4 : decode cX2_addVillage 4 = .ok (.istore_n 2, 1) := by decide +kernel
theorem dX2_addVillage_5 : decode cX2_addVillage 5 = .ok (.getstatic 43, 3) := by decide +kernel
theorem dX2_addVillage_8 : decode cX2_addVillage 8 = .ok (.iconst 0, 1) := by decide +kernel
theorem dX2_addVillage_9 : decode cX2_addVillage 9 = .ok (.aload_n 0, 1) := by decide +kernel
theorem dX2_addVillage_10 : decode cX2_addVillage 10 = .ok (.getfield 17, 3) := by decide +kernel
theorem dX2_addVillage_13 : decode cX2_addVillage 13 = .ok (.iload_n 2, 1) := by decide +kernel
theorem dX2_addVillage_14 : decode cX2_addVillage 14 = .ok (.aaload, 1) := by decide +kernel
theorem dX2_addVillage_15 : decode cX2_addVillage 15 = .ok (.iconst 0, 1) := by decide +kernel
theorem dX2_addVillage_16 : decode cX2_addVillage 16 = .ok (.bipush 6, 2) := by decide +kernel
theorem dX2_addVillage_18 : decode cX2_addVillage 18 = .ok (.invokestatic 46, 3) := by decide +kernel
theorem dX2_addVillage_21 : decode cX2_addVillage 21 = .ok (.aload_n 0, 1) := by decide +kernel
theorem dX2_addVillage_22 : decode cX2_addVillage 22 = .ok (.getfield 17, 3) := by decide +kernel
theorem dX2_addVillage_25 : decode cX2_addVillage 25 = .ok (.iload_n 2, 1) := by decide +kernel
theorem dX2_addVillage_26 : decode cX2_addVillage 26 = .ok (.aaload, 1) := by decide +kernel
theorem dX2_addVillage_27 : decode cX2_addVillage 27 = .ok (.iconst 0, 1) := by decide +kernel
theorem dX2_addVillage_28 : decode cX2_addVillage 28 = .ok (.iload_n 1, 1) := by decide +kernel
theorem dX2_addVillage_29 : decode cX2_addVillage 29 = .ok (.iastore, 1) := by decide +kernel
theorem dX2_addVillage_30 : decode cX2_addVillage 30 = .ok (.aload_n 0, 1) := by decide +kernel
theorem dX2_addVillage_31 : decode cX2_addVillage 31 = .ok (.getfield 20, 3) := by decide +kernel
theorem dX2_addVillage_34 : decode cX2_addVillage 34 = .ok (.iload_n 2, 1) := by decide +kernel
theorem dX2_addVillage_35 : decode cX2_addVillage 35 = .ok (.aaload, 1) := by decide +kernel
theorem dX2_addVillage_36 : decode cX2_addVillage 36 = .ok (.iconst 0, 1) := by decide +kernel
theorem dX2_addVillage_37 : decode cX2_addVillage 37 = .ok (.invokestatic 52, 3) := by decide +kernel
theorem dX2_addVillage_40 : decode cX2_addVillage 40 = .ok (.aload_n 0, 1) := by decide +kernel
theorem dX2_addVillage_41 : decode cX2_addVillage 41 = .ok (.dup, 1) := by decide +kernel
theorem dX2_addVillage_42 : decode cX2_addVillage 42 = .ok (.getfield 9, 3) := by decide +kernel
theorem dX2_addVillage_45 : decode cX2_addVillage 45 = .ok (.iconst 1, 1) := by decide +kernel
theorem dX2_addVillage_46 : decode cX2_addVillage 46 = .ok (.iadd, 1) := by decide +kernel
theorem dX2_addVillage_47 : decode cX2_addVillage 47 = .ok (.putfield 9, 3) := by decide +kernel
theorem dX2_addVillage_50 : decode cX2_addVillage 50 = .ok (.iload_n 2, 1) := by decide +kernel
theorem dX2_addVillage_51 : decode cX2_addVillage 51 = .ok (.ireturn, 1) := by decide +kernel
theorem dX2_takeWorths_0 : decode cX2_takeWorths 0 = .ok (.iconst 0, 1) := by decide +kernel
theorem dX2_takeWorths_1 : decode cX2_takeWorths 1 = .ok (.istore_n 3, 1) := by decide +kernel
theorem dX2_takeWorths_2 : decode cX2_takeWorths 2 = .ok (.iload_n 3, 1) := by decide +kernel
theorem dX2_takeWorths_3 : decode cX2_takeWorths 3 = .ok (.bipush 12, 2) := by decide +kernel
theorem dX2_takeWorths_5 : decode cX2_takeWorths 5 = .ok (.if_icmp .ge 31, 3) := by decide +kernel
theorem dX2_takeWorths_8 : decode cX2_takeWorths 8 = .ok (.aload_n 0, 1) := by decide +kernel
theorem dX2_takeWorths_9 : decode cX2_takeWorths 9 = .ok (.getfield 20, 3) := by decide +kernel
theorem dX2_takeWorths_12 : decode cX2_takeWorths 12 = .ok (.iload_n 1, 1) := by decide +kernel
theorem dX2_takeWorths_13 : decode cX2_takeWorths 13 = .ok (.aaload, 1) := by decide +kernel
theorem dX2_takeWorths_14 : decode cX2_takeWorths 14 = .ok (.iload_n 3, 1) := by decide +kernel
theorem dX2_takeWorths_15 : decode cX2_takeWorths 15 = .ok (.iconst 1, 1) := by decide +kernel
theorem dX2_takeWorths_16 : decode cX2_takeWorths 16 = .ok (.iadd, 1) := by decide +kernel
theorem dX2_takeWorths_17 : decode cX2_takeWorths 17 = .ok (.aload_n 0, 1) := by decide +kernel
theorem dX2_takeWorths_18 : decode cX2_takeWorths 18 = .ok (.getfield 20, 3) := by decide +kernel
theorem dX2_takeWorths_21 : decode cX2_takeWorths 21 = .ok (.iload_n 1, 1) := by decide +kernel
theorem dX2_takeWorths_22 : decode cX2_takeWorths 22 = .ok (.aaload, 1) := by decide +kernel
theorem dX2_takeWorths_23 : decode cX2_takeWorths 23 = .ok (.iload_n 3, 1) := by decide +kernel
theorem dX2_takeWorths_24 : decode cX2_takeWorths 24 = .ok (.iaload, 1) := by decide +kernel
theorem dX2_takeWorths_25 : decode cX2_takeWorths 25 = .ok (.aload_n 2, 1) := by decide +kernel
theorem dX2_takeWorths_26 : decode cX2_takeWorths 26 = .ok (.iload_n 3, 1) := by decide +kernel
theorem dX2_takeWorths_27 : decode cX2_takeWorths 27 = .ok (.iaload, 1) := by decide +kernel
theorem dX2_takeWorths_28 : decode cX2_takeWorths 28 = .ok (.iadd, 1) := by decide +kernel
theorem dX2_takeWorths_29 : decode cX2_takeWorths 29 = .ok (.iastore, 1) := by decide +kernel
theorem dX2_takeWorths_30 : decode cX2_takeWorths 30 = .ok (.iinc 3 1, 3) := by decide +kernel
theorem dX2_takeWorths_33 : decode cX2_takeWorths 33 = .ok (.goto (-31), 3) := by decide +kernel
theorem dX2_takeWorths_36 : decode cX2_takeWorths 36 = .ok (.return_, 1) := by decide +kernel
theorem dX2_made_0 : decode cX2_made 0 = .ok (.aload_n 0, 1) := by decide +kernel
theorem dX2_made_1 : decode cX2_made 1 = .ok (.getfield 20, 3) := by decide +kernel
theorem dX2_made_4 : decode cX2_made 4 = .ok (.iload_n 1, 1) := by decide +kernel
theorem dX2_made_5 : decode cX2_made 5 = .ok (.aaload, 1) := by decide +kernel
theorem dX2_made_6 : decode cX2_made 6 = .ok (.iload_n 2, 1) := by decide +kernel
theorem dX2_made_7 : decode cX2_made 7 = .ok (.iaload, 1) := by decide +kernel
theorem dX2_made_8 : decode cX2_made 8 = .ok (.aload_n 0, 1) := by decide +kernel
theorem dX2_made_9 : decode cX2_made 9 = .ok (.getfield 17, 3) := by decide +kernel
theorem dX2_made_12 : decode cX2_made 12 = .ok (.iload_n 1, 1) := by decide +kernel
theorem dX2_made_13 : decode cX2_made 13 = .ok (.aaload, 1) := by decide +kernel
theorem dX2_made_14 : decode cX2_made 14 = .ok (.iconst 2, 1) := by decide +kernel
theorem dX2_made_15 : decode cX2_made 15 = .ok (.iaload, 1) := by decide +kernel
theorem dX2_made_16 : decode cX2_made 16 = .ok (.iconst 0, 1) := by decide +kernel
theorem dX2_made_17 : decode cX2_made 17 = .ok (.iload_n 3, 1) := by decide +kernel
theorem dX2_made_18 : decode cX2_made 18 = .ok (.aload_n 0, 1) := by decide +kernel
theorem dX2_made_19 : decode cX2_made 19 = .ok (.getfield 17, 3) := by decide +kernel
theorem dX2_made_22 : decode cX2_made 22 = .ok (.iload_n 1, 1) := by decide +kernel
theorem dX2_made_23 : decode cX2_made 23 = .ok (.aaload, 1) := by decide +kernel
theorem dX2_made_24 : decode cX2_made 24 = .ok (.iconst 1, 1) := by decide +kernel
theorem dX2_made_25 : decode cX2_made 25 = .ok (.iaload, 1) := by decide +kernel
theorem dX2_made_26 : decode cX2_made 26 = .ok (.isub, 1) := by decide +kernel
theorem dX2_made_27 : decode cX2_made 27 = .ok (.invokestatic 58, 3) := by decide +kernel
theorem dX2_made_30 : decode cX2_made 30 = .ok (.imul, 1) := by decide +kernel
theorem dX2_made_31 : decode cX2_made 31 = .ok (.isub, 1) := by decide +kernel
theorem dX2_made_32 : decode cX2_made 32 = .ok (.ireturn, 1) := by decide +kernel
theorem dX2_wanted_0 : decode cX2_wanted 0 = .ok (.iconst 0, 1) := by decide +kernel
theorem dX2_wanted_1 : decode cX2_wanted 1 = .ok (.istore_n 3, 1) := by decide +kernel
theorem dX2_wanted_2 : decode cX2_wanted 2 = .ok (.iload_n 3, 1) := by decide +kernel
theorem dX2_wanted_3 : decode cX2_wanted 3 = .ok (.bipush 12, 2) := by decide +kernel
theorem dX2_wanted_5 : decode cX2_wanted 5 = .ok (.if_icmp .ge 35, 3) := by decide +kernel
theorem dX2_wanted_8 : decode cX2_wanted 8 = .ok (.iload_n 3, 1) := by decide +kernel
theorem dX2_wanted_9 : decode cX2_wanted 9 = .ok (.iload_n 2, 1) := by decide +kernel
theorem dX2_wanted_10 : decode cX2_wanted 10 = .ok (.if_icmp .ge 30, 3) := by decide +kernel
theorem dX2_wanted_13 : decode cX2_wanted 13 = .ok (.aload_n 0, 1) := by decide +kernel
theorem dX2_wanted_14 : decode cX2_wanted 14 = .ok (.getfield 20, 3) := by decide +kernel
theorem dX2_wanted_17 : decode cX2_wanted 17 = .ok (.iload_n 1, 1) := by decide +kernel
theorem dX2_wanted_18 : decode cX2_wanted 18 = .ok (.aaload, 1) := by decide +kernel
theorem dX2_wanted_19 : decode cX2_wanted 19 = .ok (.iload_n 3, 1) := by decide +kernel
theorem dX2_wanted_20 : decode cX2_wanted 20 = .ok (.iconst 1, 1) := by decide +kernel
theorem dX2_wanted_21 : decode cX2_wanted 21 = .ok (.iadd, 1) := by decide +kernel
theorem dX2_wanted_22 : decode cX2_wanted 22 = .ok (.iaload, 1) := by decide +kernel
theorem dX2_wanted_23 : decode cX2_wanted 23 = .ok (.aload_n 0, 1) := by decide +kernel
theorem dX2_wanted_24 : decode cX2_wanted 24 = .ok (.getfield 20, 3) := by decide +kernel
theorem dX2_wanted_27 : decode cX2_wanted 27 = .ok (.iload_n 1, 1) := by decide +kernel
theorem dX2_wanted_28 : decode cX2_wanted 28 = .ok (.aaload, 1) := by decide +kernel
theorem dX2_wanted_29 : decode cX2_wanted 29 = .ok (.iload_n 3, 1) := by decide +kernel
theorem dX2_wanted_30 : decode cX2_wanted 30 = .ok (.iaload, 1) := by decide +kernel
theorem dX2_wanted_31 : decode cX2_wanted 31 = .ok (.if_icmp .le 9, 3) := by decide +kernel
theorem dX2_wanted_34 : decode cX2_wanted 34 = .ok (.iinc 3 1, 3) := by decide +kernel
theorem dX2_wanted_37 : decode cX2_wanted 37 = .ok (.goto (-35), 3) := by decide +kernel
theorem dX2_wanted_40 : decode cX2_wanted 40 = .ok (.iload_n 3, 1) := by decide +kernel
theorem dX2_wanted_41 : decode cX2_wanted 41 = .ok (.ireturn, 1) := by decide +kernel
theorem dX2_copyFrom_0 : decode cX2_copyFrom 0 = .ok (.aload_n 0, 1) := by decide +kernel
theorem dX2_copyFrom_1 : decode cX2_copyFrom 1 = .ok (.aload_n 1, 1) := by decide +kernel
theorem dX2_copyFrom_2 : decode cX2_copyFrom 2 = .ok (.getfield 9, 3) := by decide +kernel
theorem dX2_copyFrom_5 : decode cX2_copyFrom 5 = .ok (.putfield 9, 3) := by decide +kernel
theorem dX2_copyFrom_8 : decode cX2_copyFrom 8 = .ok (.iconst 0, 1) := by decide +kernel
theorem dX2_copyFrom_9 : decode cX2_copyFrom 9 = .ok (.istore_n 2, 1) := by decide +kernel
theorem dX2_copyFrom_10 : decode cX2_copyFrom 10 = .ok (.iload_n 2, 1) := by decide +kernel
theorem dX2_copyFrom_11 : decode cX2_copyFrom 11 = .ok (.bipush 6, 2) := by decide +kernel
theorem dX2_copyFrom_13 : decode cX2_copyFrom 13 = .ok (.if_icmp .ge 47, 3) := by decide +kernel
theorem dX2_copyFrom_16 : decode cX2_copyFrom 16 = .ok (.aload_n 1, 1) := by decide +kernel
theorem dX2_copyFrom_17 : decode cX2_copyFrom 17 = .ok (.getfield 17, 3) := by decide +kernel
theorem dX2_copyFrom_20 : decode cX2_copyFrom 20 = .ok (.iload_n 2, 1) := by decide +kernel
theorem dX2_copyFrom_21 : decode cX2_copyFrom 21 = .ok (.aaload, 1) := by decide +kernel
theorem dX2_copyFrom_22 : decode cX2_copyFrom 22 = .ok (.iconst 0, 1) := by decide +kernel
theorem dX2_copyFrom_23 : decode cX2_copyFrom 23 = .ok (.aload_n 0, 1) := by decide +kernel
theorem dX2_copyFrom_24 : decode cX2_copyFrom 24 = .ok (.getfield 17, 3) := by decide +kernel
theorem dX2_copyFrom_27 : decode cX2_copyFrom 27 = .ok (.iload_n 2, 1) := by decide +kernel
theorem dX2_copyFrom_28 : decode cX2_copyFrom 28 = .ok (.aaload, 1) := by decide +kernel
theorem dX2_copyFrom_29 : decode cX2_copyFrom 29 = .ok (.iconst 0, 1) := by decide +kernel
theorem dX2_copyFrom_30 : decode cX2_copyFrom 30 = .ok (.bipush 6, 2) := by decide +kernel
theorem dX2_copyFrom_32 : decode cX2_copyFrom 32 = .ok (.invokestatic 46, 3) := by decide +kernel
theorem dX2_copyFrom_35 : decode cX2_copyFrom 35 = .ok (.aload_n 1, 1) := by decide +kernel
theorem dX2_copyFrom_36 : decode cX2_copyFrom 36 = .ok (.getfield 20, 3) := by decide +kernel
theorem dX2_copyFrom_39 : decode cX2_copyFrom 39 = .ok (.iload_n 2, 1) := by decide +kernel
theorem dX2_copyFrom_40 : decode cX2_copyFrom 40 = .ok (.aaload, 1) := by decide +kernel
theorem dX2_copyFrom_41 : decode cX2_copyFrom 41 = .ok (.iconst 0, 1) := by decide +kernel
theorem dX2_copyFrom_42 : decode cX2_copyFrom 42 = .ok (.aload_n 0, 1) := by decide +kernel
theorem dX2_copyFrom_43 : decode cX2_copyFrom 43 = .ok (.getfield 20, 3) := by decide +kernel
theorem dX2_copyFrom_46 : decode cX2_copyFrom 46 = .ok (.iload_n 2, 1) := by decide +kernel
theorem dX2_copyFrom_47 : decode cX2_copyFrom 47 = .ok (.aaload, 1) := by decide +kernel
theorem dX2_copyFrom_48 : decode cX2_copyFrom 48 = .ok (.iconst 0, 1) := by decide +kernel
theorem dX2_copyFrom_49 : decode cX2_copyFrom 49 = .ok (.bipush 13, 2) := by decide +kernel
theorem dX2_copyFrom_51 : decode cX2_copyFrom 51 = .ok (.invokestatic 46, 3) := by decide +kernel
theorem dX2_copyFrom_54 : decode cX2_copyFrom 54 = .ok (.iinc 2 1, 3) := by decide +kernel
theorem dX2_copyFrom_57 : decode cX2_copyFrom 57 = .ok (.goto (-47), 3) := by decide +kernel
theorem dX2_copyFrom_60 : decode cX2_copyFrom 60 = .ok (.aload_n 0, 1) := by decide +kernel
theorem dX2_copyFrom_61 : decode cX2_copyFrom 61 = .ok (.aload_n 1, 1) := by decide +kernel
theorem dX2_copyFrom_62 : decode cX2_copyFrom 62 = .ok (.getfield 23, 3) := by decide +kernel
theorem dX2_copyFrom_65 : decode cX2_copyFrom 65 = .ok (.putfield 23, 3) := by decide +kernel
theorem dX2_copyFrom_68 : decode cX2_copyFrom 68 = .ok (.aload_n 1, 1) := by decide +kernel
theorem dX2_copyFrom_69 : decode cX2_copyFrom 69 = .ok (.getfield 26, 3) := by decide +kernel
theorem dX2_copyFrom_72 : decode cX2_copyFrom 72 = .ok (.iconst 0, 1) := by decide +kernel
theorem dX2_copyFrom_73 : decode cX2_copyFrom 73 = .ok (.aload_n 0, 1) := by decide +kernel
theorem dX2_copyFrom_74 : decode cX2_copyFrom 74 = .ok (.getfield 26, 3) := by decide +kernel
theorem dX2_copyFrom_77 : decode cX2_copyFrom 77 = .ok (.iconst 0, 1) := by decide +kernel
theorem dX2_copyFrom_78 : decode cX2_copyFrom 78 = .ok (.bipush 6, 2) := by decide +kernel
theorem dX2_copyFrom_80 : decode cX2_copyFrom 80 = .ok (.invokestatic 46, 3) := by decide +kernel
theorem dX2_copyFrom_83 : decode cX2_copyFrom 83 = .ok (.aload_n 0, 1) := by decide +kernel
theorem dX2_copyFrom_84 : decode cX2_copyFrom 84 = .ok (.aload_n 1, 1) := by decide +kernel
theorem dX2_copyFrom_85 : decode cX2_copyFrom 85 = .ok (.getfield 30, 3) := by decide +kernel
theorem dX2_copyFrom_88 : decode cX2_copyFrom 88 = .ok (.putfield 30, 3) := by decide +kernel
theorem dX2_copyFrom_91 : decode cX2_copyFrom 91 = .ok (.aload_n 0, 1) := by decide +kernel
theorem dX2_copyFrom_92 : decode cX2_copyFrom 92 = .ok (.aload_n 1, 1) := by decide +kernel
theorem dX2_copyFrom_93 : decode cX2_copyFrom 93 = .ok (.getfield 33, 3) := by decide +kernel
theorem dX2_copyFrom_96 : decode cX2_copyFrom 96 = .ok (.putfield 33, 3) := by decide +kernel
theorem dX2_copyFrom_99 : decode cX2_copyFrom 99 = .ok (.aload_n 0, 1) := by decide +kernel
theorem dX2_copyFrom_100 : decode cX2_copyFrom 100 = .ok (.getfield 39, 3) := by decide +kernel
theorem dX2_copyFrom_103 : decode cX2_copyFrom 103 = .ok (.aload_n 1, 1) := by decide +kernel
theorem dX2_copyFrom_104 : decode cX2_copyFrom 104 = .ok (.getfield 39, 3) := by decide +kernel
theorem dX2_copyFrom_107 : decode cX2_copyFrom 107 = .ok (.invokevirtual 64, 3) := by decide +kernel
theorem dX2_copyFrom_110 : decode cX2_copyFrom 110 = .ok (.return_, 1) := by decide +kernel
theorem dX3_init_0 : decode cX3_init 0 = .ok (.aload_n 0, 1) := by decide +kernel
theorem dX3_init_1 : decode cX3_init 1 = .ok (.invokespecial 3, 3) := by decide +kernel
theorem dX3_init_4 : decode cX3_init 4 = .ok (.aload_n 0, 1) := by decide +kernel
theorem dX3_init_5 : decode cX3_init 5 = .ok (.iconst (-1), 1) := by decide +kernel
theorem dX3_init_6 : decode cX3_init 6 = .ok (.putfield 9, 3) := by decide +kernel
theorem dX3_init_9 : decode cX3_init 9 = .ok (.aload_n 0, 1) := by decide +kernel
theorem dX3_init_10 : decode cX3_init 10 = .ok (.iconst 0, 1) := by decide +kernel
theorem dX3_init_11 : decode cX3_init 11 = .ok (.putfield 15, 3) := by decide +kernel
theorem dX3_init_14 : decode cX3_init 14 = .ok (.aload_n 0, 1) := by decide +kernel
theorem dX3_init_15 : decode cX3_init 15 = .ok (.bipush 40, 2) := by decide +kernel
theorem dX3_init_17 : decode cX3_init 17 = .ok (.newarray .int, 2) := by decide +kernel
theorem dX3_init_19 : decode cX3_init 19 = .ok (.putfield 18, 3) := by decide +kernel
theorem dX3_init_22 : decode cX3_init 22 = .ok (.return_, 1) := by decide +kernel
theorem dX3_becomeRow_0 : decode cX3_becomeRow 0 = .ok (.aload_n 0, 1) := by decide +kernel
theorem dX3_becomeRow_1 : decode cX3_becomeRow 1 = .ok (.iload_n 1, 1) := by decide +kernel
theorem dX3_becomeRow_2 : decode cX3_becomeRow 2 = .ok (.putfield 9, 3) := by decide +kernel
theorem dX3_becomeRow_5 : decode cX3_becomeRow 5 = .ok (.aload_n 0, 1) := by decide +kernel
theorem dX3_becomeRow_6 : decode cX3_becomeRow 6 = .ok (.iload_n 2, 1) := by decide +kernel
theorem dX3_becomeRow_7 : decode cX3_becomeRow 7 = .ok (.putfield 15, 3) := by decide +kernel
theorem dX3_becomeRow_10 : decode cX3_becomeRow 10 = .ok (.aload_n 0, 1) := by decide +kernel
theorem dX3_becomeRow_11 : decode cX3_becomeRow 11 = .ok (.getfield 18, 3) := by decide +kernel
theorem dX3_becomeRow_14 : decode cX3_becomeRow 14 = .ok (.iconst 0, 1) := by decide +kernel
theorem dX3_becomeRow_15 : decode cX3_becomeRow 15 = .ok (.invokestatic 22, 3) := by decide +kernel
theorem dX3_becomeRow_18 : decode cX3_becomeRow 18 = .ok (.return_, 1) := by decide +kernel
theorem dX3_refusalAs_0 : decode cX3_refusalAs 0 = .ok (.aload_n 0, 1) := by decide +kernel
theorem dX3_refusalAs_1 : decode cX3_refusalAs 1 = .ok (.getfield 9, 3) := by decide +kernel
theorem dX3_refusalAs_4 : decode cX3_refusalAs 4 = .ok (.iconst (-1), 1) := by decide +kernel
theorem dX3_refusalAs_5 : decode cX3_refusalAs 5 = .ok (.if_icmp .ne 6, 3) := by decide +kernel
theorem dX3_refusalAs_8 : decode cX3_refusalAs 8 = .ok (.bipush (-11), 2) := by decide +kernel
theorem dX3_refusalAs_10 : decode cX3_refusalAs 10 = .ok (.ireturn, 1) := by decide +kernel
theorem dX3_refusalAs_11 : decode cX3_refusalAs 11 = .ok (.aload_n 0, 1) := by decide +kernel
theorem dX3_refusalAs_12 : decode cX3_refusalAs 12 = .ok (.getfield 9, 3) := by decide +kernel
theorem dX3_refusalAs_15 : decode cX3_refusalAs 15 = .ok (.iload_n 1, 1) := by decide +kernel
theorem dX3_refusalAs_16 : decode cX3_refusalAs 16 = .ok (.if_icmp .ne 7, 3) := by decide +kernel
theorem dX3_refusalAs_19 : decode cX3_refusalAs 19 = .ok (.iconst 0, 1) := by decide +kernel
theorem dX3_refusalAs_20 : decode cX3_refusalAs 20 = .ok (.goto 5, 3) := by decide +kernel
theorem dX3_refusalAs_23 : decode cX3_refusalAs 23 = .ok (.bipush (-13), 2) := by decide +kernel
theorem dX3_refusalAs_25 : decode cX3_refusalAs 25 = .ok (.ireturn, 1) := by decide +kernel
theorem dX3_hasItem_0 : decode cX3_hasItem 0 = .ok (.iload_n 1, 1) := by decide +kernel
theorem dX3_hasItem_1 : decode cX3_hasItem 1 = .ok (.iconst 0, 1) := by decide +kernel
theorem dX3_hasItem_2 : decode cX3_hasItem 2 = .ok (.aload_n 0, 1) := by decide +kernel
theorem dX3_hasItem_3 : decode cX3_hasItem 3 = .ok (.getfield 15, 3) := by decide +kernel
theorem dX3_hasItem_6 : decode cX3_hasItem 6 = .ok (.iconst 1, 1) := by decide +kernel
theorem dX3_hasItem_7 : decode cX3_hasItem 7 = .ok (.isub, 1) := by decide +kernel
theorem dX3_hasItem_8 : decode cX3_hasItem 8 = .ok (.invokestatic 28, 3) := by decide +kernel
theorem dX3_hasItem_11 : decode cX3_hasItem 11 = .ok (.ireturn, 1) := by decide +kernel
theorem dX3_narrowed_0 : decode cX3_narrowed 0 = .ok (.aload_n 0, 1) := by decide +kernel
theorem dX3_narrowed_1 : decode cX3_narrowed 1 = .ok (.getfield 9, 3) := by decide +kernel
theorem dX3_narrowed_4 : decode cX3_narrowed 4 = .ok (.ifCond .ne 6, 3) := by decide +kernel
theorem dX3_narrowed_7 : decode cX3_narrowed 7 = .ok (.iload_n 1, 1) := by decide +kernel
theorem dX3_narrowed_8 : decode cX3_narrowed 8 = .ok (.i2b, 1) := by decide +kernel
theorem dX3_narrowed_9 : decode cX3_narrowed 9 = .ok (.ireturn, 1) := by decide +kernel
theorem dX3_narrowed_10 : decode cX3_narrowed 10 = .ok (.aload_n 0, 1) := by decide +kernel
theorem dX3_narrowed_11 : decode cX3_narrowed 11 = .ok (.getfield 9, 3) := by decide +kernel
theorem dX3_narrowed_14 : decode cX3_narrowed 14 = .ok (.iconst 1, 1) := by decide +kernel
theorem dX3_narrowed_15 : decode cX3_narrowed 15 = .ok (.if_icmp .ne 8, 3) := by decide +kernel
theorem dX3_narrowed_18 : decode cX3_narrowed 18 = .ok (.iload_n 1, 1) := by decide +kernel
theorem dX3_narrowed_19 : decode cX3_narrowed 19 = .ok (.i2s, 1) := by decide +kernel
theorem dX3_narrowed_20 : decode cX3_narrowed 20 = .ok (.goto 4, 3) := by decide +kernel
theorem dX3_narrowed_23 : decode cX3_narrowed 23 = .ok (.iload_n 1, 1) := by decide +kernel
theorem dX3_narrowed_24 : decode cX3_narrowed 24 = .ok (.ireturn, 1) := by decide +kernel
theorem dX4_init_0 : decode cX4_init 0 = .ok (.aload_n 0, 1) := by decide +kernel
theorem dX4_init_1 : decode cX4_init 1 = .ok (.invokespecial 3, 3) := by decide +kernel
theorem dX4_init_4 : decode cX4_init 4 = .ok (.aload_n 0, 1) := by decide +kernel
theorem dX4_init_5 : decode cX4_init 5 = .ok (.bipush 6, 2) := by decide +kernel
theorem dX4_init_7 : decode cX4_init 7 = .ok (.newarray .int, 2) := by decide +kernel
theorem dX4_init_9 : decode cX4_init 9 = .ok (.putfield 9, 3) := by decide +kernel
theorem dX4_init_12 : decode cX4_init 12 = .ok (.aload_n 0, 1) := by decide +kernel
theorem dX4_init_13 : decode cX4_init 13 = .ok (.bipush 6, 2) := by decide +kernel
theorem dX4_init_15 : decode cX4_init 15 = .ok (.iconst 5, 1) := by decide +kernel
theorem dX4_init_16 : decode cX4_init 16 = .ok (.multianewarray 15 2, 4) := by decide +kernel
theorem dX4_init_20 : decode cX4_init 20 = .ok (.putfield 17, 3) := by decide +kernel
theorem dX4_init_23 : decode cX4_init 23 = .ok (.aload_n 0, 1) := by decide +kernel
theorem dX4_init_24 : decode cX4_init 24 = .ok (.iconst 5, 1) := by decide +kernel
theorem dX4_init_25 : decode cX4_init 25 = .ok (.newarray .int, 2) := by decide +kernel
theorem dX4_init_27 : decode cX4_init 27 = .ok (.putfield 20, 3) := by decide +kernel
theorem dX4_init_30 : decode cX4_init 30 = .ok (.aload_n 0, 1) := by decide +kernel
theorem dX4_init_31 : decode cX4_init 31 = .ok (.iconst 5, 1) := by decide +kernel
theorem dX4_init_32 : decode cX4_init 32 = .ok (.newarray .int, 2) := by decide +kernel
theorem dX4_init_34 : decode cX4_init 34 = .ok (.putfield 23, 3) := by decide +kernel
theorem dX4_init_37 : decode cX4_init 37 = .ok (.aload_n 0, 1) := by decide +kernel
theorem dX4_init_38 : decode cX4_init 38 = .ok (.bipush 9, 2) := by decide +kernel
theorem dX4_init_40 : decode cX4_init 40 = .ok (.newarray .int, 2) := by decide +kernel
theorem dX4_init_42 : decode cX4_init 42 = .ok (.putfield 26, 3) := by decide +kernel
theorem dX4_init_45 : decode cX4_init 45 = .ok (.return_, 1) := by decide +kernel
theorem dX4_storeBest_0 : decode cX4_storeBest 0 = .ok (.aload_n 1, 1) := by decide +kernel
theorem dX4_storeBest_1 : decode cX4_storeBest 1 = .ok (.getfield 29, 3) := by decide +kernel
theorem dX4_storeBest_4 : decode cX4_storeBest 4 = .ok (.ifCond .ge 7, 3) := by decide +kernel
theorem dX4_storeBest_7 : decode cX4_storeBest 7 = .ok (.iconst 0, 1) := by decide +kernel
theorem dX4_storeBest_8 : decode cX4_storeBest 8 = .ok (.goto 7, 3) := by decide +kernel
theorem dX4_storeBest_11 : decode cX4_storeBest 11 = .ok (.aload_n 1, 1) := by decide +kernel
theorem dX4_storeBest_12 : decode cX4_storeBest 12 = .ok (.getfield 35, 3) := by decide +kernel
theorem dX4_storeBest_15 : decode cX4_storeBest 15 = .ok (.istore_n 3, 1) := by decide +kernel
theorem dX4_storeBest_16 : decode cX4_storeBest 16 = .ok (.aload_n 0, 1) := by decide +kernel
theorem dX4_storeBest_17 : decode cX4_storeBest 17 = .ok (.getfield 20, 3) := by decide +kernel
theorem dX4_storeBest_20 : decode cX4_storeBest 20 = .ok (.iconst 0, 1) := by decide +kernel
theorem dX4_storeBest_21 : decode cX4_storeBest 21 = .ok (.invokestatic 38, 3) := by decide +kernel
theorem dX4_storeBest_24 : decode cX4_storeBest 24 = .ok (.aload_n 1, 1) := by decide +kernel
theorem dX4_storeBest_25 : decode cX4_storeBest 25 = .ok (.getfield 44, 3) := by decide +kernel
theorem dX4_storeBest_28 : decode cX4_storeBest 28 = .ok (.iconst 1, 1) := by decide +kernel
theorem dX4_storeBest_29 : decode cX4_storeBest 29 = .ok (.isub, 1) := by decide +kernel
theorem dX4_storeBest_30 : decode cX4_storeBest 30 = .ok (.istore 4, 2) := by decide +kernel
theorem dX4_storeBest_32 : decode cX4_storeBest 32 = .ok (.iload 4, 2) := by decide +kernel
theorem dX4_storeBest_34 : decode cX4_storeBest 34 = .ok (.ifCond .lt 104, 3) := by decide +kernel
theorem dX4_storeBest_37 : decode cX4_storeBest 37 = .ok (.aload_n 2, 1) := by decide +kernel
theorem dX4_storeBest_38 : decode cX4_storeBest 38 = .ok (.aload_n 1, 1) := by decide +kernel
theorem dX4_storeBest_39 : decode cX4_storeBest 39 = .ok (.aload_n 1, 1) := by decide +kernel
theorem dX4_storeBest_40 : decode cX4_storeBest 40 = .ok (.getfield 47, 3) := by decide +kernel
theorem dX4_storeBest_43 : decode cX4_storeBest 43 = .ok (.iload 4, 2) := by decide +kernel
theorem dX4_storeBest_45 : decode cX4_storeBest 45 = .ok (.iaload, 1) := by decide +kernel
theorem dX4_storeBest_46 : decode cX4_storeBest 46 = .ok (.invokevirtual 50, 3) := by decide +kernel
theorem dX4_storeBest_49 : decode cX4_storeBest 49 = .ok (.aload_n 1, 1) := by decide +kernel
theorem dX4_storeBest_50 : decode cX4_storeBest 50 = .ok (.getfield 29, 3) := by decide +kernel
theorem dX4_storeBest_53 : decode cX4_storeBest 53 = .ok (.ifCond .ge 7, 3) := by decide +kernel
theorem dX4_storeBest_56 : decode cX4_storeBest 56 = .ok (.iconst 0, 1) := by decide +kernel
theorem dX4_storeBest_57 : decode cX4_storeBest 57 = .ok (.goto 12, 3) := by decide +kernel
theorem dX4_storeBest_60 : decode cX4_storeBest 60 = .ok (.aload_n 2, 1) := by decide +kernel
theorem dX4_storeBest_61 : decode cX4_storeBest 61 = .ok (.getfield 55, 3) := by decide +kernel
theorem dX4_storeBest_64 : decode cX4_storeBest 64 = .ok (.aload_n 1, 1) := by decide +kernel
theorem dX4_storeBest_65 : decode cX4_storeBest 65 = .ok (.getfield 29, 3) := by decide +kernel
theorem dX4_storeBest_68 : decode cX4_storeBest 68 = .ok (.iaload, 1) := by decide +kernel
theorem dX4_storeBest_69 : decode cX4_storeBest 69 = .ok (.istore 5, 2) := by decide +kernel
theorem dX4_storeBest_71 : decode cX4_storeBest 71 = .ok (.aload_n 0, 1) := by decide +kernel
theorem dX4_storeBest_72 : decode cX4_storeBest 72 = .ok (.aload_n 1, 1) := by decide +kernel
theorem dX4_storeBest_73 : decode cX4_storeBest 73 = .ok (.aload_n 2, 1) := by decide +kernel
theorem dX4_storeBest_74 : decode cX4_storeBest 74 = .ok (.iload 5, 2) := by decide +kernel
theorem dX4_storeBest_76 : decode cX4_storeBest 76 = .ok (.iload_n 3, 1) := by decide +kernel
theorem dX4_storeBest_77 : decode cX4_storeBest 77 = .ok (.invokevirtual 58, 3) := by decide +kernel
theorem dX4_storeBest_80 : decode cX4_storeBest 80 = .ok (.iconst 0, 1) := by decide +kernel
theorem dX4_storeBest_81 : decode cX4_storeBest 81 = .ok (.istore 6, 2) := by decide +kernel
theorem dX4_storeBest_83 : decode cX4_storeBest 83 = .ok (.iload 6, 2) := by decide +kernel
theorem dX4_storeBest_85 : decode cX4_storeBest 85 = .ok (.iload_n 3, 1) := by decide +kernel
theorem dX4_storeBest_86 : decode cX4_storeBest 86 = .ok (.if_icmp .gt 26, 3) := by decide +kernel
theorem dX4_storeBest_89 : decode cX4_storeBest 89 = .ok (.aload_n 0, 1) := by decide +kernel
theorem dX4_storeBest_90 : decode cX4_storeBest 90 = .ok (.iload 4, 2) := by decide +kernel
theorem dX4_storeBest_92 : decode cX4_storeBest 92 = .ok (.iload 6, 2) := by decide +kernel
theorem dX4_storeBest_94 : decode cX4_storeBest 94 = .ok (.iload_n 3, 1) := by decide +kernel
theorem dX4_storeBest_95 : decode cX4_storeBest 95 = .ok (.iload 5, 2) := by decide +kernel
theorem dX4_storeBest_97 : decode cX4_storeBest 97 = .ok (.iload 6, 2) := by decide +kernel
theorem dX4_storeBest_99 : decode cX4_storeBest 99 = .ok (.iadd, 1) := by decide +kernel
theorem dX4_storeBest_100 : decode cX4_storeBest 100 = .ok (.invokestatic 62, 3) := by decide +kernel
theorem dX4_storeBest_103 : decode cX4_storeBest 103 = .ok (.invokevirtual 68, 3) := by decide +kernel
theorem dX4_storeBest_106 : decode cX4_storeBest 106 = .ok (.iinc 6 1, 3) := by decide +kernel
theorem dX4_storeBest_109 : decode cX4_storeBest 109 = .ok (.goto (-26), 3) := by decide +kernel
theorem dX4_storeBest_112 : decode cX4_storeBest 112 = .ok (.aload_n 0, 1) := by decide +kernel
theorem dX4_storeBest_113 : decode cX4_storeBest 113 = .ok (.getfield 20, 3) := by decide +kernel
theorem dX4_storeBest_116 : decode cX4_storeBest 116 = .ok (.astore 6, 2) := by decide +kernel
theorem dX4_storeBest_118 : decode cX4_storeBest 118 = .ok (.aload_n 0, 1) := by decide +kernel
theorem dX4_storeBest_119 : decode cX4_storeBest 119 = .ok (.aload_n 0, 1) := by decide +kernel
theorem dX4_storeBest_120 : decode cX4_storeBest 120 = .ok (.getfield 23, 3) := by decide +kernel
theorem dX4_storeBest_123 : decode cX4_storeBest 123 = .ok (.putfield 20, 3) := by decide +kernel
theorem dX4_storeBest_126 : decode cX4_storeBest 126 = .ok (.aload_n 0, 1) := by decide +kernel
theorem dX4_storeBest_127 : decode cX4_storeBest 127 = .ok (.aload 6, 2) := by decide +kernel
theorem dX4_storeBest_129 : decode cX4_storeBest 129 = .ok (.putfield 23, 3) := by decide +kernel
theorem dX4_storeBest_132 : decode cX4_storeBest 132 = .ok (.iinc 4 (-1), 3) := by decide +kernel
theorem dX4_storeBest_135 : decode cX4_storeBest 135 = .ok (.goto (-103), 3) := by decide +kernel
theorem dX4_storeBest_138 : decode cX4_storeBest 138 = .ok (.iconst 0, 1) := by decide +kernel
theorem dX4_storeBest_139 : decode cX4_storeBest 139 = .ok (.istore 4, 2) := by decide +kernel
theorem dX4_storeBest_141 : decode cX4_storeBest 141 = .ok (.iconst 0, 1) := by decide +kernel
theorem dX4_storeBest_142 : decode cX4_storeBest 142 = .ok (.istore 5, 2) := by decide +kernel
theorem dX4_storeBest_144 : decode cX4_storeBest 144 = .ok (.iload 5, 2) := by decide +kernel
theorem dX4_storeBest_146 : decode cX4_storeBest 146 = .ok (.aload_n 1, 1) := by decide +kernel
theorem dX4_storeBest_147 : decode cX4_storeBest 147 = .ok (.getfield 44, 3) := by decide +kernel
theorem dX4_storeBest_150 : decode cX4_storeBest 150 = .ok (.if_icmp .ge 30, 3) := by decide +kernel
theorem dX4_storeBest_153 : decode cX4_storeBest 153 = .ok (.aload_n 0, 1) := by decide +kernel
theorem dX4_storeBest_154 : decode cX4_storeBest 154 = .ok (.getfield 17, 3) := by decide +kernel
theorem dX4_storeBest_157 : decode cX4_storeBest 157 = .ok (.iload 5, 2) := by decide +kernel
theorem dX4_storeBest_159 : decode cX4_storeBest 159 = .ok (.aaload, 1) := by decide +kernel
theorem dX4_storeBest_160 : decode cX4_storeBest 160 = .ok (.iload 4, 2) := by decide +kernel
theorem dX4_storeBest_162 : decode cX4_storeBest 162 = .ok (.iaload, 1) := by decide +kernel
theorem dX4_storeBest_163 : decode cX4_storeBest 163 = .ok (.istore 4, 2) := by decide +kernel
theorem dX4_storeBest_165 : decode cX4_storeBest 165 = .ok (.aload_n 0, 1) := by decide +kernel
theorem dX4_storeBest_166 : decode cX4_storeBest 166 = .ok (.getfield 9, 3) := by decide +kernel
theorem dX4_storeBest_169 : decode cX4_storeBest 169 = .ok (.iload 5, 2) := by decide +kernel
theorem dX4_storeBest_171 : decode cX4_storeBest 171 = .ok (.iload 4, 2) := by decide +kernel
theorem dX4_storeBest_173 : decode cX4_storeBest 173 = .ok (.iastore, 1) := by decide +kernel
theorem dX4_storeBest_174 : decode cX4_storeBest 174 = .ok (.iinc 5 1, 3) := by decide +kernel
theorem dX4_storeBest_177 : decode cX4_storeBest 177 = .ok (.goto (-33), 3) := by decide +kernel
theorem dX4_storeBest_180 : decode cX4_storeBest 180 = .ok (.aload_n 0, 1) := by decide +kernel
theorem dX4_storeBest_181 : decode cX4_storeBest 181 = .ok (.getfield 20, 3) := by decide +kernel
theorem dX4_storeBest_184 : decode cX4_storeBest 184 = .ok (.iconst 0, 1) := by decide +kernel
theorem dX4_storeBest_185 : decode cX4_storeBest 185 = .ok (.iaload, 1) := by decide +kernel
theorem dX4_storeBest_186 : decode cX4_storeBest 186 = .ok (.ireturn, 1) := by decide +kernel
theorem dX4_fillBests_0 : decode cX4_fillBests 0 = .ok (.iload 4, 2) := by decide +kernel
theorem dX4_fillBests_2 : decode cX4_fillBests 2 = .ok (.ineg, 1) := by decide +kernel
theorem dX4_fillBests_3 : decode cX4_fillBests 3 = .ok (.istore 5, 2) := by decide +kernel
theorem dX4_fillBests_5 : decode cX4_fillBests 5 = .ok (.iload 5, 2) := by decide +kernel
theorem dX4_fillBests_7 : decode cX4_fillBests 7 = .ok (.iload 4, 2) := by decide +kernel
theorem dX4_fillBests_9 : decode cX4_fillBests 9 = .ok (.if_icmp .gt 60, 3) := by decide +kernel
theorem dX4_fillBests_12 : decode cX4_fillBests 12 = .ok (.iload_n 3, 1) := by decide +kernel
theorem dX4_fillBests_13 : decode cX4_fillBests 13 = .ok (.iload 5, 2) := by decide +kernel
theorem dX4_fillBests_15 : decode cX4_fillBests 15 = .ok (.iadd, 1) := by decide +kernel
theorem dX4_fillBests_16 : decode cX4_fillBests 16 = .ok (.ifCond .ge 6, 3) := by decide +kernel
theorem dX4_fillBests_19 : decode cX4_fillBests 19 = .ok (.goto 44, 3) := by decide +kernel
theorem dX4_fillBests_22 : decode cX4_fillBests 22 = .ok (.aload_n 1, 1) := by decide +kernel
theorem dX4_fillBests_23 : decode cX4_fillBests 23 = .ok (.getfield 29, 3) := by decide +kernel
theorem dX4_fillBests_26 : decode cX4_fillBests 26 = .ok (.ifCond .lt 16, 3) := by decide +kernel
theorem dX4_fillBests_29 : decode cX4_fillBests 29 = .ok (.aload_n 2, 1) := by decide +kernel
theorem dX4_fillBests_30 : decode cX4_fillBests 30 = .ok (.getfield 55, 3) := by decide +kernel
theorem dX4_fillBests_33 : decode cX4_fillBests 33 = .ok (.aload_n 1, 1) := by decide +kernel
theorem dX4_fillBests_34 : decode cX4_fillBests 34 = .ok (.getfield 29, 3) := by decide +kernel
theorem dX4_fillBests_37 : decode cX4_fillBests 37 = .ok (.iload_n 3, 1) := by decide +kernel
theorem dX4_fillBests_38 : decode cX4_fillBests 38 = .ok (.iload 5, 2) := by decide +kernel
theorem dX4_fillBests_40 : decode cX4_fillBests 40 = .ok (.iadd, 1) := by decide +kernel
theorem dX4_fillBests_41 : decode cX4_fillBests 41 = .ok (.iastore, 1) := by decide +kernel
theorem dX4_fillBests_42 : decode cX4_fillBests 42 = .ok (.aload_n 0, 1) := by decide +kernel
theorem dX4_fillBests_43 : decode cX4_fillBests 43 = .ok (.getfield 26, 3) := by decide +kernel
theorem dX4_fillBests_46 : decode cX4_fillBests 46 = .ok (.iconst 4, 1) := by decide +kernel
theorem dX4_fillBests_47 : decode cX4_fillBests 47 = .ok (.iload 5, 2) := by decide +kernel
theorem dX4_fillBests_49 : decode cX4_fillBests 49 = .ok (.iadd, 1) := by decide +kernel
theorem dX4_fillBests_50 : decode cX4_fillBests 50 = .ok (.aload_n 2, 1) := by decide +kernel
theorem dX4_fillBests_51 : decode cX4_fillBests 51 = .ok (.aload_n 1, 1) := by decide +kernel
theorem dX4_fillBests_52 : decode cX4_fillBests 52 = .ok (.iconst 0, 1) := by decide +kernel
theorem dX4_fillBests_53 : decode cX4_fillBests 53 = .ok (.aload_n 1, 1) := by decide +kernel
theorem dX4_fillBests_54 : decode cX4_fillBests 54 = .ok (.getfield 72, 3) := by decide +kernel
theorem dX4_fillBests_57 : decode cX4_fillBests 57 = .ok (.iconst 1, 1) := by decide +kernel
theorem dX4_fillBests_58 : decode cX4_fillBests 58 = .ok (.isub, 1) := by decide +kernel
theorem dX4_fillBests_59 : decode cX4_fillBests 59 = .ok (.invokevirtual 75, 3) := by decide +kernel
theorem dX4_fillBests_62 : decode cX4_fillBests 62 = .ok (.iastore, 1) := by decide +kernel
theorem dX4_fillBests_63 : decode cX4_fillBests 63 = .ok (.iinc 5 1, 3) := by decide +kernel
theorem dX4_fillBests_66 : decode cX4_fillBests 66 = .ok (.goto (-61), 3) := by decide +kernel
theorem dX4_fillBests_69 : decode cX4_fillBests 69 = .ok (.return_, 1) := by decide +kernel
theorem dX4_choose_0 : decode cX4_choose 0 = .ok (.aload_n 0, 1) := by decide +kernel
theorem dX4_choose_1 : decode cX4_choose 1 = .ok (.getfield 17, 3) := by decide +kernel
theorem dX4_choose_4 : decode cX4_choose 4 = .ok (.iload_n 1, 1) := by decide +kernel
theorem dX4_choose_5 : decode cX4_choose 5 = .ok (.aaload, 1) := by decide +kernel
theorem dX4_choose_6 : decode cX4_choose 6 = .ok (.iload_n 2, 1) := by decide +kernel
theorem dX4_choose_7 : decode cX4_choose 7 = .ok (.iconst 0, 1) := by decide +kernel
theorem dX4_choose_8 : decode cX4_choose 8 = .ok (.iastore, 1) := by decide +kernel
theorem dX4_choose_9 : decode cX4_choose 9 = .ok (.aload_n 0, 1) := by decide +kernel
theorem dX4_choose_10 : decode cX4_choose 10 = .ok (.getfield 23, 3) := by decide +kernel
theorem dX4_choose_13 : decode cX4_choose 13 = .ok (.iload_n 2, 1) := by decide +kernel
theorem dX4_choose_14 : decode cX4_choose 14 = .ok (.aload_n 0, 1) := by decide +kernel
theorem dX4_choose_15 : decode cX4_choose 15 = .ok (.getfield 26, 3) := by decide +kernel
theorem dX4_choose_18 : decode cX4_choose 18 = .ok (.iconst 4, 1) := by decide +kernel
theorem dX4_choose_19 : decode cX4_choose 19 = .ok (.iload_n 2, 1) := by decide +kernel
theorem dX4_choose_20 : decode cX4_choose 20 = .ok (.iadd, 1) := by decide +kernel
theorem dX4_choose_21 : decode cX4_choose 21 = .ok (.iaload, 1) := by decide +kernel
theorem dX4_choose_22 : decode cX4_choose 22 = .ok (.aload_n 0, 1) := by decide +kernel
theorem dX4_choose_23 : decode cX4_choose 23 = .ok (.getfield 20, 3) := by decide +kernel
theorem dX4_choose_26 : decode cX4_choose 26 = .ok (.iconst 0, 1) := by decide +kernel
theorem dX4_choose_27 : decode cX4_choose 27 = .ok (.iaload, 1) := by decide +kernel
theorem dX4_choose_28 : decode cX4_choose 28 = .ok (.iadd, 1) := by decide +kernel
theorem dX4_choose_29 : decode cX4_choose 29 = .ok (.iastore, 1) := by decide +kernel
theorem dX4_choose_30 : decode cX4_choose 30 = .ok (.iconst 1, 1) := by decide +kernel
theorem dX4_choose_31 : decode cX4_choose 31 = .ok (.istore 4, 2) := by decide +kernel
theorem dX4_choose_33 : decode cX4_choose 33 = .ok (.iload 4, 2) := by decide +kernel
theorem dX4_choose_35 : decode cX4_choose 35 = .ok (.iload_n 3, 1) := by decide +kernel
theorem dX4_choose_36 : decode cX4_choose 36 = .ok (.if_icmp .gt 59, 3) := by decide +kernel
theorem dX4_choose_39 : decode cX4_choose 39 = .ok (.aload_n 0, 1) := by decide +kernel
theorem dX4_choose_40 : decode cX4_choose 40 = .ok (.getfield 26, 3) := by decide +kernel
theorem dX4_choose_43 : decode cX4_choose 43 = .ok (.iconst 4, 1) := by decide +kernel
theorem dX4_choose_44 : decode cX4_choose 44 = .ok (.iload_n 2, 1) := by decide +kernel
theorem dX4_choose_45 : decode cX4_choose 45 = .ok (.iadd, 1) := by decide +kernel
theorem dX4_choose_46 : decode cX4_choose 46 = .ok (.iload 4, 2) := by decide +kernel
theorem dX4_choose_48 : decode cX4_choose 48 = .ok (.isub, 1) := by decide +kernel
theorem dX4_choose_49 : decode cX4_choose 49 = .ok (.iaload, 1) := by decide +kernel
theorem dX4_choose_50 : decode cX4_choose 50 = .ok (.aload_n 0, 1) := by decide +kernel
theorem dX4_choose_51 : decode cX4_choose 51 = .ok (.getfield 20, 3) := by decide +kernel
theorem dX4_choose_54 : decode cX4_choose 54 = .ok (.iload 4, 2) := by decide +kernel
theorem dX4_choose_56 : decode cX4_choose 56 = .ok (.iaload, 1) := by decide +kernel
theorem dX4_choose_57 : decode cX4_choose 57 = .ok (.iadd, 1) := by decide +kernel
theorem dX4_choose_58 : decode cX4_choose 58 = .ok (.istore 5, 2) := by decide +kernel
theorem dX4_choose_60 : decode cX4_choose 60 = .ok (.iload 5, 2) := by decide +kernel
theorem dX4_choose_62 : decode cX4_choose 62 = .ok (.aload_n 0, 1) := by decide +kernel
theorem dX4_choose_63 : decode cX4_choose 63 = .ok (.getfield 23, 3) := by decide +kernel
theorem dX4_choose_66 : decode cX4_choose 66 = .ok (.iload_n 2, 1) := by decide +kernel
theorem dX4_choose_67 : decode cX4_choose 67 = .ok (.iaload, 1) := by decide +kernel
theorem dX4_choose_68 : decode cX4_choose 68 = .ok (.if_icmp .le 21, 3) := by decide +kernel
theorem dX4_choose_71 : decode cX4_choose 71 = .ok (.aload_n 0, 1) := by decide +kernel
theorem dX4_choose_72 : decode cX4_choose 72 = .ok (.getfield 17, 3) := by decide +kernel
theorem dX4_choose_75 : decode cX4_choose 75 = .ok (.iload_n 1, 1) := by decide +kernel
theorem dX4_choose_76 : decode cX4_choose 76 = .ok (.aaload, 1) := by decide +kernel
theorem dX4_choose_77 : decode cX4_choose 77 = .ok (.iload_n 2, 1) := by decide +kernel
theorem dX4_choose_78 : decode cX4_choose 78 = .ok (.iload 4, 2) := by decide +kernel
theorem dX4_choose_80 : decode cX4_choose 80 = .ok (.iastore, 1) := by decide +kernel
theorem dX4_choose_81 : decode cX4_choose 81 = .ok (.aload_n 0, 1) := by decide +kernel
theorem dX4_choose_82 : decode cX4_choose 82 = .ok (.getfield 23, 3) := by decide +kernel
theorem dX4_choose_85 : decode cX4_choose 85 = .ok (.iload_n 2, 1) := by decide +kernel
theorem dX4_choose_86 : decode cX4_choose 86 = .ok (.iload 5, 2) := by decide +kernel
theorem dX4_choose_88 : decode cX4_choose 88 = .ok (.iastore, 1) := by decide +kernel
theorem dX4_choose_89 : decode cX4_choose 89 = .ok (.iinc 4 1, 3) := by decide +kernel
theorem dX4_choose_92 : decode cX4_choose 92 = .ok (.goto (-59), 3) := by decide +kernel
theorem dX4_choose_95 : decode cX4_choose 95 = .ok (.return_, 1) := by decide +kernel
theorem dX5_init_0 : decode cX5_init 0 = .ok (.aload_n 0, 1) := by decide +kernel
theorem dX5_init_1 : decode cX5_init 1 = .ok (.invokespecial 1, 3) := by decide +kernel
theorem dX5_init_4 : decode cX5_init 4 = .ok (.aload_n 0, 1) := by decide +kernel
theorem dX5_init_5 : decode cX5_init 5 = .ok (.iconst 0, 1) := by decide +kernel
theorem dX5_init_6 : decode cX5_init 6 = .ok (.putfield 7, 3) := by decide +kernel
theorem dX5_init_9 : decode cX5_init 9 = .ok (.aload_n 0, 1) := by decide +kernel
theorem dX5_init_10 : decode cX5_init 10 = .ok (.bipush 8, 2) := by decide +kernel
theorem dX5_init_12 : decode cX5_init 12 = .ok (.newarray .int, 2) := by decide +kernel
theorem dX5_init_14 : decode cX5_init 14 = .ok (.putfield 13, 3) := by decide +kernel
theorem dX5_init_17 : decode cX5_init 17 = .ok (.aload_n 0, 1) := by decide +kernel
theorem dX5_init_18 : decode cX5_init 18 = .ok (.bipush 8, 2) := by decide +kernel
theorem dX5_init_20 : decode cX5_init 20 = .ok (.newarray .int, 2) := by decide +kernel
theorem dX5_init_22 : decode cX5_init 22 = .ok (.putfield 17, 3) := by decide +kernel
theorem dX5_init_25 : decode cX5_init 25 = .ok (.aload_n 0, 1) := by decide +kernel
theorem dX5_init_26 : decode cX5_init 26 = .ok (.bipush 8, 2) := by decide +kernel
theorem dX5_init_28 : decode cX5_init 28 = .ok (.newarray .int, 2) := by decide +kernel
theorem dX5_init_30 : decode cX5_init 30 = .ok (.putfield 20, 3) := by decide +kernel
theorem dX5_init_33 : decode cX5_init 33 = .ok (.aload_n 0, 1) := by decide +kernel
theorem dX5_init_34 : decode cX5_init 34 = .ok (.sipush 200, 3) := by decide +kernel
theorem dX5_init_37 : decode cX5_init 37 = .ok (.newarray .int, 2) := by decide +kernel
theorem dX5_init_39 : decode cX5_init 39 = .ok (.putfield 23, 3) := by decide +kernel
theorem dX5_init_42 : decode cX5_init 42 = .ok (.aload_n 0, 1) := by decide +kernel
theorem dX5_init_43 : decode cX5_init 43 = .ok (.iconst 0, 1) := by decide +kernel
theorem dX5_init_44 : decode cX5_init 44 = .ok (.putfield 26, 3) := by decide +kernel
theorem dX5_init_47 : decode cX5_init 47 = .ok (.return_, 1) := by decide +kernel
theorem dX5_clear_0 : decode cX5_clear 0 = .ok (.aload_n 0, 1) := by decide +kernel
theorem dX5_clear_1 : decode cX5_clear 1 = .ok (.iconst 0, 1) := by decide +kernel
theorem dX5_clear_2 : decode cX5_clear 2 = .ok (.putfield 7, 3) := by decide +kernel
theorem dX5_clear_5 : decode cX5_clear 5 = .ok (.aload_n 0, 1) := by decide +kernel
theorem dX5_clear_6 : decode cX5_clear 6 = .ok (.iconst 0, 1) := by decide +kernel
theorem dX5_clear_7 : decode cX5_clear 7 = .ok (.putfield 26, 3) := by decide +kernel
theorem dX5_clear_10 : decode cX5_clear 10 = .ok (.return_, 1) := by decide +kernel
theorem dX5_addStep_0 : decode cX5_addStep 0 = .ok (.aload_n 0, 1) := by decide +kernel
theorem dX5_addStep_1 : decode cX5_addStep 1 = .ok (.getfield 26, 3) := by decide +kernel
theorem dX5_addStep_4 : decode cX5_addStep 4 = .ok (.sipush 200, 3) := by decide +kernel
theorem dX5_addStep_7 : decode cX5_addStep 7 = .ok (.if_icmp .ge 23, 3) := by decide +kernel
theorem dX5_addStep_10 : decode cX5_addStep 10 = .ok (.aload_n 0, 1) := by decide +kernel
theorem dX5_addStep_11 : decode cX5_addStep 11 = .ok (.getfield 23, 3) := by decide +kernel
theorem dX5_addStep_14 : decode cX5_addStep 14 = .ok (.aload_n 0, 1) := by decide +kernel
theorem dX5_addStep_15 : decode cX5_addStep 15 = .ok (.getfield 26, 3) := by decide +kernel
theorem dX5_addStep_18 : decode cX5_addStep 18 = .ok (.iload_n 1, 1) := by decide +kernel
theorem dX5_addStep_19 : decode cX5_addStep 19 = .ok (.iastore, 1) := by decide +kernel
theorem dX5_addStep_20 : decode cX5_addStep 20 = .ok (.aload_n 0, 1) := by decide +kernel
theorem dX5_addStep_21 : decode cX5_addStep 21 = .ok (.dup, 1) := by decide +kernel
theorem dX5_addStep_22 : decode cX5_addStep 22 = .ok (.getfield 26, 3) := by decide +kernel
theorem dX5_addStep_25 : decode cX5_addStep 25 = .ok (.iconst 1, 1) := by decide +kernel
theorem dX5_addStep_26 : decode cX5_addStep 26 = .ok (.iadd, 1) := by decide +kernel
theorem dX5_addStep_27 : decode cX5_addStep 27 = .ok (.putfield 26, 3) := by decide +kernel
theorem dX5_addStep_30 : decode cX5_addStep 30 = .ok (.return_, 1) := by decide +kernel
theorem dX5_comparison_0 : decode cX5_comparison 0 = .ok (.iload_n 1, 1) := by decide +kernel
theorem dX5_comparison_1 : decode cX5_comparison 1 = .ok (.bipush 20, 2) := by decide +kernel
theorem dX5_comparison_3 : decode cX5_comparison 3 = .ok (.ishl, 1) := by decide +kernel
theorem dX5_comparison_4 : decode cX5_comparison 4 = .ok (.iload_n 0, 1) := by decide +kernel
theorem dX5_comparison_5 : decode cX5_comparison 5 = .ok (.bipush 10, 2) := by decide +kernel
theorem dX5_comparison_7 : decode cX5_comparison 7 = .ok (.ishl, 1) := by decide +kernel
theorem dX5_comparison_8 : decode cX5_comparison 8 = .ok (.ior, 1) := by decide +kernel
theorem dX5_comparison_9 : decode cX5_comparison 9 = .ok (.iload_n 2, 1) := by decide +kernel
theorem dX5_comparison_10 : decode cX5_comparison 10 = .ok (.ior, 1) := by decide +kernel
theorem dX5_comparison_11 : decode cX5_comparison 11 = .ok (.ireturn, 1) := by decide +kernel
theorem dX5_endLine_0 : decode cX5_endLine 0 = .ok (.aload_n 0, 1) := by decide +kernel
theorem dX5_endLine_1 : decode cX5_endLine 1 = .ok (.getfield 7, 3) := by decide +kernel
theorem dX5_endLine_4 : decode cX5_endLine 4 = .ok (.bipush 8, 2) := by decide +kernel
theorem dX5_endLine_6 : decode cX5_endLine 6 = .ok (.if_icmp .ge 46, 3) := by decide +kernel
theorem dX5_endLine_9 : decode cX5_endLine 9 = .ok (.aload_n 0, 1) := by decide +kernel
theorem dX5_endLine_10 : decode cX5_endLine 10 = .ok (.getfield 13, 3) := by decide +kernel
theorem dX5_endLine_13 : decode cX5_endLine 13 = .ok (.aload_n 0, 1) := by decide +kernel
theorem dX5_endLine_14 : decode cX5_endLine 14 = .ok (.getfield 7, 3) := by decide +kernel
theorem dX5_endLine_17 : decode cX5_endLine 17 = .ok (.iload_n 1, 1) := by decide +kernel
theorem dX5_endLine_18 : decode cX5_endLine 18 = .ok (.iastore, 1) := by decide +kernel
theorem dX5_endLine_19 : decode cX5_endLine 19 = .ok (.aload_n 0, 1) := by decide +kernel
theorem dX5_endLine_20 : decode cX5_endLine 20 = .ok (.getfield 17, 3) := by decide +kernel
theorem dX5_endLine_23 : decode cX5_endLine 23 = .ok (.aload_n 0, 1) := by decide +kernel
theorem dX5_endLine_24 : decode cX5_endLine 24 = .ok (.getfield 7, 3) := by decide +kernel
theorem dX5_endLine_27 : decode cX5_endLine 27 = .ok (.iload_n 2, 1) := by decide +kernel
theorem dX5_endLine_28 : decode cX5_endLine 28 = .ok (.iastore, 1) := by decide +kernel
theorem dX5_endLine_29 : decode cX5_endLine 29 = .ok (.aload_n 0, 1) := by decide +kernel
theorem dX5_endLine_30 : decode cX5_endLine 30 = .ok (.getfield 20, 3) := by decide +kernel
theorem dX5_endLine_33 : decode cX5_endLine 33 = .ok (.aload_n 0, 1) := by decide +kernel
theorem dX5_endLine_34 : decode cX5_endLine 34 = .ok (.getfield 7, 3) := by decide +kernel
theorem dX5_endLine_37 : decode cX5_endLine 37 = .ok (.aload_n 0, 1) := by decide +kernel
theorem dX5_endLine_38 : decode cX5_endLine 38 = .ok (.getfield 26, 3) := by decide +kernel
theorem dX5_endLine_41 : decode cX5_endLine 41 = .ok (.iastore, 1) := by decide +kernel
theorem dX5_endLine_42 : decode cX5_endLine 42 = .ok (.aload_n 0, 1) := by decide +kernel
theorem dX5_endLine_43 : decode cX5_endLine 43 = .ok (.dup, 1) := by decide +kernel
theorem dX5_endLine_44 : decode cX5_endLine 44 = .ok (.getfield 7, 3) := by decide +kernel
theorem dX5_endLine_47 : decode cX5_endLine 47 = .ok (.iconst 1, 1) := by decide +kernel
theorem dX5_endLine_48 : decode cX5_endLine 48 = .ok (.iadd, 1) := by decide +kernel
theorem dX5_endLine_49 : decode cX5_endLine 49 = .ok (.putfield 7, 3) := by decide +kernel
theorem dX5_endLine_52 : decode cX5_endLine 52 = .ok (.return_, 1) := by decide +kernel
theorem dX5_toldFor_0 : decode cX5_toldFor 0 = .ok (.iconst 0, 1) := by decide +kernel
theorem dX5_toldFor_1 : decode cX5_toldFor 1 = .ok (.istore 5, 2) := by decide +kernel
theorem dX5_toldFor_3 : decode cX5_toldFor 3 = .ok (.iconst 0, 1) := by decide +kernel
theorem dX5_toldFor_4 : decode cX5_toldFor 4 = .ok (.istore 6, 2) := by decide +kernel
theorem dX5_toldFor_6 : decode cX5_toldFor 6 = .ok (.iconst 0, 1) := by decide +kernel
theorem dX5_toldFor_7 : decode cX5_toldFor 7 = .ok (.istore 7, 2) := by decide +kernel
theorem dX5_toldFor_9 : decode cX5_toldFor 9 = .ok (.iload 7, 2) := by decide +kernel
theorem dX5_toldFor_11 : decode cX5_toldFor 11 = .ok (.aload_n 0, 1) := by decide +kernel
theorem dX5_toldFor_12 : decode cX5_toldFor 12 = .ok (.getfield 7, 3) := by decide +kernel
theorem dX5_toldFor_15 : decode cX5_toldFor 15 = .ok (.if_icmp .ge 58, 3) := by decide +kernel
theorem dX5_toldFor_18 : decode cX5_toldFor 18 = .ok (.aload_n 0, 1) := by decide +kernel
theorem dX5_toldFor_19 : decode cX5_toldFor 19 = .ok (.getfield 13, 3) := by decide +kernel
theorem dX5_toldFor_22 : decode cX5_toldFor 22 = .ok (.iload 7, 2) := by decide +kernel
theorem dX5_toldFor_24 : decode cX5_toldFor 24 = .ok (.iaload, 1) := by decide +kernel
theorem dX5_toldFor_25 : decode cX5_toldFor 25 = .ok (.iload_n 1, 1) := by decide +kernel
theorem dX5_toldFor_26 : decode cX5_toldFor 26 = .ok (.if_icmp .ne 32, 3) := by decide +kernel
theorem dX5_toldFor_29 : decode cX5_toldFor 29 = .ok (.aload_n 0, 1) := by decide +kernel
theorem dX5_toldFor_30 : decode cX5_toldFor 30 = .ok (.iload 6, 2) := by decide +kernel
theorem dX5_toldFor_32 : decode cX5_toldFor 32 = .ok (.aload_n 0, 1) := by decide +kernel
theorem dX5_toldFor_33 : decode cX5_toldFor 33 = .ok (.getfield 20, 3) := by decide +kernel
theorem dX5_toldFor_36 : decode cX5_toldFor 36 = .ok (.iload 7, 2) := by decide +kernel
theorem dX5_toldFor_38 : decode cX5_toldFor 38 = .ok (.iaload, 1) := by decide +kernel
theorem dX5_toldFor_39 : decode cX5_toldFor 39 = .ok (.iload_n 2, 1) := by decide +kernel
theorem dX5_toldFor_40 : decode cX5_toldFor 40 = .ok (.iload_n 3, 1) := by decide +kernel
theorem dX5_toldFor_41 : decode cX5_toldFor 41 = .ok (.iload 4, 2) := by decide +kernel
theorem dX5_toldFor_43 : decode cX5_toldFor 43 = .ok (.invokevirtual 29, 3) := by decide +kernel
theorem dX5_toldFor_46 : decode cX5_toldFor 46 = .ok (.ifCond .eq 12, 3) := by decide +kernel
theorem dX5_toldFor_49 : decode cX5_toldFor 49 = .ok (.aload_n 0, 1) := by decide +kernel
theorem dX5_toldFor_50 : decode cX5_toldFor 50 = .ok (.getfield 17, 3) := by decide +kernel
theorem dX5_toldFor_53 : decode cX5_toldFor 53 = .ok (.iload 7, 2) := by decide +kernel
theorem dX5_toldFor_55 : decode cX5_toldFor 55 = .ok (.iaload, 1) := by decide +kernel
theorem dX5_toldFor_56 : decode cX5_toldFor 56 = .ok (.istore 5, 2) := by decide +kernel
theorem dX5_toldFor_58 : decode cX5_toldFor 58 = .ok (.aload_n 0, 1) := by decide +kernel
theorem dX5_toldFor_59 : decode cX5_toldFor 59 = .ok (.getfield 20, 3) := by decide +kernel
theorem dX5_toldFor_62 : decode cX5_toldFor 62 = .ok (.iload 7, 2) := by decide +kernel
theorem dX5_toldFor_64 : decode cX5_toldFor 64 = .ok (.iaload, 1) := by decide +kernel
theorem dX5_toldFor_65 : decode cX5_toldFor 65 = .ok (.istore 6, 2) := by decide +kernel
theorem dX5_toldFor_67 : decode cX5_toldFor 67 = .ok (.iinc 7 1, 3) := by decide +kernel
theorem dX5_toldFor_70 : decode cX5_toldFor 70 = .ok (.goto (-61), 3) := by decide +kernel
theorem dX5_toldFor_73 : decode cX5_toldFor 73 = .ok (.iload 5, 2) := by decide +kernel
theorem dX5_toldFor_75 : decode cX5_toldFor 75 = .ok (.ireturn, 1) := by decide +kernel
theorem dX5_holds_0 : decode cX5_holds 0 = .ok (.iconst 1, 1) := by decide +kernel
theorem dX5_holds_1 : decode cX5_holds 1 = .ok (.istore 6, 2) := by decide +kernel
theorem dX5_holds_3 : decode cX5_holds 3 = .ok (.iload_n 1, 1) := by decide +kernel
theorem dX5_holds_4 : decode cX5_holds 4 = .ok (.istore 7, 2) := by decide +kernel
theorem dX5_holds_6 : decode cX5_holds 6 = .ok (.iload 7, 2) := by decide +kernel
theorem dX5_holds_8 : decode cX5_holds 8 = .ok (.iload_n 2, 1) := by decide +kernel
theorem dX5_holds_9 : decode cX5_holds 9 = .ok (.if_icmp .ge 101, 3) := by decide +kernel
theorem dX5_holds_12 : decode cX5_holds 12 = .ok (.aload_n 0, 1) := by decide +kernel
theorem dX5_holds_13 : decode cX5_holds 13 = .ok (.getfield 23, 3) := by decide +kernel
theorem dX5_holds_16 : decode cX5_holds 16 = .ok (.iload 7, 2) := by decide +kernel
theorem dX5_holds_18 : decode cX5_holds 18 = .ok (.iaload, 1) := by decide +kernel
theorem dX5_holds_19 : decode cX5_holds 19 = .ok (.istore 8, 2) := by decide +kernel
theorem dX5_holds_21 : decode cX5_holds 21 = .ok (.iload 8, 2) := by decide +kernel
theorem dX5_holds_23 : decode cX5_holds 23 = .ok (.iconst (-1), 1) := by decide +kernel
theorem dX5_holds_24 : decode cX5_holds 24 = .ok (.if_icmp .ne 12, 3) := by decide +kernel
theorem dX5_holds_27 : decode cX5_holds 27 = .ok (.iload 6, 2) := by decide +kernel
theorem dX5_holds_29 : decode cX5_holds 29 = .ok (.iconst 1, 1) := by decide +kernel
theorem dX5_holds_30 : decode cX5_holds 30 = .ok (.ixor, 1) := by decide +kernel
theorem dX5_holds_31 : decode cX5_holds 31 = .ok (.istore 6, 2) := by decide +kernel
theorem dX5_holds_33 : decode cX5_holds 33 = .ok (.goto 71, 3) := by decide +kernel
theorem dX5_holds_36 : decode cX5_holds 36 = .ok (.iload 8, 2) := by decide +kernel
theorem dX5_holds_38 : decode cX5_holds 38 = .ok (.bipush (-2), 2) := by decide +kernel
theorem dX5_holds_40 : decode cX5_holds 40 = .ok (.if_icmp .ne 18, 3) := by decide +kernel
theorem dX5_holds_43 : decode cX5_holds 43 = .ok (.iload 6, 2) := by decide +kernel
theorem dX5_holds_45 : decode cX5_holds 45 = .ok (.iconst 1, 1) := by decide +kernel
theorem dX5_holds_46 : decode cX5_holds 46 = .ok (.ishr, 1) := by decide +kernel
theorem dX5_holds_47 : decode cX5_holds 47 = .ok (.iload 6, 2) := by decide +kernel
theorem dX5_holds_49 : decode cX5_holds 49 = .ok (.bipush (-2), 2) := by decide +kernel
theorem dX5_holds_51 : decode cX5_holds 51 = .ok (.ior, 1) := by decide +kernel
theorem dX5_holds_52 : decode cX5_holds 52 = .ok (.iand, 1) := by decide +kernel
theorem dX5_holds_53 : decode cX5_holds 53 = .ok (.istore 6, 2) := by decide +kernel
theorem dX5_holds_55 : decode cX5_holds 55 = .ok (.goto 49, 3) := by decide +kernel
theorem dX5_holds_58 : decode cX5_holds 58 = .ok (.iload 8, 2) := by decide +kernel
theorem dX5_holds_60 : decode cX5_holds 60 = .ok (.bipush (-3), 2) := by decide +kernel
theorem dX5_holds_62 : decode cX5_holds 62 = .ok (.if_icmp .ne 17, 3) := by decide +kernel
theorem dX5_holds_65 : decode cX5_holds 65 = .ok (.iload 6, 2) := by decide +kernel
theorem dX5_holds_67 : decode cX5_holds 67 = .ok (.iconst 1, 1) := by decide +kernel
theorem dX5_holds_68 : decode cX5_holds 68 = .ok (.ishr, 1) := by decide +kernel
theorem dX5_holds_69 : decode cX5_holds 69 = .ok (.iload 6, 2) := by decide +kernel
theorem dX5_holds_71 : decode cX5_holds 71 = .ok (.iconst 1, 1) := by decide +kernel
theorem dX5_holds_72 : decode cX5_holds 72 = .ok (.iand, 1) := by decide +kernel
theorem dX5_holds_73 : decode cX5_holds 73 = .ok (.ior, 1) := by decide +kernel
theorem dX5_holds_74 : decode cX5_holds 74 = .ok (.istore 6, 2) := by decide +kernel
theorem dX5_holds_76 : decode cX5_holds 76 = .ok (.goto 28, 3) := by decide +kernel
theorem dX5_holds_79 : decode cX5_holds 79 = .ok (.iload 6, 2) := by decide +kernel
theorem dX5_holds_81 : decode cX5_holds 81 = .ok (.iconst 1, 1) := by decide +kernel
theorem dX5_holds_82 : decode cX5_holds 82 = .ok (.ishl, 1) := by decide +kernel
theorem dX5_holds_83 : decode cX5_holds 83 = .ok (.iload 8, 2) := by decide +kernel
theorem dX5_holds_85 : decode cX5_holds 85 = .ok (.iload_n 3, 1) := by decide +kernel
theorem dX5_holds_86 : decode cX5_holds 86 = .ok (.iload 4, 2) := by decide +kernel
theorem dX5_holds_88 : decode cX5_holds 88 = .ok (.iload 5, 2) := by decide +kernel
theorem dX5_holds_90 : decode cX5_holds 90 = .ok (.invokestatic 33, 3) := by decide +kernel
theorem dX5_holds_93 : decode cX5_holds 93 = .ok (.ifCond .eq 7, 3) := by decide +kernel
theorem dX5_holds_96 : decode cX5_holds 96 = .ok (.iconst 1, 1) := by decide +kernel
theorem dX5_holds_97 : decode cX5_holds 97 = .ok (.goto 4, 3) := by decide +kernel
theorem dX5_holds_100 : decode cX5_holds 100 = .ok (.iconst 0, 1) := by decide +kernel
theorem dX5_holds_101 : decode cX5_holds 101 = .ok (.ior, 1) := by decide +kernel
theorem dX5_holds_102 : decode cX5_holds 102 = .ok (.istore 6, 2) := by decide +kernel
theorem dX5_holds_104 : decode cX5_holds 104 = .ok (.iinc 7 1, 3) := by decide +kernel
theorem dX5_holds_107 : decode cX5_holds 107 = .ok (.goto (-101), 3) := by decide +kernel
theorem dX5_holds_110 : decode cX5_holds 110 = .ok (.iload 6, 2) := by decide +kernel
theorem dX5_holds_112 : decode cX5_holds 112 = .ok (.iconst 1, 1) := by decide +kernel
theorem dX5_holds_113 : decode cX5_holds 113 = .ok (.iand, 1) := by decide +kernel
theorem dX5_holds_114 : decode cX5_holds 114 = .ok (.iconst 1, 1) := by decide +kernel
theorem dX5_holds_115 : decode cX5_holds 115 = .ok (.if_icmp .ne 7, 3) := by decide +kernel
theorem dX5_holds_118 : decode cX5_holds 118 = .ok (.iconst 1, 1) := by decide +kernel
theorem dX5_holds_119 : decode cX5_holds 119 = .ok (.goto 4, 3) := by decide +kernel
theorem dX5_holds_122 : decode cX5_holds 122 = .ok (.iconst 0, 1) := by decide +kernel
theorem dX5_holds_123 : decode cX5_holds 123 = .ok (.ireturn, 1) := by decide +kernel
theorem dX5_compares_0 : decode cX5_compares 0 = .ok (.iload_n 0, 1) := by decide +kernel
theorem dX5_compares_1 : decode cX5_compares 1 = .ok (.bipush 20, 2) := by decide +kernel
theorem dX5_compares_3 : decode cX5_compares 3 = .ok (.ishr, 1) := by decide +kernel
theorem dX5_compares_4 : decode cX5_compares 4 = .ok (.istore 4, 2) := by decide +kernel
theorem dX5_compares_6 : decode cX5_compares 6 = .ok (.iload_n 0, 1) := by decide +kernel
theorem dX5_compares_7 : decode cX5_compares 7 = .ok (.bipush 10, 2) := by decide +kernel
theorem dX5_compares_9 : decode cX5_compares 9 = .ok (.ishr, 1) := by decide +kernel
theorem dX5_compares_10 : decode cX5_compares 10 = .ok (.sipush 1023, 3) := by decide +kernel
theorem dX5_compares_13 : decode cX5_compares 13 = .ok (.iand, 1) := by decide +kernel
theorem dX5_compares_14 : decode cX5_compares 14 = .ok (.iload_n 1, 1) := by decide +kernel
theorem dX5_compares_15 : decode cX5_compares 15 = .ok (.iload_n 2, 1) := by decide +kernel
theorem dX5_compares_16 : decode cX5_compares 16 = .ok (.iload_n 3, 1) := by decide +kernel
theorem dX5_compares_17 : decode cX5_compares 17 = .ok (.invokestatic 37, 3) := by decide +kernel
theorem dX5_compares_20 : decode cX5_compares 20 = .ok (.istore 5, 2) := by decide +kernel
theorem dX5_compares_22 : decode cX5_compares 22 = .ok (.iload_n 0, 1) := by decide +kernel
theorem dX5_compares_23 : decode cX5_compares 23 = .ok (.sipush 1023, 3) := by decide +kernel
theorem dX5_compares_26 : decode cX5_compares 26 = .ok (.iand, 1) := by decide +kernel
theorem dX5_compares_27 : decode cX5_compares 27 = .ok (.iload_n 1, 1) := by decide +kernel
theorem dX5_compares_28 : decode cX5_compares 28 = .ok (.iload_n 2, 1) := by decide +kernel
theorem dX5_compares_29 : decode cX5_compares 29 = .ok (.iload_n 3, 1) := by decide +kernel
theorem dX5_compares_30 : decode cX5_compares 30 = .ok (.invokestatic 37, 3) := by decide +kernel
theorem dX5_compares_33 : decode cX5_compares 33 = .ok (.istore 6, 2) := by decide +kernel
theorem dX5_compares_35 : decode cX5_compares 35 = .ok (.iload 4, 2) := by decide +kernel
theorem dX5_compares_37 : decode cX5_compares 37 = .ok (.ifCond .ne 16, 3) := by decide +kernel
theorem dX5_compares_40 : decode cX5_compares 40 = .ok (.iload 5, 2) := by decide +kernel
theorem dX5_compares_42 : decode cX5_compares 42 = .ok (.iload 6, 2) := by decide +kernel
theorem dX5_compares_44 : decode cX5_compares 44 = .ok (.if_icmp .ge 7, 3) := by decide +kernel
theorem dX5_compares_47 : decode cX5_compares 47 = .ok (.iconst 1, 1) := by decide +kernel
theorem dX5_compares_48 : decode cX5_compares 48 = .ok (.goto 4, 3) := by decide +kernel
theorem dX5_compares_51 : decode cX5_compares 51 = .ok (.iconst 0, 1) := by decide +kernel
theorem dX5_compares_52 : decode cX5_compares 52 = .ok (.ireturn, 1) := by decide +kernel
theorem dX5_compares_53 : decode cX5_compares 53 = .ok (.iload 4, 2) := by decide +kernel
theorem dX5_compares_55 : decode cX5_compares 55 = .ok (.iconst 1, 1) := by decide +kernel
theorem dX5_compares_56 : decode cX5_compares 56 = .ok (.if_icmp .ne 18, 3) := by decide +kernel
theorem dX5_compares_59 : decode cX5_compares 59 = .ok (.iload 5, 2) := by decide +kernel
theorem dX5_compares_61 : decode cX5_compares 61 = .ok (.iload 6, 2) := by decide +kernel
theorem dX5_compares_63 : decode cX5_compares 63 = .ok (.if_icmp .ne 7, 3) := by decide +kernel
theorem dX5_compares_66 : decode cX5_compares 66 = .ok (.iconst 1, 1) := by decide +kernel
theorem dX5_compares_67 : decode cX5_compares 67 = .ok (.goto 19, 3) := by decide +kernel
theorem dX5_compares_70 : decode cX5_compares 70 = .ok (.iconst 0, 1) := by decide +kernel
theorem dX5_compares_71 : decode cX5_compares 71 = .ok (.goto 15, 3) := by decide +kernel
theorem dX5_compares_74 : decode cX5_compares 74 = .ok (.iload 5, 2) := by decide +kernel
theorem dX5_compares_76 : decode cX5_compares 76 = .ok (.iload 6, 2) := by decide +kernel
theorem dX5_compares_78 : decode cX5_compares 78 = .ok (.if_icmp .le 7, 3) := by decide +kernel
theorem dX5_compares_81 : decode cX5_compares 81 = .ok (.iconst 1, 1) := by decide +kernel
theorem dX5_compares_82 : decode cX5_compares 82 = .ok (.goto 4, 3) := by decide +kernel
theorem dX5_compares_85 : decode cX5_compares 85 = .ok (.iconst 0, 1) := by decide +kernel
theorem dX5_compares_86 : decode cX5_compares 86 = .ok (.ireturn, 1) := by decide +kernel
theorem dX5_valueOf_0 : decode cX5_valueOf 0 = .ok (.iload_n 0, 1) := by decide +kernel
theorem dX5_valueOf_1 : decode cX5_valueOf 1 = .ok (.tableswitch 33 1000 1002 #[27, 29, 31], 27) := by decide +kernel
theorem dX5_valueOf_28 : decode cX5_valueOf 28 = .ok (.iload_n 1, 1) := by decide +kernel
theorem dX5_valueOf_29 : decode cX5_valueOf 29 = .ok (.ireturn, 1) := by decide +kernel
theorem dX5_valueOf_30 : decode cX5_valueOf 30 = .ok (.iload_n 2, 1) := by decide +kernel
theorem dX5_valueOf_31 : decode cX5_valueOf 31 = .ok (.ireturn, 1) := by decide +kernel
theorem dX5_valueOf_32 : decode cX5_valueOf 32 = .ok (.iload_n 3, 1) := by decide +kernel
theorem dX5_valueOf_33 : decode cX5_valueOf 33 = .ok (.ireturn, 1) := by decide +kernel
theorem dX5_valueOf_34 : decode cX5_valueOf 34 = .ok (.iload_n 0, 1) := by decide +kernel
theorem dX5_valueOf_35 : decode cX5_valueOf 35 = .ok (.ireturn, 1) := by decide +kernel
theorem dX5_copyFrom_0 : decode cX5_copyFrom 0 = .ok (.aload_n 0, 1) := by decide +kernel
theorem dX5_copyFrom_1 : decode cX5_copyFrom 1 = .ok (.aload_n 1, 1) := by decide +kernel
theorem dX5_copyFrom_2 : decode cX5_copyFrom 2 = .ok (.getfield 7, 3) := by decide +kernel
theorem dX5_copyFrom_5 : decode cX5_copyFrom 5 = .ok (.putfield 7, 3) := by decide +kernel
theorem dX5_copyFrom_8 : decode cX5_copyFrom 8 = .ok (.aload_n 0, 1) := by decide +kernel
theorem dX5_copyFrom_9 : decode cX5_copyFrom 9 = .ok (.aload_n 1, 1) := by decide +kernel
theorem dX5_copyFrom_10 : decode cX5_copyFrom 10 = .ok (.getfield 26, 3) := by decide +kernel
theorem dX5_copyFrom_13 : decode cX5_copyFrom 13 = .ok (.putfield 26, 3) := by decide +kernel
theorem dX5_copyFrom_16 : decode cX5_copyFrom 16 = .ok (.aload_n 1, 1) := by decide +kernel
theorem dX5_copyFrom_17 : decode cX5_copyFrom 17 = .ok (.getfield 13, 3) := by decide +kernel
theorem dX5_copyFrom_20 : decode cX5_copyFrom 20 = .ok (.iconst 0, 1) := by decide +kernel
theorem dX5_copyFrom_21 : decode cX5_copyFrom 21 = .ok (.aload_n 0, 1) := by decide +kernel
theorem dX5_copyFrom_22 : decode cX5_copyFrom 22 = .ok (.getfield 13, 3) := by decide +kernel
theorem dX5_copyFrom_25 : decode cX5_copyFrom 25 = .ok (.iconst 0, 1) := by decide +kernel
theorem dX5_copyFrom_26 : decode cX5_copyFrom 26 = .ok (.bipush 8, 2) := by decide +kernel
theorem dX5_copyFrom_28 : decode cX5_copyFrom 28 = .ok (.invokestatic 41, 3) := by decide +kernel
theorem dX5_copyFrom_31 : decode cX5_copyFrom 31 = .ok (.aload_n 1, 1) := by decide +kernel
theorem dX5_copyFrom_32 : decode cX5_copyFrom 32 = .ok (.getfield 17, 3) := by decide +kernel
theorem dX5_copyFrom_35 : decode cX5_copyFrom 35 = .ok (.iconst 0, 1) := by decide +kernel
theorem dX5_copyFrom_36 : decode cX5_copyFrom 36 = .ok (.aload_n 0, 1) := by decide +kernel
theorem dX5_copyFrom_37 : decode cX5_copyFrom 37 = .ok (.getfield 17, 3) := by decide +kernel
theorem dX5_copyFrom_40 : decode cX5_copyFrom 40 = .ok (.iconst 0, 1) := by decide +kernel
theorem dX5_copyFrom_41 : decode cX5_copyFrom 41 = .ok (.bipush 8, 2) := by decide +kernel
theorem dX5_copyFrom_43 : decode cX5_copyFrom 43 = .ok (.invokestatic 41, 3) := by decide +kernel
theorem dX5_copyFrom_46 : decode cX5_copyFrom 46 = .ok (.aload_n 1, 1) := by decide +kernel
theorem dX5_copyFrom_47 : decode cX5_copyFrom 47 = .ok (.getfield 20, 3) := by decide +kernel
theorem dX5_copyFrom_50 : decode cX5_copyFrom 50 = .ok (.iconst 0, 1) := by decide +kernel
theorem dX5_copyFrom_51 : decode cX5_copyFrom 51 = .ok (.aload_n 0, 1) := by decide +kernel
theorem dX5_copyFrom_52 : decode cX5_copyFrom 52 = .ok (.getfield 20, 3) := by decide +kernel
theorem dX5_copyFrom_55 : decode cX5_copyFrom 55 = .ok (.iconst 0, 1) := by decide +kernel
theorem dX5_copyFrom_56 : decode cX5_copyFrom 56 = .ok (.bipush 8, 2) := by decide +kernel
theorem dX5_copyFrom_58 : decode cX5_copyFrom 58 = .ok (.invokestatic 41, 3) := by decide +kernel
theorem dX5_copyFrom_61 : decode cX5_copyFrom 61 = .ok (.aload_n 1, 1) := by decide +kernel
theorem dX5_copyFrom_62 : decode cX5_copyFrom 62 = .ok (.getfield 23, 3) := by decide +kernel
theorem dX5_copyFrom_65 : decode cX5_copyFrom 65 = .ok (.iconst 0, 1) := by decide +kernel
theorem dX5_copyFrom_66 : decode cX5_copyFrom 66 = .ok (.aload_n 0, 1) := by decide +kernel
theorem dX5_copyFrom_67 : decode cX5_copyFrom 67 = .ok (.getfield 23, 3) := by decide +kernel
theorem dX5_copyFrom_70 : decode cX5_copyFrom 70 = .ok (.iconst 0, 1) := by decide +kernel
theorem dX5_copyFrom_71 : decode cX5_copyFrom 71 = .ok (.sipush 200, 3) := by decide +kernel
theorem dX5_copyFrom_74 : decode cX5_copyFrom 74 = .ok (.invokestatic 41, 3) := by decide +kernel
theorem dX5_copyFrom_77 : decode cX5_copyFrom 77 = .ok (.return_, 1) := by decide +kernel
theorem dX6_init_0 : decode cX6_init 0 = .ok (.aload_n 0, 1) := by decide +kernel
theorem dX6_init_1 : decode cX6_init 1 = .ok (.invokespecial 3, 3) := by decide +kernel
theorem dX6_init_4 : decode cX6_init 4 = .ok (.aload_n 0, 1) := by decide +kernel
theorem dX6_init_5 : decode cX6_init 5 = .ok (.iconst 0, 1) := by decide +kernel
theorem dX6_init_6 : decode cX6_init 6 = .ok (.putfield 9, 3) := by decide +kernel
theorem dX6_init_9 : decode cX6_init 9 = .ok (.aload_n 0, 1) := by decide +kernel
theorem dX6_init_10 : decode cX6_init 10 = .ok (.new 15, 3) := by decide +kernel
theorem dX6_init_13 : decode cX6_init 13 = .ok (.dup, 1) := by decide +kernel
theorem dX6_init_14 : decode cX6_init 14 = .ok (.invokespecial 17, 3) := by decide +kernel
theorem dX6_init_17 : decode cX6_init 17 = .ok (.putfield 18, 3) := by decide +kernel
theorem dX6_init_20 : decode cX6_init 20 = .ok (.aload_n 0, 1) := by decide +kernel
theorem dX6_init_21 : decode cX6_init 21 = .ok (.sipush 200, 3) := by decide +kernel
theorem dX6_init_24 : decode cX6_init 24 = .ok (.newarray .int, 2) := by decide +kernel
theorem dX6_init_26 : decode cX6_init 26 = .ok (.putfield 22, 3) := by decide +kernel
theorem dX6_init_29 : decode cX6_init 29 = .ok (.aload_n 0, 1) := by decide +kernel
theorem dX6_init_30 : decode cX6_init 30 = .ok (.sipush 201, 3) := by decide +kernel
theorem dX6_init_33 : decode cX6_init 33 = .ok (.newarray .int, 2) := by decide +kernel
theorem dX6_init_35 : decode cX6_init 35 = .ok (.putfield 26, 3) := by decide +kernel
theorem dX6_init_38 : decode cX6_init 38 = .ok (.aload_n 0, 1) := by decide +kernel
theorem dX6_init_39 : decode cX6_init 39 = .ok (.sipush 201, 3) := by decide +kernel
theorem dX6_init_42 : decode cX6_init 42 = .ok (.newarray .int, 2) := by decide +kernel
theorem dX6_init_44 : decode cX6_init 44 = .ok (.putfield 29, 3) := by decide +kernel
theorem dX6_init_47 : decode cX6_init 47 = .ok (.aload_n 0, 1) := by decide +kernel
theorem dX6_init_48 : decode cX6_init 48 = .ok (.sipush 201, 3) := by decide +kernel
theorem dX6_init_51 : decode cX6_init 51 = .ok (.newarray .int, 2) := by decide +kernel
theorem dX6_init_53 : decode cX6_init 53 = .ok (.putfield 32, 3) := by decide +kernel
theorem dX6_init_56 : decode cX6_init 56 = .ok (.aload_n 0, 1) := by decide +kernel
theorem dX6_init_57 : decode cX6_init 57 = .ok (.iconst 0, 1) := by decide +kernel
theorem dX6_init_58 : decode cX6_init 58 = .ok (.putfield 35, 3) := by decide +kernel
theorem dX6_init_61 : decode cX6_init 61 = .ok (.return_, 1) := by decide +kernel
theorem dX6_takeBytes_0 : decode cX6_takeBytes 0 = .ok (.aload_n 0, 1) := by decide +kernel
theorem dX6_takeBytes_1 : decode cX6_takeBytes 1 = .ok (.getfield 9, 3) := by decide +kernel
theorem dX6_takeBytes_4 : decode cX6_takeBytes 4 = .ok (.iload_n 3, 1) := by decide +kernel
theorem dX6_takeBytes_5 : decode cX6_takeBytes 5 = .ok (.iadd, 1) := by decide +kernel
theorem dX6_takeBytes_6 : decode cX6_takeBytes 6 = .ok (.sipush 200, 3) := by decide +kernel
theorem dX6_takeBytes_9 : decode cX6_takeBytes 9 = .ok (.if_icmp .le 5, 3) := by decide +kernel
theorem dX6_takeBytes_12 : decode cX6_takeBytes 12 = .ok (.iconst 0, 1) := by decide +kernel
theorem dX6_takeBytes_13 : decode cX6_takeBytes 13 = .ok (.ireturn, 1) := by decide +kernel
theorem dX6_takeBytes_14 : decode cX6_takeBytes 14 = .ok (.iconst 0, 1) := by decide +kernel
theorem dX6_takeBytes_15 : decode cX6_takeBytes 15 = .ok (.istore 4, 2) := by decide +kernel
theorem dX6_takeBytes_17 : decode cX6_takeBytes 17 = .ok (.iload 4, 2) := by decide +kernel
theorem dX6_takeBytes_19 : decode cX6_takeBytes 19 = .ok (.iload_n 3, 1) := by decide +kernel
theorem dX6_takeBytes_20 : decode cX6_takeBytes 20 = .ok (.if_icmp .ge 40, 3) := by decide +kernel
theorem dX6_takeBytes_23 : decode cX6_takeBytes 23 = .ok (.aload_n 0, 1) := by decide +kernel
theorem dX6_takeBytes_24 : decode cX6_takeBytes 24 = .ok (.getfield 22, 3) := by decide +kernel
theorem dX6_takeBytes_27 : decode cX6_takeBytes 27 = .ok (.aload_n 0, 1) := by decide +kernel
theorem dX6_takeBytes_28 : decode cX6_takeBytes 28 = .ok (.getfield 9, 3) := by decide +kernel
theorem dX6_takeBytes_31 : decode cX6_takeBytes 31 = .ok (.lload_n 1, 1) := by decide +kernel
theorem dX6_takeBytes_32 : decode cX6_takeBytes 32 = .ok (.bipush 8, 2) := by decide +kernel
theorem dX6_takeBytes_34 : decode cX6_takeBytes 34 = .ok (.iload 4, 2) := by decide +kernel
theorem dX6_takeBytes_36 : decode cX6_takeBytes 36 = .ok (.imul, 1) := by decide +kernel
theorem dX6_takeBytes_37 : decode cX6_takeBytes 37 = .ok (.lshr, 1) := by decide +kernel
theorem dX6_takeBytes_38 : decode cX6_takeBytes 38 = .ok (.l2i, 1) := by decide +kernel
theorem dX6_takeBytes_39 : decode cX6_takeBytes 39 = .ok (.sipush 255, 3) := by decide +kernel
theorem dX6_takeBytes_42 : decode cX6_takeBytes 42 = .ok (.iand, 1) := by decide +kernel
theorem dX6_takeBytes_43 : decode cX6_takeBytes 43 = .ok (.iastore, 1) := by decide +kernel
theorem dX6_takeBytes_44 : decode cX6_takeBytes 44 = .ok (.aload_n 0, 1) := by decide +kernel
theorem dX6_takeBytes_45 : decode cX6_takeBytes 45 = .ok (.dup, 1) := by decide +kernel
theorem dX6_takeBytes_46 : decode cX6_takeBytes 46 = .ok (.getfield 9, 3) := by decide +kernel
theorem dX6_takeBytes_49 : decode cX6_takeBytes 49 = .ok (.iconst 1, 1) := by decide +kernel
theorem dX6_takeBytes_50 : decode cX6_takeBytes 50 = .ok (.iadd, 1) := by decide +kernel
theorem dX6_takeBytes_51 : decode cX6_takeBytes 51 = .ok (.putfield 9, 3) := by decide +kernel
theorem dX6_takeBytes_54 : decode cX6_takeBytes 54 = .ok (.iinc 4 1, 3) := by decide +kernel
theorem dX6_takeBytes_57 : decode cX6_takeBytes 57 = .ok (.goto (-40), 3) := by decide +kernel
theorem dX6_takeBytes_60 : decode cX6_takeBytes 60 = .ok (.iconst 1, 1) := by decide +kernel
theorem dX6_takeBytes_61 : decode cX6_takeBytes 61 = .ok (.ireturn, 1) := by decide +kernel
theorem dX6_readText_0 : decode cX6_readText 0 = .ok (.aload_n 0, 1) := by decide +kernel
theorem dX6_readText_1 : decode cX6_readText 1 = .ok (.invokevirtual 38, 3) := by decide +kernel
theorem dX6_readText_4 : decode cX6_readText 4 = .ok (.aload_n 0, 1) := by decide +kernel
theorem dX6_readText_5 : decode cX6_readText 5 = .ok (.iconst 0, 1) := by decide +kernel
theorem dX6_readText_6 : decode cX6_readText 6 = .ok (.putfield 9, 3) := by decide +kernel
theorem dX6_readText_9 : decode cX6_readText 9 = .ok (.aload_n 0, 1) := by decide +kernel
theorem dX6_readText_10 : decode cX6_readText 10 = .ok (.iconst 0, 1) := by decide +kernel
theorem dX6_readText_11 : decode cX6_readText 11 = .ok (.putfield 35, 3) := by decide +kernel
theorem dX6_readText_14 : decode cX6_readText 14 = .ok (.aload_n 0, 1) := by decide +kernel
theorem dX6_readText_15 : decode cX6_readText 15 = .ok (.getfield 18, 3) := by decide +kernel
theorem dX6_readText_18 : decode cX6_readText 18 = .ok (.invokevirtual 41, 3) := by decide +kernel
theorem dX6_readText_21 : decode cX6_readText 21 = .ok (.iconst 0, 1) := by decide +kernel
theorem dX6_readText_22 : decode cX6_readText 22 = .ok (.istore_n 1, 1) := by decide +kernel
theorem dX6_readText_23 : decode cX6_readText 23 = .ok (.iload_n 1, 1) := by decide +kernel
theorem dX6_readText_24 : decode cX6_readText 24 = .ok (.bipush 8, 2) := by decide +kernel
theorem dX6_readText_26 : decode cX6_readText 26 = .ok (.if_icmp .ge 38, 3) := by decide +kernel
theorem dX6_readText_29 : decode cX6_readText 29 = .ok (.aload_n 0, 1) := by decide +kernel
theorem dX6_readText_30 : decode cX6_readText 30 = .ok (.getfield 26, 3) := by decide +kernel
theorem dX6_readText_33 : decode cX6_readText 33 = .ok (.aload_n 0, 1) := by decide +kernel
theorem dX6_readText_34 : decode cX6_readText 34 = .ok (.getfield 35, 3) := by decide +kernel
theorem dX6_readText_37 : decode cX6_readText 37 = .ok (.iaload, 1) := by decide +kernel
theorem dX6_readText_38 : decode cX6_readText 38 = .ok (.ifCond .eq 26, 3) := by decide +kernel
theorem dX6_readText_41 : decode cX6_readText 41 = .ok (.aload_n 0, 1) := by decide +kernel
theorem dX6_readText_42 : decode cX6_readText 42 = .ok (.invokevirtual 44, 3) := by decide +kernel
theorem dX6_readText_45 : decode cX6_readText 45 = .ok (.ifCond .ne 13, 3) := by decide +kernel
theorem dX6_readText_48 : decode cX6_readText 48 = .ok (.aload_n 0, 1) := by decide +kernel
theorem dX6_readText_49 : decode cX6_readText 49 = .ok (.getfield 32, 3) := by decide +kernel
theorem dX6_readText_52 : decode cX6_readText 52 = .ok (.aload_n 0, 1) := by decide +kernel
theorem dX6_readText_53 : decode cX6_readText 53 = .ok (.getfield 35, 3) := by decide +kernel
theorem dX6_readText_56 : decode cX6_readText 56 = .ok (.iaload, 1) := by decide +kernel
theorem dX6_readText_57 : decode cX6_readText 57 = .ok (.ireturn, 1) := by decide +kernel
theorem dX6_readText_58 : decode cX6_readText 58 = .ok (.iinc 1 1, 3) := by decide +kernel
theorem dX6_readText_61 : decode cX6_readText 61 = .ok (.goto (-38), 3) := by decide +kernel
theorem dX6_readText_64 : decode cX6_readText 64 = .ok (.aload_n 0, 1) := by decide +kernel
theorem dX6_readText_65 : decode cX6_readText 65 = .ok (.getfield 26, 3) := by decide +kernel
theorem dX6_readText_68 : decode cX6_readText 68 = .ok (.aload_n 0, 1) := by decide +kernel
theorem dX6_readText_69 : decode cX6_readText 69 = .ok (.getfield 35, 3) := by decide +kernel
theorem dX6_readText_72 : decode cX6_readText 72 = .ok (.iaload, 1) := by decide +kernel
theorem dX6_readText_73 : decode cX6_readText 73 = .ok (.ifCond .ne 7, 3) := by decide +kernel
theorem dX6_readText_76 : decode cX6_readText 76 = .ok (.iconst (-1), 1) := by decide +kernel
theorem dX6_readText_77 : decode cX6_readText 77 = .ok (.goto 12, 3) := by decide +kernel
theorem dX6_readText_80 : decode cX6_readText 80 = .ok (.aload_n 0, 1) := by decide +kernel
theorem dX6_readText_81 : decode cX6_readText 81 = .ok (.getfield 32, 3) := by decide +kernel
theorem dX6_readText_84 : decode cX6_readText 84 = .ok (.aload_n 0, 1) := by decide +kernel
theorem dX6_readText_85 : decode cX6_readText 85 = .ok (.getfield 35, 3) := by decide +kernel
theorem dX6_readText_88 : decode cX6_readText 88 = .ok (.iaload, 1) := by decide +kernel
theorem dX6_readText_89 : decode cX6_readText 89 = .ok (.ireturn, 1) := by decide +kernel
theorem dX6_split_0 : decode cX6_split 0 = .ok (.iconst 0, 1) := by decide +kernel
theorem dX6_split_1 : decode cX6_split 1 = .ok (.istore_n 1, 1) := by decide +kernel
theorem dX6_split_2 : decode cX6_split 2 = .ok (.iconst 0, 1) := by decide +kernel
theorem dX6_split_3 : decode cX6_split 3 = .ok (.istore_n 2, 1) := by decide +kernel
theorem dX6_split_4 : decode cX6_split 4 = .ok (.iload_n 2, 1) := by decide +kernel
theorem dX6_split_5 : decode cX6_split 5 = .ok (.aload_n 0, 1) := by decide +kernel
theorem dX6_split_6 : decode cX6_split 6 = .ok (.getfield 9, 3) := by decide +kernel
theorem dX6_split_9 : decode cX6_split 9 = .ok (.if_icmp .ge 71, 3) := by decide +kernel
theorem dX6_split_12 : decode cX6_split 12 = .ok (.aload_n 0, 1) := by decide +kernel
theorem dX6_split_13 : decode cX6_split 13 = .ok (.iload_n 2, 1) := by decide +kernel
theorem dX6_split_14 : decode cX6_split 14 = .ok (.invokevirtual 48, 3) := by decide +kernel
theorem dX6_split_17 : decode cX6_split 17 = .ok (.ifCond .eq 57, 3) := by decide +kernel
theorem dX6_split_20 : decode cX6_split 20 = .ok (.aload_n 0, 1) := by decide +kernel
theorem dX6_split_21 : decode cX6_split 21 = .ok (.iload_n 2, 1) := by decide +kernel
theorem dX6_split_22 : decode cX6_split 22 = .ok (.invokevirtual 52, 3) := by decide +kernel
theorem dX6_split_25 : decode cX6_split 25 = .ok (.istore_n 3, 1) := by decide +kernel
theorem dX6_split_26 : decode cX6_split 26 = .ok (.aload_n 0, 1) := by decide +kernel
theorem dX6_split_27 : decode cX6_split 27 = .ok (.getfield 32, 3) := by decide +kernel
theorem dX6_split_30 : decode cX6_split 30 = .ok (.iload_n 1, 1) := by decide +kernel
theorem dX6_split_31 : decode cX6_split 31 = .ok (.iload_n 2, 1) := by decide +kernel
theorem dX6_split_32 : decode cX6_split 32 = .ok (.iastore, 1) := by decide +kernel
theorem dX6_split_33 : decode cX6_split 33 = .ok (.aload_n 0, 1) := by decide +kernel
theorem dX6_split_34 : decode cX6_split 34 = .ok (.getfield 26, 3) := by decide +kernel
theorem dX6_split_37 : decode cX6_split 37 = .ok (.iload_n 1, 1) := by decide +kernel
theorem dX6_split_38 : decode cX6_split 38 = .ok (.aload_n 0, 1) := by decide +kernel
theorem dX6_split_39 : decode cX6_split 39 = .ok (.iload_n 2, 1) := by decide +kernel
theorem dX6_split_40 : decode cX6_split 40 = .ok (.iload_n 3, 1) := by decide +kernel
theorem dX6_split_41 : decode cX6_split 41 = .ok (.invokevirtual 56, 3) := by decide +kernel
theorem dX6_split_44 : decode cX6_split 44 = .ok (.iastore, 1) := by decide +kernel
theorem dX6_split_45 : decode cX6_split 45 = .ok (.aload_n 0, 1) := by decide +kernel
theorem dX6_split_46 : decode cX6_split 46 = .ok (.getfield 29, 3) := by decide +kernel
theorem dX6_split_49 : decode cX6_split 49 = .ok (.iload_n 1, 1) := by decide +kernel
theorem dX6_split_50 : decode cX6_split 50 = .ok (.aload_n 0, 1) := by decide +kernel
theorem dX6_split_51 : decode cX6_split 51 = .ok (.getfield 26, 3) := by decide +kernel
theorem dX6_split_54 : decode cX6_split 54 = .ok (.iload_n 1, 1) := by decide +kernel
theorem dX6_split_55 : decode cX6_split 55 = .ok (.iaload, 1) := by decide +kernel
theorem dX6_split_56 : decode cX6_split 56 = .ok (.iconst 2, 1) := by decide +kernel
theorem dX6_split_57 : decode cX6_split 57 = .ok (.if_icmp .ne 12, 3) := by decide +kernel
theorem dX6_split_60 : decode cX6_split 60 = .ok (.aload_n 0, 1) := by decide +kernel
theorem dX6_split_61 : decode cX6_split 61 = .ok (.iload_n 2, 1) := by decide +kernel
theorem dX6_split_62 : decode cX6_split 62 = .ok (.iload_n 3, 1) := by decide +kernel
theorem dX6_split_63 : decode cX6_split 63 = .ok (.invokevirtual 60, 3) := by decide +kernel
theorem dX6_split_66 : decode cX6_split 66 = .ok (.goto 4, 3) := by decide +kernel
theorem dX6_split_69 : decode cX6_split 69 = .ok (.iconst 0, 1) := by decide +kernel
theorem dX6_split_70 : decode cX6_split 70 = .ok (.iastore, 1) := by decide +kernel
theorem dX6_split_71 : decode cX6_split 71 = .ok (.iinc 1 1, 3) := by decide +kernel
theorem dX6_split_74 : decode cX6_split 74 = .ok (.iinc 2 1, 3) := by decide +kernel
theorem dX6_split_77 : decode cX6_split 77 = .ok (.goto (-73), 3) := by decide +kernel
theorem dX6_split_80 : decode cX6_split 80 = .ok (.aload_n 0, 1) := by decide +kernel
theorem dX6_split_81 : decode cX6_split 81 = .ok (.getfield 32, 3) := by decide +kernel
theorem dX6_split_84 : decode cX6_split 84 = .ok (.iload_n 1, 1) := by decide +kernel
theorem dX6_split_85 : decode cX6_split 85 = .ok (.aload_n 0, 1) := by decide +kernel
theorem dX6_split_86 : decode cX6_split 86 = .ok (.getfield 9, 3) := by decide +kernel
theorem dX6_split_89 : decode cX6_split 89 = .ok (.iastore, 1) := by decide +kernel
theorem dX6_split_90 : decode cX6_split 90 = .ok (.aload_n 0, 1) := by decide +kernel
theorem dX6_split_91 : decode cX6_split 91 = .ok (.getfield 26, 3) := by decide +kernel
theorem dX6_split_94 : decode cX6_split 94 = .ok (.iload_n 1, 1) := by decide +kernel
theorem dX6_split_95 : decode cX6_split 95 = .ok (.iconst 0, 1) := by decide +kernel
theorem dX6_split_96 : decode cX6_split 96 = .ok (.iastore, 1) := by decide +kernel
theorem dX6_split_97 : decode cX6_split 97 = .ok (.return_, 1) := by decide +kernel
theorem dX6_isLetter_0 : decode cX6_isLetter 0 = .ok (.bipush 97, 2) := by decide +kernel
theorem dX6_isLetter_2 : decode cX6_isLetter 2 = .ok (.iload_n 0, 1) := by decide +kernel
theorem dX6_isLetter_3 : decode cX6_isLetter 3 = .ok (.if_icmp .gt 13, 3) := by decide +kernel
theorem dX6_isLetter_6 : decode cX6_isLetter 6 = .ok (.iload_n 0, 1) := by decide +kernel
theorem dX6_isLetter_7 : decode cX6_isLetter 7 = .ok (.bipush 122, 2) := by decide +kernel
theorem dX6_isLetter_9 : decode cX6_isLetter 9 = .ok (.if_icmp .gt 7, 3) := by decide +kernel
theorem dX6_isLetter_12 : decode cX6_isLetter 12 = .ok (.iconst 1, 1) := by decide +kernel
theorem dX6_isLetter_13 : decode cX6_isLetter 13 = .ok (.goto 4, 3) := by decide +kernel
theorem dX6_isLetter_16 : decode cX6_isLetter 16 = .ok (.iconst 0, 1) := by decide +kernel
theorem dX6_isLetter_17 : decode cX6_isLetter 17 = .ok (.ireturn, 1) := by decide +kernel
theorem dX6_isDigit_0 : decode cX6_isDigit 0 = .ok (.bipush 48, 2) := by decide +kernel
theorem dX6_isDigit_2 : decode cX6_isDigit 2 = .ok (.iload_n 0, 1) := by decide +kernel
theorem dX6_isDigit_3 : decode cX6_isDigit 3 = .ok (.if_icmp .gt 13, 3) := by decide +kernel
theorem dX6_isDigit_6 : decode cX6_isDigit 6 = .ok (.iload_n 0, 1) := by decide +kernel
theorem dX6_isDigit_7 : decode cX6_isDigit 7 = .ok (.bipush 57, 2) := by decide +kernel
theorem dX6_isDigit_9 : decode cX6_isDigit 9 = .ok (.if_icmp .gt 7, 3) := by decide +kernel
theorem dX6_isDigit_12 : decode cX6_isDigit 12 = .ok (.iconst 1, 1) := by decide +kernel
theorem dX6_isDigit_13 : decode cX6_isDigit 13 = .ok (.goto 4, 3) := by decide +kernel
theorem dX6_isDigit_16 : decode cX6_isDigit 16 = .ok (.iconst 0, 1) := by decide +kernel
theorem dX6_isDigit_17 : decode cX6_isDigit 17 = .ok (.ireturn, 1) := by decide +kernel
theorem dX6_belongTogether_0 : decode cX6_belongTogether 0 = .ok (.iload_n 0, 1) := by decide +kernel
theorem dX6_belongTogether_1 : decode cX6_belongTogether 1 = .ok (.invokestatic 63, 3) := by decide +kernel
theorem dX6_belongTogether_4 : decode cX6_belongTogether 4 = .ok (.ifCond .eq 10, 3) := by decide +kernel
theorem dX6_belongTogether_7 : decode cX6_belongTogether 7 = .ok (.iload_n 1, 1) := by decide +kernel
theorem dX6_belongTogether_8 : decode cX6_belongTogether 8 = .ok (.invokestatic 63, 3) := by decide +kernel
theorem dX6_belongTogether_11 : decode cX6_belongTogether 11 = .ok (.ifCond .ne 17, 3) := by decide +kernel
theorem dX6_belongTogether_14 : decode cX6_belongTogether 14 = .ok (.iload_n 0, 1) := by decide +kernel
theorem dX6_belongTogether_15 : decode cX6_belongTogether 15 = .ok (.invokestatic 66, 3) := by decide +kernel
theorem dX6_belongTogether_18 : decode cX6_belongTogether 18 = .ok (.ifCond .eq 14, 3) := by decide +kernel
theorem dX6_belongTogether_21 : decode cX6_belongTogether 21 = .ok (.iload_n 1, 1) := by decide +kernel
theorem dX6_belongTogether_22 : decode cX6_belongTogether 22 = .ok (.invokestatic 66, 3) := by decide +kernel
theorem dX6_belongTogether_25 : decode cX6_belongTogether 25 = .ok (.ifCond .eq 7, 3) := by decide +kernel
theorem dX6_belongTogether_28 : decode cX6_belongTogether 28 = .ok (.iconst 1, 1) := by decide +kernel
theorem dX6_belongTogether_29 : decode cX6_belongTogether 29 = .ok (.goto 4, 3) := by decide +kernel
theorem dX6_belongTogether_32 : decode cX6_belongTogether 32 = .ok (.iconst 0, 1) := by decide +kernel
theorem dX6_belongTogether_33 : decode cX6_belongTogether 33 = .ok (.ireturn, 1) := by decide +kernel
theorem dX6_beginsPart_0 : decode cX6_beginsPart 0 = .ok (.aload_n 0, 1) := by decide +kernel
theorem dX6_beginsPart_1 : decode cX6_beginsPart 1 = .ok (.getfield 22, 3) := by decide +kernel
theorem dX6_beginsPart_4 : decode cX6_beginsPart 4 = .ok (.iload_n 1, 1) := by decide +kernel
theorem dX6_beginsPart_5 : decode cX6_beginsPart 5 = .ok (.iaload, 1) := by decide +kernel
theorem dX6_beginsPart_6 : decode cX6_beginsPart 6 = .ok (.bipush 32, 2) := by decide +kernel
theorem dX6_beginsPart_8 : decode cX6_beginsPart 8 = .ok (.if_icmp .eq 31, 3) := by decide +kernel
theorem dX6_beginsPart_11 : decode cX6_beginsPart 11 = .ok (.iload_n 1, 1) := by decide +kernel
theorem dX6_beginsPart_12 : decode cX6_beginsPart 12 = .ok (.ifCond .eq 23, 3) := by decide +kernel
theorem dX6_beginsPart_15 : decode cX6_beginsPart 15 = .ok (.aload_n 0, 1) := by decide +kernel
theorem dX6_beginsPart_16 : decode cX6_beginsPart 16 = .ok (.getfield 22, 3) := by decide +kernel
theorem dX6_beginsPart_19 : decode cX6_beginsPart 19 = .ok (.iload_n 1, 1) := by decide +kernel
theorem dX6_beginsPart_20 : decode cX6_beginsPart 20 = .ok (.iconst 1, 1) := by decide +kernel
theorem dX6_beginsPart_21 : decode cX6_beginsPart 21 = .ok (.isub, 1) := by decide +kernel
theorem dX6_beginsPart_22 : decode cX6_beginsPart 22 = .ok (.iaload, 1) := by decide +kernel
theorem dX6_beginsPart_23 : decode cX6_beginsPart 23 = .ok (.aload_n 0, 1) := by decide +kernel
theorem dX6_beginsPart_24 : decode cX6_beginsPart 24 = .ok (.getfield 22, 3) := by decide +kernel
theorem dX6_beginsPart_27 : decode cX6_beginsPart 27 = .ok (.iload_n 1, 1) := by decide +kernel
theorem dX6_beginsPart_28 : decode cX6_beginsPart 28 = .ok (.iaload, 1) := by decide +kernel
theorem dX6_beginsPart_29 : decode cX6_beginsPart 29 = .ok (.invokestatic 69, 3) := by decide +kernel
theorem dX6_beginsPart_32 : decode cX6_beginsPart 32 = .ok (.ifCond .ne 7, 3) := by decide +kernel
theorem dX6_beginsPart_35 : decode cX6_beginsPart 35 = .ok (.iconst 1, 1) := by decide +kernel
theorem dX6_beginsPart_36 : decode cX6_beginsPart 36 = .ok (.goto 4, 3) := by decide +kernel
theorem dX6_beginsPart_39 : decode cX6_beginsPart 39 = .ok (.iconst 0, 1) := by decide +kernel
theorem dX6_beginsPart_40 : decode cX6_beginsPart 40 = .ok (.ireturn, 1) := by decide +kernel
theorem dX6_endOfPart_0 : decode cX6_endOfPart 0 = .ok (.iload_n 1, 1) := by decide +kernel
theorem dX6_endOfPart_1 : decode cX6_endOfPart 1 = .ok (.iconst 1, 1) := by decide +kernel
theorem dX6_endOfPart_2 : decode cX6_endOfPart 2 = .ok (.iadd, 1) := by decide +kernel
theorem dX6_endOfPart_3 : decode cX6_endOfPart 3 = .ok (.istore_n 2, 1) := by decide +kernel
theorem dX6_endOfPart_4 : decode cX6_endOfPart 4 = .ok (.iload_n 2, 1) := by decide +kernel
theorem dX6_endOfPart_5 : decode cX6_endOfPart 5 = .ok (.aload_n 0, 1) := by decide +kernel
theorem dX6_endOfPart_6 : decode cX6_endOfPart 6 = .ok (.getfield 9, 3) := by decide +kernel
theorem dX6_endOfPart_9 : decode cX6_endOfPart 9 = .ok (.if_icmp .ge 27, 3) := by decide +kernel
theorem dX6_endOfPart_12 : decode cX6_endOfPart 12 = .ok (.aload_n 0, 1) := by decide +kernel
theorem dX6_endOfPart_13 : decode cX6_endOfPart 13 = .ok (.getfield 22, 3) := by decide +kernel
theorem dX6_endOfPart_16 : decode cX6_endOfPart 16 = .ok (.iload_n 1, 1) := by decide +kernel
theorem dX6_endOfPart_17 : decode cX6_endOfPart 17 = .ok (.iaload, 1) := by decide +kernel
theorem dX6_endOfPart_18 : decode cX6_endOfPart 18 = .ok (.aload_n 0, 1) := by decide +kernel
theorem dX6_endOfPart_19 : decode cX6_endOfPart 19 = .ok (.getfield 22, 3) := by decide +kernel
theorem dX6_endOfPart_22 : decode cX6_endOfPart 22 = .ok (.iload_n 2, 1) := by decide +kernel
theorem dX6_endOfPart_23 : decode cX6_endOfPart 23 = .ok (.iaload, 1) := by decide +kernel
theorem dX6_endOfPart_24 : decode cX6_endOfPart 24 = .ok (.invokestatic 69, 3) := by decide +kernel
theorem dX6_endOfPart_27 : decode cX6_endOfPart 27 = .ok (.ifCond .eq 9, 3) := by decide +kernel
theorem dX6_endOfPart_30 : decode cX6_endOfPart 30 = .ok (.iinc 2 1, 3) := by decide +kernel
theorem dX6_endOfPart_33 : decode cX6_endOfPart 33 = .ok (.goto (-29), 3) := by decide +kernel
theorem dX6_endOfPart_36 : decode cX6_endOfPart 36 = .ok (.iload_n 2, 1) := by decide +kernel
theorem dX6_endOfPart_37 : decode cX6_endOfPart 37 = .ok (.ireturn, 1) := by decide +kernel
theorem dX6_kindOfPart_0 : decode cX6_kindOfPart 0 = .ok (.aload_n 0, 1) := by decide +kernel
theorem dX6_kindOfPart_1 : decode cX6_kindOfPart 1 = .ok (.getfield 22, 3) := by decide +kernel
theorem dX6_kindOfPart_4 : decode cX6_kindOfPart 4 = .ok (.iload_n 1, 1) := by decide +kernel
theorem dX6_kindOfPart_5 : decode cX6_kindOfPart 5 = .ok (.iaload, 1) := by decide +kernel
theorem dX6_kindOfPart_6 : decode cX6_kindOfPart 6 = .ok (.invokestatic 63, 3) := by decide +kernel
theorem dX6_kindOfPart_9 : decode cX6_kindOfPart 9 = .ok (.ifCond .eq 10, 3) := by decide +kernel
theorem dX6_kindOfPart_12 : decode cX6_kindOfPart 12 = .ok (.aload_n 0, 1) := by decide +kernel
theorem dX6_kindOfPart_13 : decode cX6_kindOfPart 13 = .ok (.iload_n 1, 1) := by decide +kernel
theorem dX6_kindOfPart_14 : decode cX6_kindOfPart 14 = .ok (.iload_n 2, 1) := by decide +kernel
theorem dX6_kindOfPart_15 : decode cX6_kindOfPart 15 = .ok (.invokevirtual 73, 3) := by decide +kernel
theorem dX6_kindOfPart_18 : decode cX6_kindOfPart 18 = .ok (.ireturn, 1) := by decide +kernel
theorem dX6_kindOfPart_19 : decode cX6_kindOfPart 19 = .ok (.aload_n 0, 1) := by decide +kernel
theorem dX6_kindOfPart_20 : decode cX6_kindOfPart 20 = .ok (.getfield 22, 3) := by decide +kernel
theorem dX6_kindOfPart_23 : decode cX6_kindOfPart 23 = .ok (.iload_n 1, 1) := by decide +kernel
theorem dX6_kindOfPart_24 : decode cX6_kindOfPart 24 = .ok (.iaload, 1) := by decide +kernel
theorem dX6_kindOfPart_25 : decode cX6_kindOfPart 25 = .ok (.invokestatic 66, 3) := by decide +kernel
theorem dX6_kindOfPart_28 : decode cX6_kindOfPart 28 = .ok (.ifCond .eq 16, 3) := by decide +kernel
theorem dX6_kindOfPart_31 : decode cX6_kindOfPart 31 = .ok (.iload_n 2, 1) := by decide +kernel
theorem dX6_kindOfPart_32 : decode cX6_kindOfPart 32 = .ok (.iload_n 1, 1) := by decide +kernel
theorem dX6_kindOfPart_33 : decode cX6_kindOfPart 33 = .ok (.isub, 1) := by decide +kernel
theorem dX6_kindOfPart_34 : decode cX6_kindOfPart 34 = .ok (.iconst 3, 1) := by decide +kernel
theorem dX6_kindOfPart_35 : decode cX6_kindOfPart 35 = .ok (.if_icmp .gt 7, 3) := by decide +kernel
theorem dX6_kindOfPart_38 : decode cX6_kindOfPart 38 = .ok (.iconst 2, 1) := by decide +kernel
theorem dX6_kindOfPart_39 : decode cX6_kindOfPart 39 = .ok (.goto 4, 3) := by decide +kernel
theorem dX6_kindOfPart_42 : decode cX6_kindOfPart 42 = .ok (.iconst 1, 1) := by decide +kernel
theorem dX6_kindOfPart_43 : decode cX6_kindOfPart 43 = .ok (.ireturn, 1) := by decide +kernel
theorem dX6_kindOfPart_44 : decode cX6_kindOfPart 44 = .ok (.aload_n 0, 1) := by decide +kernel
theorem dX6_kindOfPart_45 : decode cX6_kindOfPart 45 = .ok (.getfield 22, 3) := by decide +kernel
theorem dX6_kindOfPart_48 : decode cX6_kindOfPart 48 = .ok (.iload_n 1, 1) := by decide +kernel
theorem dX6_kindOfPart_49 : decode cX6_kindOfPart 49 = .ok (.iaload, 1) := by decide +kernel
theorem dX6_kindOfPart_50 : decode cX6_kindOfPart 50 = .ok (.lookupswitch 76 #[(40, 61), (41, 64), (59, 58), (60, 67), (61, 70), (62, 73)], 58) := by decide +kernel
theorem dX6_kindOfPart_108 : decode cX6_kindOfPart 108 = .ok (.bipush 8, 2) := by decide +kernel
theorem dX6_kindOfPart_110 : decode cX6_kindOfPart 110 = .ok (.ireturn, 1) := by decide +kernel
theorem dX6_kindOfPart_111 : decode cX6_kindOfPart 111 = .ok (.bipush 9, 2) := by decide +kernel
theorem dX6_kindOfPart_113 : decode cX6_kindOfPart 113 = .ok (.ireturn, 1) := by decide +kernel
theorem dX6_kindOfPart_114 : decode cX6_kindOfPart 114 = .ok (.bipush 10, 2) := by decide +kernel
theorem dX6_kindOfPart_116 : decode cX6_kindOfPart 116 = .ok (.ireturn, 1) := by decide +kernel
theorem dX6_kindOfPart_117 : decode cX6_kindOfPart 117 = .ok (.bipush 20, 2) := by decide +kernel
theorem dX6_kindOfPart_119 : decode cX6_kindOfPart 119 = .ok (.ireturn, 1) := by decide +kernel
theorem dX6_kindOfPart_120 : decode cX6_kindOfPart 120 = .ok (.bipush 21, 2) := by decide +kernel
theorem dX6_kindOfPart_122 : decode cX6_kindOfPart 122 = .ok (.ireturn, 1) := by decide +kernel
theorem dX6_kindOfPart_123 : decode cX6_kindOfPart 123 = .ok (.bipush 22, 2) := by decide +kernel
theorem dX6_kindOfPart_125 : decode cX6_kindOfPart 125 = .ok (.ireturn, 1) := by decide +kernel
theorem dX6_kindOfPart_126 : decode cX6_kindOfPart 126 = .ok (.iconst 1, 1) := by decide +kernel
theorem dX6_kindOfPart_127 : decode cX6_kindOfPart 127 = .ok (.ireturn, 1) := by decide +kernel
theorem dX6_kindOfWord_0 : decode cX6_kindOfWord 0 = .ok (.aload_n 0, 1) := by decide +kernel
theorem dX6_kindOfWord_1 : decode cX6_kindOfWord 1 = .ok (.ldc 76, 2) := by decide +kernel
theorem dX6_kindOfWord_3 : decode cX6_kindOfWord 3 = .ok (.iload_n 1, 1) := by decide +kernel
theorem dX6_kindOfWord_4 : decode cX6_kindOfWord 4 = .ok (.iload_n 2, 1) := by decide +kernel
theorem dX6_kindOfWord_5 : decode cX6_kindOfWord 5 = .ok (.invokevirtual 78, 3) := by decide +kernel
theorem dX6_kindOfWord_8 : decode cX6_kindOfWord 8 = .ok (.ifCond .eq 5, 3) := by decide +kernel
theorem dX6_kindOfWord_11 : decode cX6_kindOfWord 11 = .ok (.iconst 3, 1) := by decide +kernel
theorem dX6_kindOfWord_12 : decode cX6_kindOfWord 12 = .ok (.ireturn, 1) := by decide +kernel
theorem dX6_kindOfWord_13 : decode cX6_kindOfWord 13 = .ok (.aload_n 0, 1) := by decide +kernel
theorem dX6_kindOfWord_14 : decode cX6_kindOfWord 14 = .ok (.ldc 82, 2) := by decide +kernel
theorem dX6_kindOfWord_16 : decode cX6_kindOfWord 16 = .ok (.iload_n 1, 1) := by decide +kernel
theorem dX6_kindOfWord_17 : decode cX6_kindOfWord 17 = .ok (.iload_n 2, 1) := by decide +kernel
theorem dX6_kindOfWord_18 : decode cX6_kindOfWord 18 = .ok (.invokevirtual 78, 3) := by decide +kernel
theorem dX6_kindOfWord_21 : decode cX6_kindOfWord 21 = .ok (.ifCond .eq 5, 3) := by decide +kernel
theorem dX6_kindOfWord_24 : decode cX6_kindOfWord 24 = .ok (.iconst 4, 1) := by decide +kernel
theorem dX6_kindOfWord_25 : decode cX6_kindOfWord 25 = .ok (.ireturn, 1) := by decide +kernel
theorem dX6_kindOfWord_26 : decode cX6_kindOfWord 26 = .ok (.aload_n 0, 1) := by decide +kernel
theorem dX6_kindOfWord_27 : decode cX6_kindOfWord 27 = .ok (.ldc 84, 2) := by decide +kernel
theorem dX6_kindOfWord_29 : decode cX6_kindOfWord 29 = .ok (.iload_n 1, 1) := by decide +kernel
theorem dX6_kindOfWord_30 : decode cX6_kindOfWord 30 = .ok (.iload_n 2, 1) := by decide +kernel
theorem dX6_kindOfWord_31 : decode cX6_kindOfWord 31 = .ok (.invokevirtual 78, 3) := by decide +kernel
theorem dX6_kindOfWord_34 : decode cX6_kindOfWord 34 = .ok (.ifCond .eq 5, 3) := by decide +kernel
theorem dX6_kindOfWord_37 : decode cX6_kindOfWord 37 = .ok (.iconst 5, 1) := by decide +kernel
theorem dX6_kindOfWord_38 : decode cX6_kindOfWord 38 = .ok (.ireturn, 1) := by decide +kernel
theorem dX6_kindOfWord_39 : decode cX6_kindOfWord 39 = .ok (.aload_n 0, 1) := by decide +kernel
theorem dX6_kindOfWord_40 : decode cX6_kindOfWord 40 = .ok (.ldc 86, 2) := by decide +kernel
theorem dX6_kindOfWord_42 : decode cX6_kindOfWord 42 = .ok (.iload_n 1, 1) := by decide +kernel
theorem dX6_kindOfWord_43 : decode cX6_kindOfWord 43 = .ok (.iload_n 2, 1) := by decide +kernel
theorem dX6_kindOfWord_44 : decode cX6_kindOfWord 44 = .ok (.invokevirtual 78, 3) := by decide +kernel
theorem dX6_kindOfWord_47 : decode cX6_kindOfWord 47 = .ok (.ifCond .eq 6, 3) := by decide +kernel
theorem dX6_kindOfWord_50 : decode cX6_kindOfWord 50 = .ok (.bipush 6, 2) := by decide +kernel
theorem dX6_kindOfWord_52 : decode cX6_kindOfWord 52 = .ok (.ireturn, 1) := by decide +kernel
theorem dX6_kindOfWord_53 : decode cX6_kindOfWord 53 = .ok (.aload_n 0, 1) := by decide +kernel
theorem dX6_kindOfWord_54 : decode cX6_kindOfWord 54 = .ok (.ldc 88, 2) := by decide +kernel
theorem dX6_kindOfWord_56 : decode cX6_kindOfWord 56 = .ok (.iload_n 1, 1) := by decide +kernel
theorem dX6_kindOfWord_57 : decode cX6_kindOfWord 57 = .ok (.iload_n 2, 1) := by decide +kernel
theorem dX6_kindOfWord_58 : decode cX6_kindOfWord 58 = .ok (.invokevirtual 78, 3) := by decide +kernel
theorem dX6_kindOfWord_61 : decode cX6_kindOfWord 61 = .ok (.ifCond .eq 6, 3) := by decide +kernel
theorem dX6_kindOfWord_64 : decode cX6_kindOfWord 64 = .ok (.bipush 7, 2) := by decide +kernel
theorem dX6_kindOfWord_66 : decode cX6_kindOfWord 66 = .ok (.ireturn, 1) := by decide +kernel
theorem dX6_kindOfWord_67 : decode cX6_kindOfWord 67 = .ok (.aload_n 0, 1) := by decide +kernel
theorem dX6_kindOfWord_68 : decode cX6_kindOfWord 68 = .ok (.ldc 90, 2) := by decide +kernel
theorem dX6_kindOfWord_70 : decode cX6_kindOfWord 70 = .ok (.iload_n 1, 1) := by decide +kernel
theorem dX6_kindOfWord_71 : decode cX6_kindOfWord 71 = .ok (.iload_n 2, 1) := by decide +kernel
theorem dX6_kindOfWord_72 : decode cX6_kindOfWord 72 = .ok (.invokevirtual 78, 3) := by decide +kernel
theorem dX6_kindOfWord_75 : decode cX6_kindOfWord 75 = .ok (.ifCond .eq 7, 3) := by decide +kernel
theorem dX6_kindOfWord_78 : decode cX6_kindOfWord 78 = .ok (.sipush 1030, 3) := by decide +kernel
theorem dX6_kindOfWord_81 : decode cX6_kindOfWord 81 = .ok (.ireturn, 1) := by decide +kernel
theorem dX6_kindOfWord_82 : decode cX6_kindOfWord 82 = .ok (.aload_n 0, 1) := by decide +kernel
theorem dX6_kindOfWord_83 : decode cX6_kindOfWord 83 = .ok (.ldc 92, 2) := by decide +kernel
theorem dX6_kindOfWord_85 : decode cX6_kindOfWord 85 = .ok (.iload_n 1, 1) := by decide +kernel
theorem dX6_kindOfWord_86 : decode cX6_kindOfWord 86 = .ok (.iload_n 2, 1) := by decide +kernel
theorem dX6_kindOfWord_87 : decode cX6_kindOfWord 87 = .ok (.invokevirtual 78, 3) := by decide +kernel
theorem dX6_kindOfWord_90 : decode cX6_kindOfWord 90 = .ok (.ifCond .eq 7, 3) := by decide +kernel
theorem dX6_kindOfWord_93 : decode cX6_kindOfWord 93 = .ok (.sipush 1031, 3) := by decide +kernel
theorem dX6_kindOfWord_96 : decode cX6_kindOfWord 96 = .ok (.ireturn, 1) := by decide +kernel
theorem dX6_kindOfWord_97 : decode cX6_kindOfWord 97 = .ok (.aload_n 0, 1) := by decide +kernel
theorem dX6_kindOfWord_98 : decode cX6_kindOfWord 98 = .ok (.ldc 94, 2) := by decide +kernel
theorem dX6_kindOfWord_100 : decode cX6_kindOfWord 100 = .ok (.iload_n 1, 1) := by decide +kernel
theorem dX6_kindOfWord_101 : decode cX6_kindOfWord 101 = .ok (.iload_n 2, 1) := by decide +kernel
theorem dX6_kindOfWord_102 : decode cX6_kindOfWord 102 = .ok (.invokevirtual 78, 3) := by decide +kernel
theorem dX6_kindOfWord_105 : decode cX6_kindOfWord 105 = .ok (.ifCond .eq 9, 3) := by decide +kernel
theorem dX6_kindOfWord_108 : decode cX6_kindOfWord 108 = .ok (.sipush 1032, 3) := by decide +kernel
theorem dX6_kindOfWord_111 : decode cX6_kindOfWord 111 = .ok (.goto 4, 3) := by decide +kernel
theorem dX6_kindOfWord_114 : decode cX6_kindOfWord 114 = .ok (.iconst 1, 1) := by decide +kernel
theorem dX6_kindOfWord_115 : decode cX6_kindOfWord 115 = .ok (.ireturn, 1) := by decide +kernel
theorem dX6_isWord_0 : decode cX6_isWord 0 = .ok (.aload_n 1, 1) := by decide +kernel
theorem dX6_isWord_1 : decode cX6_isWord 1 = .ok (.invokevirtual 96, 3) := by decide +kernel
theorem dX6_isWord_4 : decode cX6_isWord 4 = .ok (.iload_n 3, 1) := by decide +kernel
theorem dX6_isWord_5 : decode cX6_isWord 5 = .ok (.iload_n 2, 1) := by decide +kernel
theorem dX6_isWord_6 : decode cX6_isWord 6 = .ok (.isub, 1) := by decide +kernel
theorem dX6_isWord_7 : decode cX6_isWord 7 = .ok (.if_icmp .eq 5, 3) := by decide +kernel
theorem dX6_isWord_10 : decode cX6_isWord 10 = .ok (.iconst 0, 1) := by decide +kernel
theorem dX6_isWord_11 : decode cX6_isWord 11 = .ok (.ireturn, 1) := by decide +kernel
theorem dX6_isWord_12 : decode cX6_isWord 12 = .ok (.iconst 0, 1) := by decide +kernel
theorem dX6_isWord_13 : decode cX6_isWord 13 = .ok (.istore 4, 2) := by decide +kernel
theorem dX6_isWord_15 : decode cX6_isWord 15 = .ok (.iload 4, 2) := by decide +kernel
theorem dX6_isWord_17 : decode cX6_isWord 17 = .ok (.aload_n 1, 1) := by decide +kernel
theorem dX6_isWord_18 : decode cX6_isWord 18 = .ok (.invokevirtual 96, 3) := by decide +kernel
theorem dX6_isWord_21 : decode cX6_isWord 21 = .ok (.if_icmp .ge 29, 3) := by decide +kernel
theorem dX6_isWord_24 : decode cX6_isWord 24 = .ok (.aload_n 1, 1) := by decide +kernel
theorem dX6_isWord_25 : decode cX6_isWord 25 = .ok (.iload 4, 2) := by decide +kernel
theorem dX6_isWord_27 : decode cX6_isWord 27 = .ok (.invokevirtual 102, 3) := by decide +kernel
theorem dX6_isWord_30 : decode cX6_isWord 30 = .ok (.aload_n 0, 1) := by decide +kernel
theorem dX6_isWord_31 : decode cX6_isWord 31 = .ok (.getfield 22, 3) := by decide +kernel
theorem dX6_isWord_34 : decode cX6_isWord 34 = .ok (.iload_n 2, 1) := by decide +kernel
theorem dX6_isWord_35 : decode cX6_isWord 35 = .ok (.iload 4, 2) := by decide +kernel
theorem dX6_isWord_37 : decode cX6_isWord 37 = .ok (.iadd, 1) := by decide +kernel
theorem dX6_isWord_38 : decode cX6_isWord 38 = .ok (.iaload, 1) := by decide +kernel
theorem dX6_isWord_39 : decode cX6_isWord 39 = .ok (.if_icmp .eq 5, 3) := by decide +kernel
theorem dX6_isWord_42 : decode cX6_isWord 42 = .ok (.iconst 0, 1) := by decide +kernel
theorem dX6_isWord_43 : decode cX6_isWord 43 = .ok (.ireturn, 1) := by decide +kernel
theorem dX6_isWord_44 : decode cX6_isWord 44 = .ok (.iinc 4 1, 3) := by decide +kernel
theorem dX6_isWord_47 : decode cX6_isWord 47 = .ok (.goto (-32), 3) := by decide +kernel
theorem dX6_isWord_50 : decode cX6_isWord 50 = .ok (.iconst 1, 1) := by decide +kernel
theorem dX6_isWord_51 : decode cX6_isWord 51 = .ok (.ireturn, 1) := by decide +kernel
theorem dX6_numberOf_0 : decode cX6_numberOf 0 = .ok (.iconst 0, 1) := by decide +kernel
theorem dX6_numberOf_1 : decode cX6_numberOf 1 = .ok (.istore_n 3, 1) := by decide +kernel
theorem dX6_numberOf_2 : decode cX6_numberOf 2 = .ok (.iload_n 1, 1) := by decide +kernel
theorem dX6_numberOf_3 : decode cX6_numberOf 3 = .ok (.istore 4, 2) := by decide +kernel
theorem dX6_numberOf_5 : decode cX6_numberOf 5 = .ok (.iload 4, 2) := by decide +kernel
theorem dX6_numberOf_7 : decode cX6_numberOf 7 = .ok (.iload_n 2, 1) := by decide +kernel
theorem dX6_numberOf_8 : decode cX6_numberOf 8 = .ok (.if_icmp .ge 25, 3) := by decide +kernel
theorem dX6_numberOf_11 : decode cX6_numberOf 11 = .ok (.bipush 10, 2) := by decide +kernel
theorem dX6_numberOf_13 : decode cX6_numberOf 13 = .ok (.iload_n 3, 1) := by decide +kernel
theorem dX6_numberOf_14 : decode cX6_numberOf 14 = .ok (.imul, 1) := by decide +kernel
theorem dX6_numberOf_15 : decode cX6_numberOf 15 = .ok (.aload_n 0, 1) := by decide +kernel
theorem dX6_numberOf_16 : decode cX6_numberOf 16 = .ok (.getfield 22, 3) := by decide +kernel
theorem dX6_numberOf_19 : decode cX6_numberOf 19 = .ok (.iload 4, 2) := by decide +kernel
theorem dX6_numberOf_21 : decode cX6_numberOf 21 = .ok (.iaload, 1) := by decide +kernel
theorem dX6_numberOf_22 : decode cX6_numberOf 22 = .ok (.iadd, 1) := by decide +kernel
theorem dX6_numberOf_23 : decode cX6_numberOf 23 = .ok (.bipush 48, 2) := by decide +kernel
theorem dX6_numberOf_25 : decode cX6_numberOf 25 = .ok (.isub, 1) := by decide +kernel
theorem dX6_numberOf_26 : decode cX6_numberOf 26 = .ok (.istore_n 3, 1) := by decide +kernel
theorem dX6_numberOf_27 : decode cX6_numberOf 27 = .ok (.iinc 4 1, 3) := by decide +kernel
theorem dX6_numberOf_30 : decode cX6_numberOf 30 = .ok (.goto (-25), 3) := by decide +kernel
theorem dX6_numberOf_33 : decode cX6_numberOf 33 = .ok (.iload_n 3, 1) := by decide +kernel
theorem dX6_numberOf_34 : decode cX6_numberOf 34 = .ok (.ireturn, 1) := by decide +kernel
theorem dX6_readLine_0 : decode cX6_readLine 0 = .ok (.aload_n 0, 1) := by decide +kernel
theorem dX6_readLine_1 : decode cX6_readLine 1 = .ok (.iconst 3, 1) := by decide +kernel
theorem dX6_readLine_2 : decode cX6_readLine 2 = .ok (.invokevirtual 106, 3) := by decide +kernel
theorem dX6_readLine_5 : decode cX6_readLine 5 = .ok (.ifCond .eq 11, 3) := by decide +kernel
theorem dX6_readLine_8 : decode cX6_readLine 8 = .ok (.aload_n 0, 1) := by decide +kernel
theorem dX6_readLine_9 : decode cX6_readLine 9 = .ok (.iconst 5, 1) := by decide +kernel
theorem dX6_readLine_10 : decode cX6_readLine 10 = .ok (.invokevirtual 109, 3) := by decide +kernel
theorem dX6_readLine_13 : decode cX6_readLine 13 = .ok (.ifCond .ne 5, 3) := by decide +kernel
theorem dX6_readLine_16 : decode cX6_readLine 16 = .ok (.iconst 0, 1) := by decide +kernel
theorem dX6_readLine_17 : decode cX6_readLine 17 = .ok (.ireturn, 1) := by decide +kernel
theorem dX6_readLine_18 : decode cX6_readLine 18 = .ok (.aload_n 0, 1) := by decide +kernel
theorem dX6_readLine_19 : decode cX6_readLine 19 = .ok (.getfield 29, 3) := by decide +kernel
theorem dX6_readLine_22 : decode cX6_readLine 22 = .ok (.aload_n 0, 1) := by decide +kernel
theorem dX6_readLine_23 : decode cX6_readLine 23 = .ok (.getfield 35, 3) := by decide +kernel
theorem dX6_readLine_26 : decode cX6_readLine 26 = .ok (.iaload, 1) := by decide +kernel
theorem dX6_readLine_27 : decode cX6_readLine 27 = .ok (.istore_n 1, 1) := by decide +kernel
theorem dX6_readLine_28 : decode cX6_readLine 28 = .ok (.aload_n 0, 1) := by decide +kernel
theorem dX6_readLine_29 : decode cX6_readLine 29 = .ok (.dup, 1) := by decide +kernel
theorem dX6_readLine_30 : decode cX6_readLine 30 = .ok (.getfield 35, 3) := by decide +kernel
theorem dX6_readLine_33 : decode cX6_readLine 33 = .ok (.iconst 1, 1) := by decide +kernel
theorem dX6_readLine_34 : decode cX6_readLine 34 = .ok (.iadd, 1) := by decide +kernel
theorem dX6_readLine_35 : decode cX6_readLine 35 = .ok (.putfield 35, 3) := by decide +kernel
theorem dX6_readLine_38 : decode cX6_readLine 38 = .ok (.aload_n 0, 1) := by decide +kernel
theorem dX6_readLine_39 : decode cX6_readLine 39 = .ok (.bipush 99, 2) := by decide +kernel
theorem dX6_readLine_41 : decode cX6_readLine 41 = .ok (.invokevirtual 109, 3) := by decide +kernel
theorem dX6_readLine_44 : decode cX6_readLine 44 = .ok (.ifCond .ne 5, 3) := by decide +kernel
theorem dX6_readLine_47 : decode cX6_readLine 47 = .ok (.iconst 0, 1) := by decide +kernel
theorem dX6_readLine_48 : decode cX6_readLine 48 = .ok (.ireturn, 1) := by decide +kernel
theorem dX6_readLine_49 : decode cX6_readLine 49 = .ok (.aload_n 0, 1) := by decide +kernel
theorem dX6_readLine_50 : decode cX6_readLine 50 = .ok (.getfield 29, 3) := by decide +kernel
theorem dX6_readLine_53 : decode cX6_readLine 53 = .ok (.aload_n 0, 1) := by decide +kernel
theorem dX6_readLine_54 : decode cX6_readLine 54 = .ok (.getfield 35, 3) := by decide +kernel
theorem dX6_readLine_57 : decode cX6_readLine 57 = .ok (.iaload, 1) := by decide +kernel
theorem dX6_readLine_58 : decode cX6_readLine 58 = .ok (.istore_n 2, 1) := by decide +kernel
theorem dX6_readLine_59 : decode cX6_readLine 59 = .ok (.aload_n 0, 1) := by decide +kernel
theorem dX6_readLine_60 : decode cX6_readLine 60 = .ok (.dup, 1) := by decide +kernel
theorem dX6_readLine_61 : decode cX6_readLine 61 = .ok (.getfield 35, 3) := by decide +kernel
theorem dX6_readLine_64 : decode cX6_readLine 64 = .ok (.iconst 1, 1) := by decide +kernel
theorem dX6_readLine_65 : decode cX6_readLine 65 = .ok (.iadd, 1) := by decide +kernel
theorem dX6_readLine_66 : decode cX6_readLine 66 = .ok (.putfield 35, 3) := by decide +kernel
theorem dX6_readLine_69 : decode cX6_readLine 69 = .ok (.aload_n 0, 1) := by decide +kernel
theorem dX6_readLine_70 : decode cX6_readLine 70 = .ok (.iconst 4, 1) := by decide +kernel
theorem dX6_readLine_71 : decode cX6_readLine 71 = .ok (.invokevirtual 106, 3) := by decide +kernel
theorem dX6_readLine_74 : decode cX6_readLine 74 = .ok (.ifCond .eq 13, 3) := by decide +kernel
theorem dX6_readLine_77 : decode cX6_readLine 77 = .ok (.aload_n 0, 1) := by decide +kernel
theorem dX6_readLine_78 : decode cX6_readLine 78 = .ok (.iconst 0, 1) := by decide +kernel
theorem dX6_readLine_79 : decode cX6_readLine 79 = .ok (.invokevirtual 112, 3) := by decide +kernel
theorem dX6_readLine_82 : decode cX6_readLine 82 = .ok (.ifCond .ne 5, 3) := by decide +kernel
theorem dX6_readLine_85 : decode cX6_readLine 85 = .ok (.iconst 0, 1) := by decide +kernel
theorem dX6_readLine_86 : decode cX6_readLine 86 = .ok (.ireturn, 1) := by decide +kernel
theorem dX6_readLine_87 : decode cX6_readLine 87 = .ok (.aload_n 0, 1) := by decide +kernel
theorem dX6_readLine_88 : decode cX6_readLine 88 = .ok (.bipush 8, 2) := by decide +kernel
theorem dX6_readLine_90 : decode cX6_readLine 90 = .ok (.invokevirtual 106, 3) := by decide +kernel
theorem dX6_readLine_93 : decode cX6_readLine 93 = .ok (.ifCond .ne 5, 3) := by decide +kernel
theorem dX6_readLine_96 : decode cX6_readLine 96 = .ok (.iconst 0, 1) := by decide +kernel
theorem dX6_readLine_97 : decode cX6_readLine 97 = .ok (.ireturn, 1) := by decide +kernel
theorem dX6_readLine_98 : decode cX6_readLine 98 = .ok (.aload_n 0, 1) := by decide +kernel
theorem dX6_readLine_99 : decode cX6_readLine 99 = .ok (.getfield 18, 3) := by decide +kernel
theorem dX6_readLine_102 : decode cX6_readLine 102 = .ok (.iload_n 1, 1) := by decide +kernel
theorem dX6_readLine_103 : decode cX6_readLine 103 = .ok (.iload_n 2, 1) := by decide +kernel
theorem dX6_readLine_104 : decode cX6_readLine 104 = .ok (.invokevirtual 115, 3) := by decide +kernel
theorem dX6_readLine_107 : decode cX6_readLine 107 = .ok (.iconst 1, 1) := by decide +kernel
theorem dX6_readLine_108 : decode cX6_readLine 108 = .ok (.ireturn, 1) := by decide +kernel
theorem dX6_pass_0 : decode cX6_pass 0 = .ok (.aload_n 0, 1) := by decide +kernel
theorem dX6_pass_1 : decode cX6_pass 1 = .ok (.getfield 26, 3) := by decide +kernel
theorem dX6_pass_4 : decode cX6_pass 4 = .ok (.aload_n 0, 1) := by decide +kernel
theorem dX6_pass_5 : decode cX6_pass 5 = .ok (.getfield 35, 3) := by decide +kernel
theorem dX6_pass_8 : decode cX6_pass 8 = .ok (.iaload, 1) := by decide +kernel
theorem dX6_pass_9 : decode cX6_pass 9 = .ok (.iload_n 1, 1) := by decide +kernel
theorem dX6_pass_10 : decode cX6_pass 10 = .ok (.if_icmp .eq 5, 3) := by decide +kernel
theorem dX6_pass_13 : decode cX6_pass 13 = .ok (.iconst 0, 1) := by decide +kernel
theorem dX6_pass_14 : decode cX6_pass 14 = .ok (.ireturn, 1) := by decide +kernel
theorem dX6_pass_15 : decode cX6_pass 15 = .ok (.aload_n 0, 1) := by decide +kernel
theorem dX6_pass_16 : decode cX6_pass 16 = .ok (.dup, 1) := by decide +kernel
theorem dX6_pass_17 : decode cX6_pass 17 = .ok (.getfield 35, 3) := by decide +kernel
theorem dX6_pass_20 : decode cX6_pass 20 = .ok (.iconst 1, 1) := by decide +kernel
theorem dX6_pass_21 : decode cX6_pass 21 = .ok (.iadd, 1) := by decide +kernel
theorem dX6_pass_22 : decode cX6_pass 22 = .ok (.putfield 35, 3) := by decide +kernel
theorem dX6_pass_25 : decode cX6_pass 25 = .ok (.iconst 1, 1) := by decide +kernel
theorem dX6_pass_26 : decode cX6_pass 26 = .ok (.ireturn, 1) := by decide +kernel
theorem dX6_isNumber_0 : decode cX6_isNumber 0 = .ok (.aload_n 0, 1) := by decide +kernel
theorem dX6_isNumber_1 : decode cX6_isNumber 1 = .ok (.getfield 26, 3) := by decide +kernel
theorem dX6_isNumber_4 : decode cX6_isNumber 4 = .ok (.aload_n 0, 1) := by decide +kernel
theorem dX6_isNumber_5 : decode cX6_isNumber 5 = .ok (.getfield 35, 3) := by decide +kernel
theorem dX6_isNumber_8 : decode cX6_isNumber 8 = .ok (.iaload, 1) := by decide +kernel
theorem dX6_isNumber_9 : decode cX6_isNumber 9 = .ok (.iconst 2, 1) := by decide +kernel
theorem dX6_isNumber_10 : decode cX6_isNumber 10 = .ok (.if_icmp .ne 20, 3) := by decide +kernel
theorem dX6_isNumber_13 : decode cX6_isNumber 13 = .ok (.aload_n 0, 1) := by decide +kernel
theorem dX6_isNumber_14 : decode cX6_isNumber 14 = .ok (.getfield 29, 3) := by decide +kernel
theorem dX6_isNumber_17 : decode cX6_isNumber 17 = .ok (.aload_n 0, 1) := by decide +kernel
theorem dX6_isNumber_18 : decode cX6_isNumber 18 = .ok (.getfield 35, 3) := by decide +kernel
theorem dX6_isNumber_21 : decode cX6_isNumber 21 = .ok (.iaload, 1) := by decide +kernel
theorem dX6_isNumber_22 : decode cX6_isNumber 22 = .ok (.iload_n 1, 1) := by decide +kernel
theorem dX6_isNumber_23 : decode cX6_isNumber 23 = .ok (.if_icmp .gt 7, 3) := by decide +kernel
theorem dX6_isNumber_26 : decode cX6_isNumber 26 = .ok (.iconst 1, 1) := by decide +kernel
theorem dX6_isNumber_27 : decode cX6_isNumber 27 = .ok (.goto 4, 3) := by decide +kernel
theorem dX6_isNumber_30 : decode cX6_isNumber 30 = .ok (.iconst 0, 1) := by decide +kernel
theorem dX6_isNumber_31 : decode cX6_isNumber 31 = .ok (.ireturn, 1) := by decide +kernel
theorem dX6_readCondition_0 : decode cX6_readCondition 0 = .ok (.iconst 0, 1) := by decide +kernel
theorem dX6_readCondition_1 : decode cX6_readCondition 1 = .ok (.istore_n 2, 1) := by decide +kernel
theorem dX6_readCondition_2 : decode cX6_readCondition 2 = .ok (.iconst 0, 1) := by decide +kernel
theorem dX6_readCondition_3 : decode cX6_readCondition 3 = .ok (.istore_n 3, 1) := by decide +kernel
theorem dX6_readCondition_4 : decode cX6_readCondition 4 = .ok (.iconst 0, 1) := by decide +kernel
theorem dX6_readCondition_5 : decode cX6_readCondition 5 = .ok (.istore 4, 2) := by decide +kernel
theorem dX6_readCondition_7 : decode cX6_readCondition 7 = .ok (.iload 4, 2) := by decide +kernel
theorem dX6_readCondition_9 : decode cX6_readCondition 9 = .ok (.sipush 200, 3) := by decide +kernel
theorem dX6_readCondition_12 : decode cX6_readCondition 12 = .ok (.if_icmp .ge 71, 3) := by decide +kernel
theorem dX6_readCondition_15 : decode cX6_readCondition 15 = .ok (.aload_n 0, 1) := by decide +kernel
theorem dX6_readCondition_16 : decode cX6_readCondition 16 = .ok (.iload_n 1, 1) := by decide +kernel
theorem dX6_readCondition_17 : decode cX6_readCondition 17 = .ok (.invokevirtual 119, 3) := by decide +kernel
theorem dX6_readCondition_20 : decode cX6_readCondition 20 = .ok (.ifCond .ne 5, 3) := by decide +kernel
theorem dX6_readCondition_23 : decode cX6_readCondition 23 = .ok (.iconst 0, 1) := by decide +kernel
theorem dX6_readCondition_24 : decode cX6_readCondition 24 = .ok (.ireturn, 1) := by decide +kernel
theorem dX6_readCondition_25 : decode cX6_readCondition 25 = .ok (.iload_n 2, 1) := by decide +kernel
theorem dX6_readCondition_26 : decode cX6_readCondition 26 = .ok (.ifCond .eq 12, 3) := by decide +kernel
theorem dX6_readCondition_29 : decode cX6_readCondition 29 = .ok (.aload_n 0, 1) := by decide +kernel
theorem dX6_readCondition_30 : decode cX6_readCondition 30 = .ok (.getfield 18, 3) := by decide +kernel
theorem dX6_readCondition_33 : decode cX6_readCondition 33 = .ok (.bipush (-2), 2) := by decide +kernel
theorem dX6_readCondition_35 : decode cX6_readCondition 35 = .ok (.invokevirtual 122, 3) := by decide +kernel
theorem dX6_readCondition_38 : decode cX6_readCondition 38 = .ok (.aload_n 0, 1) := by decide +kernel
theorem dX6_readCondition_39 : decode cX6_readCondition 39 = .ok (.bipush 6, 2) := by decide +kernel
theorem dX6_readCondition_41 : decode cX6_readCondition 41 = .ok (.invokevirtual 106, 3) := by decide +kernel
theorem dX6_readCondition_44 : decode cX6_readCondition 44 = .ok (.istore_n 2, 1) := by decide +kernel
theorem dX6_readCondition_45 : decode cX6_readCondition 45 = .ok (.iload_n 2, 1) := by decide +kernel
theorem dX6_readCondition_46 : decode cX6_readCondition 46 = .ok (.ifCond .eq 6, 3) := by decide +kernel
theorem dX6_readCondition_49 : decode cX6_readCondition 49 = .ok (.goto 28, 3) := by decide +kernel
theorem dX6_readCondition_52 : decode cX6_readCondition 52 = .ok (.iload_n 3, 1) := by decide +kernel
theorem dX6_readCondition_53 : decode cX6_readCondition 53 = .ok (.ifCond .eq 12, 3) := by decide +kernel
theorem dX6_readCondition_56 : decode cX6_readCondition 56 = .ok (.aload_n 0, 1) := by decide +kernel
theorem dX6_readCondition_57 : decode cX6_readCondition 57 = .ok (.getfield 18, 3) := by decide +kernel
theorem dX6_readCondition_60 : decode cX6_readCondition 60 = .ok (.bipush (-3), 2) := by decide +kernel
theorem dX6_readCondition_62 : decode cX6_readCondition 62 = .ok (.invokevirtual 122, 3) := by decide +kernel
theorem dX6_readCondition_65 : decode cX6_readCondition 65 = .ok (.aload_n 0, 1) := by decide +kernel
theorem dX6_readCondition_66 : decode cX6_readCondition 66 = .ok (.iconst 5, 1) := by decide +kernel
theorem dX6_readCondition_67 : decode cX6_readCondition 67 = .ok (.invokevirtual 106, 3) := by decide +kernel
theorem dX6_readCondition_70 : decode cX6_readCondition 70 = .ok (.istore_n 3, 1) := by decide +kernel
theorem dX6_readCondition_71 : decode cX6_readCondition 71 = .ok (.iload_n 3, 1) := by decide +kernel
theorem dX6_readCondition_72 : decode cX6_readCondition 72 = .ok (.ifCond .ne 5, 3) := by decide +kernel
theorem dX6_readCondition_75 : decode cX6_readCondition 75 = .ok (.iconst 1, 1) := by decide +kernel
theorem dX6_readCondition_76 : decode cX6_readCondition 76 = .ok (.ireturn, 1) := by decide +kernel
theorem dX6_readCondition_77 : decode cX6_readCondition 77 = .ok (.iinc 4 1, 3) := by decide +kernel
theorem dX6_readCondition_80 : decode cX6_readCondition 80 = .ok (.goto (-73), 3) := by decide +kernel
theorem dX6_readCondition_83 : decode cX6_readCondition 83 = .ok (.iconst 0, 1) := by decide +kernel
theorem dX6_readCondition_84 : decode cX6_readCondition 84 = .ok (.ireturn, 1) := by decide +kernel
theorem dX6_readOne_0 : decode cX6_readOne 0 = .ok (.iconst 0, 1) := by decide +kernel
theorem dX6_readOne_1 : decode cX6_readOne 1 = .ok (.istore_n 2, 1) := by decide +kernel
theorem dX6_readOne_2 : decode cX6_readOne 2 = .ok (.iconst 0, 1) := by decide +kernel
theorem dX6_readOne_3 : decode cX6_readOne 3 = .ok (.istore_n 3, 1) := by decide +kernel
theorem dX6_readOne_4 : decode cX6_readOne 4 = .ok (.iload_n 3, 1) := by decide +kernel
theorem dX6_readOne_5 : decode cX6_readOne 5 = .ok (.sipush 200, 3) := by decide +kernel
theorem dX6_readOne_8 : decode cX6_readOne 8 = .ok (.if_icmp .ge 28, 3) := by decide +kernel
theorem dX6_readOne_11 : decode cX6_readOne 11 = .ok (.aload_n 0, 1) := by decide +kernel
theorem dX6_readOne_12 : decode cX6_readOne 12 = .ok (.bipush 7, 2) := by decide +kernel
theorem dX6_readOne_14 : decode cX6_readOne 14 = .ok (.invokevirtual 106, 3) := by decide +kernel
theorem dX6_readOne_17 : decode cX6_readOne 17 = .ok (.ifCond .eq 19, 3) := by decide +kernel
theorem dX6_readOne_20 : decode cX6_readOne 20 = .ok (.iload_n 2, 1) := by decide +kernel
theorem dX6_readOne_21 : decode cX6_readOne 21 = .ok (.ifCond .ne 7, 3) := by decide +kernel
theorem dX6_readOne_24 : decode cX6_readOne 24 = .ok (.iconst 1, 1) := by decide +kernel
theorem dX6_readOne_25 : decode cX6_readOne 25 = .ok (.goto 4, 3) := by decide +kernel
theorem dX6_readOne_28 : decode cX6_readOne 28 = .ok (.iconst 0, 1) := by decide +kernel
theorem dX6_readOne_29 : decode cX6_readOne 29 = .ok (.istore_n 2, 1) := by decide +kernel
theorem dX6_readOne_30 : decode cX6_readOne 30 = .ok (.iinc 3 1, 3) := by decide +kernel
theorem dX6_readOne_33 : decode cX6_readOne 33 = .ok (.goto (-29), 3) := by decide +kernel
theorem dX6_readOne_36 : decode cX6_readOne 36 = .ok (.aload_n 0, 1) := by decide +kernel
theorem dX6_readOne_37 : decode cX6_readOne 37 = .ok (.getfield 26, 3) := by decide +kernel
theorem dX6_readOne_40 : decode cX6_readOne 40 = .ok (.aload_n 0, 1) := by decide +kernel
theorem dX6_readOne_41 : decode cX6_readOne 41 = .ok (.getfield 35, 3) := by decide +kernel
theorem dX6_readOne_44 : decode cX6_readOne 44 = .ok (.iaload, 1) := by decide +kernel
theorem dX6_readOne_45 : decode cX6_readOne 45 = .ok (.bipush 9, 2) := by decide +kernel
theorem dX6_readOne_47 : decode cX6_readOne 47 = .ok (.if_icmp .eq 12, 3) := by decide +kernel
theorem dX6_readOne_50 : decode cX6_readOne 50 = .ok (.aload_n 0, 1) := by decide +kernel
theorem dX6_readOne_51 : decode cX6_readOne 51 = .ok (.invokevirtual 126, 3) := by decide +kernel
theorem dX6_readOne_54 : decode cX6_readOne 54 = .ok (.ifCond .ne 40, 3) := by decide +kernel
theorem dX6_readOne_57 : decode cX6_readOne 57 = .ok (.iconst 0, 1) := by decide +kernel
theorem dX6_readOne_58 : decode cX6_readOne 58 = .ok (.ireturn, 1) := by decide +kernel
theorem dX6_readOne_59 : decode cX6_readOne 59 = .ok (.iload_n 1, 1) := by decide +kernel
theorem dX6_readOne_60 : decode cX6_readOne 60 = .ok (.iconst 3, 1) := by decide +kernel
theorem dX6_readOne_61 : decode cX6_readOne 61 = .ok (.if_icmp .eq 31, 3) := by decide +kernel
theorem dX6_readOne_64 : decode cX6_readOne 64 = .ok (.aload_n 0, 1) := by decide +kernel
theorem dX6_readOne_65 : decode cX6_readOne 65 = .ok (.bipush 9, 2) := by decide +kernel
theorem dX6_readOne_67 : decode cX6_readOne 67 = .ok (.invokevirtual 106, 3) := by decide +kernel
theorem dX6_readOne_70 : decode cX6_readOne 70 = .ok (.ifCond .eq 22, 3) := by decide +kernel
theorem dX6_readOne_73 : decode cX6_readOne 73 = .ok (.aload_n 0, 1) := by decide +kernel
theorem dX6_readOne_74 : decode cX6_readOne 74 = .ok (.iload_n 1, 1) := by decide +kernel
theorem dX6_readOne_75 : decode cX6_readOne 75 = .ok (.iconst 1, 1) := by decide +kernel
theorem dX6_readOne_76 : decode cX6_readOne 76 = .ok (.iadd, 1) := by decide +kernel
theorem dX6_readOne_77 : decode cX6_readOne 77 = .ok (.invokevirtual 112, 3) := by decide +kernel
theorem dX6_readOne_80 : decode cX6_readOne 80 = .ok (.ifCond .eq 12, 3) := by decide +kernel
theorem dX6_readOne_83 : decode cX6_readOne 83 = .ok (.aload_n 0, 1) := by decide +kernel
theorem dX6_readOne_84 : decode cX6_readOne 84 = .ok (.bipush 10, 2) := by decide +kernel
theorem dX6_readOne_86 : decode cX6_readOne 86 = .ok (.invokevirtual 106, 3) := by decide +kernel
theorem dX6_readOne_89 : decode cX6_readOne 89 = .ok (.ifCond .ne 5, 3) := by decide +kernel
theorem dX6_readOne_92 : decode cX6_readOne 92 = .ok (.iconst 0, 1) := by decide +kernel
theorem dX6_readOne_93 : decode cX6_readOne 93 = .ok (.ireturn, 1) := by decide +kernel
theorem dX6_readOne_94 : decode cX6_readOne 94 = .ok (.iload_n 2, 1) := by decide +kernel
theorem dX6_readOne_95 : decode cX6_readOne 95 = .ok (.ifCond .eq 11, 3) := by decide +kernel
theorem dX6_readOne_98 : decode cX6_readOne 98 = .ok (.aload_n 0, 1) := by decide +kernel
theorem dX6_readOne_99 : decode cX6_readOne 99 = .ok (.getfield 18, 3) := by decide +kernel
theorem dX6_readOne_102 : decode cX6_readOne 102 = .ok (.iconst (-1), 1) := by decide +kernel
theorem dX6_readOne_103 : decode cX6_readOne 103 = .ok (.invokevirtual 122, 3) := by decide +kernel
theorem dX6_readOne_106 : decode cX6_readOne 106 = .ok (.iconst 1, 1) := by decide +kernel
theorem dX6_readOne_107 : decode cX6_readOne 107 = .ok (.ireturn, 1) := by decide +kernel
theorem dX6_readComparison_0 : decode cX6_readComparison 0 = .ok (.aload_n 0, 1) := by decide +kernel
theorem dX6_readComparison_1 : decode cX6_readComparison 1 = .ok (.invokevirtual 129, 3) := by decide +kernel
theorem dX6_readComparison_4 : decode cX6_readComparison 4 = .ok (.istore_n 1, 1) := by decide +kernel
theorem dX6_readComparison_5 : decode cX6_readComparison 5 = .ok (.iload_n 1, 1) := by decide +kernel
theorem dX6_readComparison_6 : decode cX6_readComparison 6 = .ok (.ifCond .ge 5, 3) := by decide +kernel
theorem dX6_readComparison_9 : decode cX6_readComparison 9 = .ok (.iconst 0, 1) := by decide +kernel
theorem dX6_readComparison_10 : decode cX6_readComparison 10 = .ok (.ireturn, 1) := by decide +kernel
theorem dX6_readComparison_11 : decode cX6_readComparison 11 = .ok (.aload_n 0, 1) := by decide +kernel
theorem dX6_readComparison_12 : decode cX6_readComparison 12 = .ok (.dup, 1) := by decide +kernel
theorem dX6_readComparison_13 : decode cX6_readComparison 13 = .ok (.getfield 35, 3) := by decide +kernel
theorem dX6_readComparison_16 : decode cX6_readComparison 16 = .ok (.iconst 1, 1) := by decide +kernel
theorem dX6_readComparison_17 : decode cX6_readComparison 17 = .ok (.iadd, 1) := by decide +kernel
theorem dX6_readComparison_18 : decode cX6_readComparison 18 = .ok (.putfield 35, 3) := by decide +kernel
theorem dX6_readComparison_21 : decode cX6_readComparison 21 = .ok (.aload_n 0, 1) := by decide +kernel
theorem dX6_readComparison_22 : decode cX6_readComparison 22 = .ok (.getfield 26, 3) := by decide +kernel
theorem dX6_readComparison_25 : decode cX6_readComparison 25 = .ok (.aload_n 0, 1) := by decide +kernel
theorem dX6_readComparison_26 : decode cX6_readComparison 26 = .ok (.getfield 35, 3) := by decide +kernel
theorem dX6_readComparison_29 : decode cX6_readComparison 29 = .ok (.iaload, 1) := by decide +kernel
theorem dX6_readComparison_30 : decode cX6_readComparison 30 = .ok (.bipush 20, 2) := by decide +kernel
theorem dX6_readComparison_32 : decode cX6_readComparison 32 = .ok (.isub, 1) := by decide +kernel
theorem dX6_readComparison_33 : decode cX6_readComparison 33 = .ok (.istore_n 2, 1) := by decide +kernel
theorem dX6_readComparison_34 : decode cX6_readComparison 34 = .ok (.iload_n 2, 1) := by decide +kernel
theorem dX6_readComparison_35 : decode cX6_readComparison 35 = .ok (.iconst 0, 1) := by decide +kernel
theorem dX6_readComparison_36 : decode cX6_readComparison 36 = .ok (.iconst 2, 1) := by decide +kernel
theorem dX6_readComparison_37 : decode cX6_readComparison 37 = .ok (.invokestatic 132, 3) := by decide +kernel
theorem dX6_readComparison_40 : decode cX6_readComparison 40 = .ok (.ifCond .ne 5, 3) := by decide +kernel
theorem dX6_readComparison_43 : decode cX6_readComparison 43 = .ok (.iconst 0, 1) := by decide +kernel
theorem dX6_readComparison_44 : decode cX6_readComparison 44 = .ok (.ireturn, 1) := by decide +kernel
theorem dX6_readComparison_45 : decode cX6_readComparison 45 = .ok (.aload_n 0, 1) := by decide +kernel
theorem dX6_readComparison_46 : decode cX6_readComparison 46 = .ok (.dup, 1) := by decide +kernel
theorem dX6_readComparison_47 : decode cX6_readComparison 47 = .ok (.getfield 35, 3) := by decide +kernel
theorem dX6_readComparison_50 : decode cX6_readComparison 50 = .ok (.iconst 1, 1) := by decide +kernel
theorem dX6_readComparison_51 : decode cX6_readComparison 51 = .ok (.iadd, 1) := by decide +kernel
theorem dX6_readComparison_52 : decode cX6_readComparison 52 = .ok (.putfield 35, 3) := by decide +kernel
theorem dX6_readComparison_55 : decode cX6_readComparison 55 = .ok (.aload_n 0, 1) := by decide +kernel
theorem dX6_readComparison_56 : decode cX6_readComparison 56 = .ok (.invokevirtual 129, 3) := by decide +kernel
theorem dX6_readComparison_59 : decode cX6_readComparison 59 = .ok (.istore_n 3, 1) := by decide +kernel
theorem dX6_readComparison_60 : decode cX6_readComparison 60 = .ok (.iload_n 3, 1) := by decide +kernel
theorem dX6_readComparison_61 : decode cX6_readComparison 61 = .ok (.ifCond .ge 5, 3) := by decide +kernel
theorem dX6_readComparison_64 : decode cX6_readComparison 64 = .ok (.iconst 0, 1) := by decide +kernel
theorem dX6_readComparison_65 : decode cX6_readComparison 65 = .ok (.ireturn, 1) := by decide +kernel
theorem dX6_readComparison_66 : decode cX6_readComparison 66 = .ok (.aload_n 0, 1) := by decide +kernel
theorem dX6_readComparison_67 : decode cX6_readComparison 67 = .ok (.dup, 1) := by decide +kernel
theorem dX6_readComparison_68 : decode cX6_readComparison 68 = .ok (.getfield 35, 3) := by decide +kernel
theorem dX6_readComparison_71 : decode cX6_readComparison 71 = .ok (.iconst 1, 1) := by decide +kernel
theorem dX6_readComparison_72 : decode cX6_readComparison 72 = .ok (.iadd, 1) := by decide +kernel
theorem dX6_readComparison_73 : decode cX6_readComparison 73 = .ok (.putfield 35, 3) := by decide +kernel
theorem dX6_readComparison_76 : decode cX6_readComparison 76 = .ok (.aload_n 0, 1) := by decide +kernel
theorem dX6_readComparison_77 : decode cX6_readComparison 77 = .ok (.getfield 18, 3) := by decide +kernel
theorem dX6_readComparison_80 : decode cX6_readComparison 80 = .ok (.iload_n 1, 1) := by decide +kernel
theorem dX6_readComparison_81 : decode cX6_readComparison 81 = .ok (.iload_n 2, 1) := by decide +kernel
theorem dX6_readComparison_82 : decode cX6_readComparison 82 = .ok (.iload_n 3, 1) := by decide +kernel
theorem dX6_readComparison_83 : decode cX6_readComparison 83 = .ok (.invokestatic 136, 3) := by decide +kernel
theorem dX6_readComparison_86 : decode cX6_readComparison 86 = .ok (.invokevirtual 122, 3) := by decide +kernel
theorem dX6_readComparison_89 : decode cX6_readComparison 89 = .ok (.iconst 1, 1) := by decide +kernel
theorem dX6_readComparison_90 : decode cX6_readComparison 90 = .ok (.ireturn, 1) := by decide +kernel
theorem dX6_value_0 : decode cX6_value 0 = .ok (.aload_n 0, 1) := by decide +kernel
theorem dX6_value_1 : decode cX6_value 1 = .ok (.getfield 26, 3) := by decide +kernel
theorem dX6_value_4 : decode cX6_value 4 = .ok (.aload_n 0, 1) := by decide +kernel
theorem dX6_value_5 : decode cX6_value 5 = .ok (.getfield 35, 3) := by decide +kernel
theorem dX6_value_8 : decode cX6_value 8 = .ok (.iaload, 1) := by decide +kernel
theorem dX6_value_9 : decode cX6_value 9 = .ok (.iconst 2, 1) := by decide +kernel
theorem dX6_value_10 : decode cX6_value 10 = .ok (.if_icmp .ne 13, 3) := by decide +kernel
theorem dX6_value_13 : decode cX6_value 13 = .ok (.aload_n 0, 1) := by decide +kernel
theorem dX6_value_14 : decode cX6_value 14 = .ok (.getfield 29, 3) := by decide +kernel
theorem dX6_value_17 : decode cX6_value 17 = .ok (.aload_n 0, 1) := by decide +kernel
theorem dX6_value_18 : decode cX6_value 18 = .ok (.getfield 35, 3) := by decide +kernel
theorem dX6_value_21 : decode cX6_value 21 = .ok (.iaload, 1) := by decide +kernel
theorem dX6_value_22 : decode cX6_value 22 = .ok (.ireturn, 1) := by decide +kernel
theorem dX6_value_23 : decode cX6_value 23 = .ok (.aload_n 0, 1) := by decide +kernel
theorem dX6_value_24 : decode cX6_value 24 = .ok (.getfield 26, 3) := by decide +kernel
theorem dX6_value_27 : decode cX6_value 27 = .ok (.aload_n 0, 1) := by decide +kernel
theorem dX6_value_28 : decode cX6_value 28 = .ok (.getfield 35, 3) := by decide +kernel
theorem dX6_value_31 : decode cX6_value 31 = .ok (.iaload, 1) := by decide +kernel
theorem dX6_value_32 : decode cX6_value 32 = .ok (.bipush 30, 2) := by decide +kernel
theorem dX6_value_34 : decode cX6_value 34 = .ok (.if_icmp .lt 18, 3) := by decide +kernel
theorem dX6_value_37 : decode cX6_value 37 = .ok (.aload_n 0, 1) := by decide +kernel
theorem dX6_value_38 : decode cX6_value 38 = .ok (.getfield 26, 3) := by decide +kernel
theorem dX6_value_41 : decode cX6_value 41 = .ok (.aload_n 0, 1) := by decide +kernel
theorem dX6_value_42 : decode cX6_value 42 = .ok (.getfield 35, 3) := by decide +kernel
theorem dX6_value_45 : decode cX6_value 45 = .ok (.iaload, 1) := by decide +kernel
theorem dX6_value_46 : decode cX6_value 46 = .ok (.bipush 30, 2) := by decide +kernel
theorem dX6_value_48 : decode cX6_value 48 = .ok (.isub, 1) := by decide +kernel
theorem dX6_value_49 : decode cX6_value 49 = .ok (.goto 4, 3) := by decide +kernel
theorem dX6_value_52 : decode cX6_value 52 = .ok (.iconst (-1), 1) := by decide +kernel
theorem dX6_value_53 : decode cX6_value 53 = .ok (.ireturn, 1) := by decide +kernel
theorem dX7_init_0 : decode cX7_init 0 = .ok (.aload_n 0, 1) := by decide +kernel
theorem dX7_init_1 : decode cX7_init 1 = .ok (.invokespecial 3, 3) := by decide +kernel
theorem dX7_init_4 : decode cX7_init 4 = .ok (.aload_n 0, 1) := by decide +kernel
theorem dX7_init_5 : decode cX7_init 5 = .ok (.bipush 6, 2) := by decide +kernel
theorem dX7_init_7 : decode cX7_init 7 = .ok (.newarray .int, 2) := by decide +kernel
theorem dX7_init_9 : decode cX7_init 9 = .ok (.putfield 9, 3) := by decide +kernel
theorem dX7_init_12 : decode cX7_init 12 = .ok (.aload_n 0, 1) := by decide +kernel
theorem dX7_init_13 : decode cX7_init 13 = .ok (.bipush 6, 2) := by decide +kernel
theorem dX7_init_15 : decode cX7_init 15 = .ok (.newarray .int, 2) := by decide +kernel
theorem dX7_init_17 : decode cX7_init 17 = .ok (.putfield 15, 3) := by decide +kernel
theorem dX7_init_20 : decode cX7_init 20 = .ok (.aload_n 0, 1) := by decide +kernel
theorem dX7_init_21 : decode cX7_init 21 = .ok (.bipush 6, 2) := by decide +kernel
theorem dX7_init_23 : decode cX7_init 23 = .ok (.newarray .int, 2) := by decide +kernel
theorem dX7_init_25 : decode cX7_init 25 = .ok (.putfield 18, 3) := by decide +kernel
theorem dX7_init_28 : decode cX7_init 28 = .ok (.aload_n 0, 1) := by decide +kernel
theorem dX7_init_29 : decode cX7_init 29 = .ok (.bipush 6, 2) := by decide +kernel
theorem dX7_init_31 : decode cX7_init 31 = .ok (.newarray .int, 2) := by decide +kernel
theorem dX7_init_33 : decode cX7_init 33 = .ok (.putfield 21, 3) := by decide +kernel
theorem dX7_init_36 : decode cX7_init 36 = .ok (.aload_n 0, 1) := by decide +kernel
theorem dX7_init_37 : decode cX7_init 37 = .ok (.bipush 6, 2) := by decide +kernel
theorem dX7_init_39 : decode cX7_init 39 = .ok (.newarray .int, 2) := by decide +kernel
theorem dX7_init_41 : decode cX7_init 41 = .ok (.putfield 24, 3) := by decide +kernel
theorem dX7_init_44 : decode cX7_init 44 = .ok (.aload_n 0, 1) := by decide +kernel
theorem dX7_init_45 : decode cX7_init 45 = .ok (.bipush 6, 2) := by decide +kernel
theorem dX7_init_47 : decode cX7_init 47 = .ok (.newarray .int, 2) := by decide +kernel
theorem dX7_init_49 : decode cX7_init 49 = .ok (.putfield 27, 3) := by decide +kernel
theorem dX7_init_52 : decode cX7_init 52 = .ok (.aload_n 0, 1) := by decide +kernel
theorem dX7_init_53 : decode cX7_init 53 = .ok (.bipush 7, 2) := by decide +kernel
theorem dX7_init_55 : decode cX7_init 55 = .ok (.sipush 149, 3) := by decide +kernel
theorem dX7_init_58 : decode cX7_init 58 = .ok (.multianewarray 30 2, 4) := by decide +kernel
theorem dX7_init_62 : decode cX7_init 62 = .ok (.putfield 32, 3) := by decide +kernel
theorem dX7_init_65 : decode cX7_init 65 = .ok (.return_, 1) := by decide +kernel
theorem dX7_fill_0 : decode cX7_fill 0 = .ok (.iconst 0, 1) := by decide +kernel
theorem dX7_fill_1 : decode cX7_fill 1 = .ok (.istore_n 3, 1) := by decide +kernel
theorem dX7_fill_2 : decode cX7_fill 2 = .ok (.iload_n 3, 1) := by decide +kernel
theorem dX7_fill_3 : decode cX7_fill 3 = .ok (.aload_n 1, 1) := by decide +kernel
theorem dX7_fill_4 : decode cX7_fill 4 = .ok (.getfield 35, 3) := by decide +kernel
theorem dX7_fill_7 : decode cX7_fill 7 = .ok (.if_icmp .ge 28, 3) := by decide +kernel
theorem dX7_fill_10 : decode cX7_fill 10 = .ok (.aload_n 0, 1) := by decide +kernel
theorem dX7_fill_11 : decode cX7_fill 11 = .ok (.getfield 9, 3) := by decide +kernel
theorem dX7_fill_14 : decode cX7_fill 14 = .ok (.iload_n 3, 1) := by decide +kernel
theorem dX7_fill_15 : decode cX7_fill 15 = .ok (.aload_n 1, 1) := by decide +kernel
theorem dX7_fill_16 : decode cX7_fill 16 = .ok (.getfield 41, 3) := by decide +kernel
theorem dX7_fill_19 : decode cX7_fill 19 = .ok (.iload_n 3, 1) := by decide +kernel
theorem dX7_fill_20 : decode cX7_fill 20 = .ok (.aaload, 1) := by decide +kernel
theorem dX7_fill_21 : decode cX7_fill 21 = .ok (.iconst 0, 1) := by decide +kernel
theorem dX7_fill_22 : decode cX7_fill 22 = .ok (.iaload, 1) := by decide +kernel
theorem dX7_fill_23 : decode cX7_fill 23 = .ok (.iload_n 2, 1) := by decide +kernel
theorem dX7_fill_24 : decode cX7_fill 24 = .ok (.imul, 1) := by decide +kernel
theorem dX7_fill_25 : decode cX7_fill 25 = .ok (.bipush 10, 2) := by decide +kernel
theorem dX7_fill_27 : decode cX7_fill 27 = .ok (.idiv, 1) := by decide +kernel
theorem dX7_fill_28 : decode cX7_fill 28 = .ok (.iastore, 1) := by decide +kernel
theorem dX7_fill_29 : decode cX7_fill 29 = .ok (.iinc 3 1, 3) := by decide +kernel
theorem dX7_fill_32 : decode cX7_fill 32 = .ok (.goto (-30), 3) := by decide +kernel
theorem dX7_fill_35 : decode cX7_fill 35 = .ok (.return_, 1) := by decide +kernel
theorem dX7_mostMade_0 : decode cX7_mostMade 0 = .ok (.iconst 0, 1) := by decide +kernel
theorem dX7_mostMade_1 : decode cX7_mostMade 1 = .ok (.istore 4, 2) := by decide +kernel
theorem dX7_mostMade_3 : decode cX7_mostMade 3 = .ok (.iload_n 2, 1) := by decide +kernel
theorem dX7_mostMade_4 : decode cX7_mostMade 4 = .ok (.istore 5, 2) := by decide +kernel
theorem dX7_mostMade_6 : decode cX7_mostMade 6 = .ok (.iload 5, 2) := by decide +kernel
theorem dX7_mostMade_8 : decode cX7_mostMade 8 = .ok (.iload_n 3, 1) := by decide +kernel
theorem dX7_mostMade_9 : decode cX7_mostMade 9 = .ok (.if_icmp .gt 21, 3) := by decide +kernel
theorem dX7_mostMade_12 : decode cX7_mostMade 12 = .ok (.iload 4, 2) := by decide +kernel
theorem dX7_mostMade_14 : decode cX7_mostMade 14 = .ok (.aload_n 0, 1) := by decide +kernel
theorem dX7_mostMade_15 : decode cX7_mostMade 15 = .ok (.getfield 9, 3) := by decide +kernel
theorem dX7_mostMade_18 : decode cX7_mostMade 18 = .ok (.iload 5, 2) := by decide +kernel
theorem dX7_mostMade_20 : decode cX7_mostMade 20 = .ok (.iaload, 1) := by decide +kernel
theorem dX7_mostMade_21 : decode cX7_mostMade 21 = .ok (.iadd, 1) := by decide +kernel
theorem dX7_mostMade_22 : decode cX7_mostMade 22 = .ok (.istore 4, 2) := by decide +kernel
theorem dX7_mostMade_24 : decode cX7_mostMade 24 = .ok (.iinc 5 1, 3) := by decide +kernel
theorem dX7_mostMade_27 : decode cX7_mostMade 27 = .ok (.goto (-21), 3) := by decide +kernel
theorem dX7_mostMade_30 : decode cX7_mostMade 30 = .ok (.aload_n 0, 1) := by decide +kernel
theorem dX7_mostMade_31 : decode cX7_mostMade 31 = .ok (.getfield 32, 3) := by decide +kernel
theorem dX7_mostMade_34 : decode cX7_mostMade 34 = .ok (.iload_n 3, 1) := by decide +kernel
theorem dX7_mostMade_35 : decode cX7_mostMade 35 = .ok (.iconst 1, 1) := by decide +kernel
theorem dX7_mostMade_36 : decode cX7_mostMade 36 = .ok (.iadd, 1) := by decide +kernel
theorem dX7_mostMade_37 : decode cX7_mostMade 37 = .ok (.aaload, 1) := by decide +kernel
theorem dX7_mostMade_38 : decode cX7_mostMade 38 = .ok (.iconst 0, 1) := by decide +kernel
theorem dX7_mostMade_39 : decode cX7_mostMade 39 = .ok (.invokestatic 44, 3) := by decide +kernel
theorem dX7_mostMade_42 : decode cX7_mostMade 42 = .ok (.iload_n 3, 1) := by decide +kernel
theorem dX7_mostMade_43 : decode cX7_mostMade 43 = .ok (.istore 5, 2) := by decide +kernel
theorem dX7_mostMade_45 : decode cX7_mostMade 45 = .ok (.iload 5, 2) := by decide +kernel
theorem dX7_mostMade_47 : decode cX7_mostMade 47 = .ok (.iload_n 2, 1) := by decide +kernel
theorem dX7_mostMade_48 : decode cX7_mostMade 48 = .ok (.if_icmp .lt 99, 3) := by decide +kernel
theorem dX7_mostMade_51 : decode cX7_mostMade 51 = .ok (.iload 4, 2) := by decide +kernel
theorem dX7_mostMade_53 : decode cX7_mostMade 53 = .ok (.aload_n 0, 1) := by decide +kernel
theorem dX7_mostMade_54 : decode cX7_mostMade 54 = .ok (.getfield 9, 3) := by decide +kernel
theorem dX7_mostMade_57 : decode cX7_mostMade 57 = .ok (.iload 5, 2) := by decide +kernel
theorem dX7_mostMade_59 : decode cX7_mostMade 59 = .ok (.iaload, 1) := by decide +kernel
theorem dX7_mostMade_60 : decode cX7_mostMade 60 = .ok (.isub, 1) := by decide +kernel
theorem dX7_mostMade_61 : decode cX7_mostMade 61 = .ok (.istore 4, 2) := by decide +kernel
theorem dX7_mostMade_63 : decode cX7_mostMade 63 = .ok (.iconst 0, 1) := by decide +kernel
theorem dX7_mostMade_64 : decode cX7_mostMade 64 = .ok (.istore 6, 2) := by decide +kernel
theorem dX7_mostMade_66 : decode cX7_mostMade 66 = .ok (.iload 6, 2) := by decide +kernel
theorem dX7_mostMade_68 : decode cX7_mostMade 68 = .ok (.iload 4, 2) := by decide +kernel
theorem dX7_mostMade_70 : decode cX7_mostMade 70 = .ok (.if_icmp .gt 71, 3) := by decide +kernel
theorem dX7_mostMade_73 : decode cX7_mostMade 73 = .ok (.iload 6, 2) := by decide +kernel
theorem dX7_mostMade_75 : decode cX7_mostMade 75 = .ok (.aload_n 0, 1) := by decide +kernel
theorem dX7_mostMade_76 : decode cX7_mostMade 76 = .ok (.getfield 9, 3) := by decide +kernel
theorem dX7_mostMade_79 : decode cX7_mostMade 79 = .ok (.iload 5, 2) := by decide +kernel
theorem dX7_mostMade_81 : decode cX7_mostMade 81 = .ok (.iaload, 1) := by decide +kernel
theorem dX7_mostMade_82 : decode cX7_mostMade 82 = .ok (.iadd, 1) := by decide +kernel
theorem dX7_mostMade_83 : decode cX7_mostMade 83 = .ok (.istore 7, 2) := by decide +kernel
theorem dX7_mostMade_85 : decode cX7_mostMade 85 = .ok (.aload_n 0, 1) := by decide +kernel
theorem dX7_mostMade_86 : decode cX7_mostMade 86 = .ok (.aload_n 1, 1) := by decide +kernel
theorem dX7_mostMade_87 : decode cX7_mostMade 87 = .ok (.iload 5, 2) := by decide +kernel
theorem dX7_mostMade_89 : decode cX7_mostMade 89 = .ok (.iload 7, 2) := by decide +kernel
theorem dX7_mostMade_91 : decode cX7_mostMade 91 = .ok (.invokevirtual 50, 3) := by decide +kernel
theorem dX7_mostMade_94 : decode cX7_mostMade 94 = .ok (.istore 8, 2) := by decide +kernel
theorem dX7_mostMade_96 : decode cX7_mostMade 96 = .ok (.aload_n 0, 1) := by decide +kernel
theorem dX7_mostMade_97 : decode cX7_mostMade 97 = .ok (.getfield 32, 3) := by decide +kernel
theorem dX7_mostMade_100 : decode cX7_mostMade 100 = .ok (.iload 5, 2) := by decide +kernel
theorem dX7_mostMade_102 : decode cX7_mostMade 102 = .ok (.aaload, 1) := by decide +kernel
theorem dX7_mostMade_103 : decode cX7_mostMade 103 = .ok (.iload 6, 2) := by decide +kernel
theorem dX7_mostMade_105 : decode cX7_mostMade 105 = .ok (.aload_n 1, 1) := by decide +kernel
theorem dX7_mostMade_106 : decode cX7_mostMade 106 = .ok (.iload 5, 2) := by decide +kernel
theorem dX7_mostMade_108 : decode cX7_mostMade 108 = .ok (.iload 8, 2) := by decide +kernel
theorem dX7_mostMade_110 : decode cX7_mostMade 110 = .ok (.iload 7, 2) := by decide +kernel
theorem dX7_mostMade_112 : decode cX7_mostMade 112 = .ok (.iload 8, 2) := by decide +kernel
theorem dX7_mostMade_114 : decode cX7_mostMade 114 = .ok (.isub, 1) := by decide +kernel
theorem dX7_mostMade_115 : decode cX7_mostMade 115 = .ok (.invokevirtual 54, 3) := by decide +kernel
theorem dX7_mostMade_118 : decode cX7_mostMade 118 = .ok (.aload_n 0, 1) := by decide +kernel
theorem dX7_mostMade_119 : decode cX7_mostMade 119 = .ok (.getfield 32, 3) := by decide +kernel
theorem dX7_mostMade_122 : decode cX7_mostMade 122 = .ok (.iload 5, 2) := by decide +kernel
theorem dX7_mostMade_124 : decode cX7_mostMade 124 = .ok (.iconst 1, 1) := by decide +kernel
theorem dX7_mostMade_125 : decode cX7_mostMade 125 = .ok (.iadd, 1) := by decide +kernel
theorem dX7_mostMade_126 : decode cX7_mostMade 126 = .ok (.aaload, 1) := by decide +kernel
theorem dX7_mostMade_127 : decode cX7_mostMade 127 = .ok (.iload 7, 2) := by decide +kernel
theorem dX7_mostMade_129 : decode cX7_mostMade 129 = .ok (.iload 8, 2) := by decide +kernel
theorem dX7_mostMade_131 : decode cX7_mostMade 131 = .ok (.isub, 1) := by decide +kernel
theorem dX7_mostMade_132 : decode cX7_mostMade 132 = .ok (.iaload, 1) := by decide +kernel
theorem dX7_mostMade_133 : decode cX7_mostMade 133 = .ok (.iadd, 1) := by decide +kernel
theorem dX7_mostMade_134 : decode cX7_mostMade 134 = .ok (.iastore, 1) := by decide +kernel
theorem dX7_mostMade_135 : decode cX7_mostMade 135 = .ok (.iinc 6 1, 3) := by decide +kernel
theorem dX7_mostMade_138 : decode cX7_mostMade 138 = .ok (.goto (-72), 3) := by decide +kernel
theorem dX7_mostMade_141 : decode cX7_mostMade 141 = .ok (.iinc 5 (-1), 3) := by decide +kernel
theorem dX7_mostMade_144 : decode cX7_mostMade 144 = .ok (.goto (-99), 3) := by decide +kernel
theorem dX7_mostMade_147 : decode cX7_mostMade 147 = .ok (.aload_n 0, 1) := by decide +kernel
theorem dX7_mostMade_148 : decode cX7_mostMade 148 = .ok (.getfield 32, 3) := by decide +kernel
theorem dX7_mostMade_151 : decode cX7_mostMade 151 = .ok (.iload_n 2, 1) := by decide +kernel
theorem dX7_mostMade_152 : decode cX7_mostMade 152 = .ok (.aaload, 1) := by decide +kernel
theorem dX7_mostMade_153 : decode cX7_mostMade 153 = .ok (.iconst 0, 1) := by decide +kernel
theorem dX7_mostMade_154 : decode cX7_mostMade 154 = .ok (.iaload, 1) := by decide +kernel
theorem dX7_mostMade_155 : decode cX7_mostMade 155 = .ok (.ireturn, 1) := by decide +kernel
theorem dX7_leastBestUse_0 : decode cX7_leastBestUse 0 = .ok (.iconst 0, 1) := by decide +kernel
theorem dX7_leastBestUse_1 : decode cX7_leastBestUse 1 = .ok (.istore 4, 2) := by decide +kernel
theorem dX7_leastBestUse_3 : decode cX7_leastBestUse 3 = .ok (.aload_n 1, 1) := by decide +kernel
theorem dX7_leastBestUse_4 : decode cX7_leastBestUse 4 = .ok (.iload_n 2, 1) := by decide +kernel
theorem dX7_leastBestUse_5 : decode cX7_leastBestUse 5 = .ok (.iconst 0, 1) := by decide +kernel
theorem dX7_leastBestUse_6 : decode cX7_leastBestUse 6 = .ok (.iload_n 3, 1) := by decide +kernel
theorem dX7_leastBestUse_7 : decode cX7_leastBestUse 7 = .ok (.invokevirtual 54, 3) := by decide +kernel
theorem dX7_leastBestUse_10 : decode cX7_leastBestUse 10 = .ok (.aload_n 0, 1) := by decide +kernel
theorem dX7_leastBestUse_11 : decode cX7_leastBestUse 11 = .ok (.getfield 32, 3) := by decide +kernel
theorem dX7_leastBestUse_14 : decode cX7_leastBestUse 14 = .ok (.iload_n 2, 1) := by decide +kernel
theorem dX7_leastBestUse_15 : decode cX7_leastBestUse 15 = .ok (.iconst 1, 1) := by decide +kernel
theorem dX7_leastBestUse_16 : decode cX7_leastBestUse 16 = .ok (.iadd, 1) := by decide +kernel
theorem dX7_leastBestUse_17 : decode cX7_leastBestUse 17 = .ok (.aaload, 1) := by decide +kernel
theorem dX7_leastBestUse_18 : decode cX7_leastBestUse 18 = .ok (.iload_n 3, 1) := by decide +kernel
theorem dX7_leastBestUse_19 : decode cX7_leastBestUse 19 = .ok (.iaload, 1) := by decide +kernel
theorem dX7_leastBestUse_20 : decode cX7_leastBestUse 20 = .ok (.iadd, 1) := by decide +kernel
theorem dX7_leastBestUse_21 : decode cX7_leastBestUse 21 = .ok (.istore 5, 2) := by decide +kernel
theorem dX7_leastBestUse_23 : decode cX7_leastBestUse 23 = .ok (.iconst 1, 1) := by decide +kernel
theorem dX7_leastBestUse_24 : decode cX7_leastBestUse 24 = .ok (.istore 6, 2) := by decide +kernel
theorem dX7_leastBestUse_26 : decode cX7_leastBestUse 26 = .ok (.iload 6, 2) := by decide +kernel
theorem dX7_leastBestUse_28 : decode cX7_leastBestUse 28 = .ok (.iload_n 3, 1) := by decide +kernel
theorem dX7_leastBestUse_29 : decode cX7_leastBestUse 29 = .ok (.if_icmp .gt 58, 3) := by decide +kernel
theorem dX7_leastBestUse_32 : decode cX7_leastBestUse 32 = .ok (.iload 6, 2) := by decide +kernel
theorem dX7_leastBestUse_34 : decode cX7_leastBestUse 34 = .ok (.bipush 12, 2) := by decide +kernel
theorem dX7_leastBestUse_36 : decode cX7_leastBestUse 36 = .ok (.if_icmp .gt 51, 3) := by decide +kernel
theorem dX7_leastBestUse_39 : decode cX7_leastBestUse 39 = .ok (.aload_n 1, 1) := by decide +kernel
theorem dX7_leastBestUse_40 : decode cX7_leastBestUse 40 = .ok (.iload_n 2, 1) := by decide +kernel
theorem dX7_leastBestUse_41 : decode cX7_leastBestUse 41 = .ok (.iload 6, 2) := by decide +kernel
theorem dX7_leastBestUse_43 : decode cX7_leastBestUse 43 = .ok (.iload_n 3, 1) := by decide +kernel
theorem dX7_leastBestUse_44 : decode cX7_leastBestUse 44 = .ok (.iload 6, 2) := by decide +kernel
theorem dX7_leastBestUse_46 : decode cX7_leastBestUse 46 = .ok (.isub, 1) := by decide +kernel
theorem dX7_leastBestUse_47 : decode cX7_leastBestUse 47 = .ok (.invokevirtual 54, 3) := by decide +kernel
theorem dX7_leastBestUse_50 : decode cX7_leastBestUse 50 = .ok (.aload_n 0, 1) := by decide +kernel
theorem dX7_leastBestUse_51 : decode cX7_leastBestUse 51 = .ok (.getfield 32, 3) := by decide +kernel
theorem dX7_leastBestUse_54 : decode cX7_leastBestUse 54 = .ok (.iload_n 2, 1) := by decide +kernel
theorem dX7_leastBestUse_55 : decode cX7_leastBestUse 55 = .ok (.iconst 1, 1) := by decide +kernel
theorem dX7_leastBestUse_56 : decode cX7_leastBestUse 56 = .ok (.iadd, 1) := by decide +kernel
theorem dX7_leastBestUse_57 : decode cX7_leastBestUse 57 = .ok (.aaload, 1) := by decide +kernel
theorem dX7_leastBestUse_58 : decode cX7_leastBestUse 58 = .ok (.iload_n 3, 1) := by decide +kernel
theorem dX7_leastBestUse_59 : decode cX7_leastBestUse 59 = .ok (.iload 6, 2) := by decide +kernel
theorem dX7_leastBestUse_61 : decode cX7_leastBestUse 61 = .ok (.isub, 1) := by decide +kernel
theorem dX7_leastBestUse_62 : decode cX7_leastBestUse 62 = .ok (.iaload, 1) := by decide +kernel
theorem dX7_leastBestUse_63 : decode cX7_leastBestUse 63 = .ok (.iadd, 1) := by decide +kernel
theorem dX7_leastBestUse_64 : decode cX7_leastBestUse 64 = .ok (.istore 7, 2) := by decide +kernel
theorem dX7_leastBestUse_66 : decode cX7_leastBestUse 66 = .ok (.iload 7, 2) := by decide +kernel
theorem dX7_leastBestUse_68 : decode cX7_leastBestUse 68 = .ok (.iload 5, 2) := by decide +kernel
theorem dX7_leastBestUse_70 : decode cX7_leastBestUse 70 = .ok (.if_icmp .le 11, 3) := by decide +kernel
theorem dX7_leastBestUse_73 : decode cX7_leastBestUse 73 = .ok (.iload 7, 2) := by decide +kernel
theorem dX7_leastBestUse_75 : decode cX7_leastBestUse 75 = .ok (.istore 5, 2) := by decide +kernel
theorem dX7_leastBestUse_77 : decode cX7_leastBestUse 77 = .ok (.iload 6, 2) := by decide +kernel
theorem dX7_leastBestUse_79 : decode cX7_leastBestUse 79 = .ok (.istore 4, 2) := by decide +kernel
theorem dX7_leastBestUse_81 : decode cX7_leastBestUse 81 = .ok (.iinc 6 1, 3) := by decide +kernel
theorem dX7_leastBestUse_84 : decode cX7_leastBestUse 84 = .ok (.goto (-58), 3) := by decide +kernel
theorem dX7_leastBestUse_87 : decode cX7_leastBestUse 87 = .ok (.iload 4, 2) := by decide +kernel
theorem dX7_leastBestUse_89 : decode cX7_leastBestUse 89 = .ok (.ireturn, 1) := by decide +kernel
theorem dX7_followBest_0 : decode cX7_followBest 0 = .ok (.aload_n 0, 1) := by decide +kernel
theorem dX7_followBest_1 : decode cX7_followBest 1 = .ok (.aload_n 1, 1) := by decide +kernel
theorem dX7_followBest_2 : decode cX7_followBest 2 = .ok (.iload_n 2, 1) := by decide +kernel
theorem dX7_followBest_3 : decode cX7_followBest 3 = .ok (.invokevirtual 58, 3) := by decide +kernel
theorem dX7_followBest_6 : decode cX7_followBest 6 = .ok (.aload_n 0, 1) := by decide +kernel
theorem dX7_followBest_7 : decode cX7_followBest 7 = .ok (.aload_n 1, 1) := by decide +kernel
theorem dX7_followBest_8 : decode cX7_followBest 8 = .ok (.iconst 0, 1) := by decide +kernel
theorem dX7_followBest_9 : decode cX7_followBest 9 = .ok (.aload_n 1, 1) := by decide +kernel
theorem dX7_followBest_10 : decode cX7_followBest 10 = .ok (.getfield 35, 3) := by decide +kernel
theorem dX7_followBest_13 : decode cX7_followBest 13 = .ok (.iconst 1, 1) := by decide +kernel
theorem dX7_followBest_14 : decode cX7_followBest 14 = .ok (.isub, 1) := by decide +kernel
theorem dX7_followBest_15 : decode cX7_followBest 15 = .ok (.invokevirtual 61, 3) := by decide +kernel
theorem dX7_followBest_18 : decode cX7_followBest 18 = .ok (.pop, 1) := by decide +kernel
theorem dX7_followBest_19 : decode cX7_followBest 19 = .ok (.iconst 0, 1) := by decide +kernel
theorem dX7_followBest_20 : decode cX7_followBest 20 = .ok (.istore_n 3, 1) := by decide +kernel
theorem dX7_followBest_21 : decode cX7_followBest 21 = .ok (.iconst 0, 1) := by decide +kernel
theorem dX7_followBest_22 : decode cX7_followBest 22 = .ok (.istore 4, 2) := by decide +kernel
theorem dX7_followBest_24 : decode cX7_followBest 24 = .ok (.iload 4, 2) := by decide +kernel
theorem dX7_followBest_26 : decode cX7_followBest 26 = .ok (.aload_n 1, 1) := by decide +kernel
theorem dX7_followBest_27 : decode cX7_followBest 27 = .ok (.getfield 35, 3) := by decide +kernel
theorem dX7_followBest_30 : decode cX7_followBest 30 = .ok (.if_icmp .ge 54, 3) := by decide +kernel
theorem dX7_followBest_33 : decode cX7_followBest 33 = .ok (.aload_n 0, 1) := by decide +kernel
theorem dX7_followBest_34 : decode cX7_followBest 34 = .ok (.getfield 15, 3) := by decide +kernel
theorem dX7_followBest_37 : decode cX7_followBest 37 = .ok (.iload 4, 2) := by decide +kernel
theorem dX7_followBest_39 : decode cX7_followBest 39 = .ok (.iload_n 3, 1) := by decide +kernel
theorem dX7_followBest_40 : decode cX7_followBest 40 = .ok (.aload_n 0, 1) := by decide +kernel
theorem dX7_followBest_41 : decode cX7_followBest 41 = .ok (.getfield 9, 3) := by decide +kernel
theorem dX7_followBest_44 : decode cX7_followBest 44 = .ok (.iload 4, 2) := by decide +kernel
theorem dX7_followBest_46 : decode cX7_followBest 46 = .ok (.iaload, 1) := by decide +kernel
theorem dX7_followBest_47 : decode cX7_followBest 47 = .ok (.iadd, 1) := by decide +kernel
theorem dX7_followBest_48 : decode cX7_followBest 48 = .ok (.iastore, 1) := by decide +kernel
theorem dX7_followBest_49 : decode cX7_followBest 49 = .ok (.aload_n 0, 1) := by decide +kernel
theorem dX7_followBest_50 : decode cX7_followBest 50 = .ok (.aload_n 1, 1) := by decide +kernel
theorem dX7_followBest_51 : decode cX7_followBest 51 = .ok (.iload 4, 2) := by decide +kernel
theorem dX7_followBest_53 : decode cX7_followBest 53 = .ok (.aload_n 0, 1) := by decide +kernel
theorem dX7_followBest_54 : decode cX7_followBest 54 = .ok (.aload_n 1, 1) := by decide +kernel
theorem dX7_followBest_55 : decode cX7_followBest 55 = .ok (.iload 4, 2) := by decide +kernel
theorem dX7_followBest_57 : decode cX7_followBest 57 = .ok (.aload_n 0, 1) := by decide +kernel
theorem dX7_followBest_58 : decode cX7_followBest 58 = .ok (.getfield 15, 3) := by decide +kernel
theorem dX7_followBest_61 : decode cX7_followBest 61 = .ok (.iload 4, 2) := by decide +kernel
theorem dX7_followBest_63 : decode cX7_followBest 63 = .ok (.iaload, 1) := by decide +kernel
theorem dX7_followBest_64 : decode cX7_followBest 64 = .ok (.invokevirtual 50, 3) := by decide +kernel
theorem dX7_followBest_67 : decode cX7_followBest 67 = .ok (.invokevirtual 64, 3) := by decide +kernel
theorem dX7_followBest_70 : decode cX7_followBest 70 = .ok (.aload_n 0, 1) := by decide +kernel
theorem dX7_followBest_71 : decode cX7_followBest 71 = .ok (.getfield 24, 3) := by decide +kernel
theorem dX7_followBest_74 : decode cX7_followBest 74 = .ok (.iload 4, 2) := by decide +kernel
theorem dX7_followBest_76 : decode cX7_followBest 76 = .ok (.iaload, 1) := by decide +kernel
theorem dX7_followBest_77 : decode cX7_followBest 77 = .ok (.istore_n 3, 1) := by decide +kernel
theorem dX7_followBest_78 : decode cX7_followBest 78 = .ok (.iinc 4 1, 3) := by decide +kernel
theorem dX7_followBest_81 : decode cX7_followBest 81 = .ok (.goto (-57), 3) := by decide +kernel
theorem dX7_followBest_84 : decode cX7_followBest 84 = .ok (.return_, 1) := by decide +kernel
theorem dX7_follow_0 : decode cX7_follow 0 = .ok (.aload_n 0, 1) := by decide +kernel
theorem dX7_follow_1 : decode cX7_follow 1 = .ok (.aload_n 1, 1) := by decide +kernel
theorem dX7_follow_2 : decode cX7_follow 2 = .ok (.iload_n 2, 1) := by decide +kernel
theorem dX7_follow_3 : decode cX7_follow 3 = .ok (.invokevirtual 58, 3) := by decide +kernel
theorem dX7_follow_6 : decode cX7_follow 6 = .ok (.iconst 0, 1) := by decide +kernel
theorem dX7_follow_7 : decode cX7_follow 7 = .ok (.istore 4, 2) := by decide +kernel
theorem dX7_follow_9 : decode cX7_follow 9 = .ok (.iconst 0, 1) := by decide +kernel
theorem dX7_follow_10 : decode cX7_follow 10 = .ok (.istore 5, 2) := by decide +kernel
theorem dX7_follow_12 : decode cX7_follow 12 = .ok (.iconst 0, 1) := by decide +kernel
theorem dX7_follow_13 : decode cX7_follow 13 = .ok (.istore 6, 2) := by decide +kernel
theorem dX7_follow_15 : decode cX7_follow 15 = .ok (.iload 6, 2) := by decide +kernel
theorem dX7_follow_17 : decode cX7_follow 17 = .ok (.aload_n 1, 1) := by decide +kernel
theorem dX7_follow_18 : decode cX7_follow 18 = .ok (.getfield 35, 3) := by decide +kernel
theorem dX7_follow_21 : decode cX7_follow 21 = .ok (.if_icmp .ge 130, 3) := by decide +kernel
theorem dX7_follow_24 : decode cX7_follow 24 = .ok (.aload_n 0, 1) := by decide +kernel
theorem dX7_follow_25 : decode cX7_follow 25 = .ok (.getfield 15, 3) := by decide +kernel
theorem dX7_follow_28 : decode cX7_follow 28 = .ok (.iload 6, 2) := by decide +kernel
theorem dX7_follow_30 : decode cX7_follow 30 = .ok (.iload 4, 2) := by decide +kernel
theorem dX7_follow_32 : decode cX7_follow 32 = .ok (.aload_n 0, 1) := by decide +kernel
theorem dX7_follow_33 : decode cX7_follow 33 = .ok (.getfield 9, 3) := by decide +kernel
theorem dX7_follow_36 : decode cX7_follow 36 = .ok (.iload 6, 2) := by decide +kernel
theorem dX7_follow_38 : decode cX7_follow 38 = .ok (.iaload, 1) := by decide +kernel
theorem dX7_follow_39 : decode cX7_follow 39 = .ok (.iadd, 1) := by decide +kernel
theorem dX7_follow_40 : decode cX7_follow 40 = .ok (.iastore, 1) := by decide +kernel
theorem dX7_follow_41 : decode cX7_follow 41 = .ok (.iload_n 3, 1) := by decide +kernel
theorem dX7_follow_42 : decode cX7_follow 42 = .ok (.istore 7, 2) := by decide +kernel
theorem dX7_follow_44 : decode cX7_follow 44 = .ok (.iload_n 3, 1) := by decide +kernel
theorem dX7_follow_45 : decode cX7_follow 45 = .ok (.iconst (-1), 1) := by decide +kernel
theorem dX7_follow_46 : decode cX7_follow 46 = .ok (.if_icmp .ne 31, 3) := by decide +kernel
theorem dX7_follow_49 : decode cX7_follow 49 = .ok (.aload_n 1, 1) := by decide +kernel
theorem dX7_follow_50 : decode cX7_follow 50 = .ok (.getfield 68, 3) := by decide +kernel
theorem dX7_follow_53 : decode cX7_follow 53 = .ok (.iload 6, 2) := by decide +kernel
theorem dX7_follow_55 : decode cX7_follow 55 = .ok (.iload_n 2, 1) := by decide +kernel
theorem dX7_follow_56 : decode cX7_follow 56 = .ok (.aload_n 0, 1) := by decide +kernel
theorem dX7_follow_57 : decode cX7_follow 57 = .ok (.getfield 15, 3) := by decide +kernel
theorem dX7_follow_60 : decode cX7_follow 60 = .ok (.iload 6, 2) := by decide +kernel
theorem dX7_follow_62 : decode cX7_follow 62 = .ok (.iaload, 1) := by decide +kernel
theorem dX7_follow_63 : decode cX7_follow 63 = .ok (.aload_n 1, 1) := by decide +kernel
theorem dX7_follow_64 : decode cX7_follow 64 = .ok (.getfield 41, 3) := by decide +kernel
theorem dX7_follow_67 : decode cX7_follow 67 = .ok (.iload 6, 2) := by decide +kernel
theorem dX7_follow_69 : decode cX7_follow 69 = .ok (.aaload, 1) := by decide +kernel
theorem dX7_follow_70 : decode cX7_follow 70 = .ok (.iconst 0, 1) := by decide +kernel
theorem dX7_follow_71 : decode cX7_follow 71 = .ok (.iaload, 1) := by decide +kernel
theorem dX7_follow_72 : decode cX7_follow 72 = .ok (.invokevirtual 72, 3) := by decide +kernel
theorem dX7_follow_75 : decode cX7_follow 75 = .ok (.istore 7, 2) := by decide +kernel
theorem dX7_follow_77 : decode cX7_follow 77 = .ok (.aload_n 0, 1) := by decide +kernel
theorem dX7_follow_78 : decode cX7_follow 78 = .ok (.getfield 18, 3) := by decide +kernel
theorem dX7_follow_81 : decode cX7_follow 81 = .ok (.iload 6, 2) := by decide +kernel
theorem dX7_follow_83 : decode cX7_follow 83 = .ok (.iload 7, 2) := by decide +kernel
theorem dX7_follow_85 : decode cX7_follow 85 = .ok (.aload_n 0, 1) := by decide +kernel
theorem dX7_follow_86 : decode cX7_follow 86 = .ok (.getfield 15, 3) := by decide +kernel
theorem dX7_follow_89 : decode cX7_follow 89 = .ok (.iload 6, 2) := by decide +kernel
theorem dX7_follow_91 : decode cX7_follow 91 = .ok (.iaload, 1) := by decide +kernel
theorem dX7_follow_92 : decode cX7_follow 92 = .ok (.invokestatic 78, 3) := by decide +kernel
theorem dX7_follow_95 : decode cX7_follow 95 = .ok (.iastore, 1) := by decide +kernel
theorem dX7_follow_96 : decode cX7_follow 96 = .ok (.aload_n 0, 1) := by decide +kernel
theorem dX7_follow_97 : decode cX7_follow 97 = .ok (.aload_n 1, 1) := by decide +kernel
theorem dX7_follow_98 : decode cX7_follow 98 = .ok (.iload 6, 2) := by decide +kernel
theorem dX7_follow_100 : decode cX7_follow 100 = .ok (.aload_n 1, 1) := by decide +kernel
theorem dX7_follow_101 : decode cX7_follow 101 = .ok (.iload 6, 2) := by decide +kernel
theorem dX7_follow_103 : decode cX7_follow 103 = .ok (.aload_n 0, 1) := by decide +kernel
theorem dX7_follow_104 : decode cX7_follow 104 = .ok (.getfield 15, 3) := by decide +kernel
theorem dX7_follow_107 : decode cX7_follow 107 = .ok (.iload 6, 2) := by decide +kernel
theorem dX7_follow_109 : decode cX7_follow 109 = .ok (.iaload, 1) := by decide +kernel
theorem dX7_follow_110 : decode cX7_follow 110 = .ok (.aload_n 0, 1) := by decide +kernel
theorem dX7_follow_111 : decode cX7_follow 111 = .ok (.getfield 18, 3) := by decide +kernel
theorem dX7_follow_114 : decode cX7_follow 114 = .ok (.iload 6, 2) := by decide +kernel
theorem dX7_follow_116 : decode cX7_follow 116 = .ok (.iaload, 1) := by decide +kernel
theorem dX7_follow_117 : decode cX7_follow 117 = .ok (.isub, 1) := by decide +kernel
theorem dX7_follow_118 : decode cX7_follow 118 = .ok (.invokevirtual 84, 3) := by decide +kernel
theorem dX7_follow_121 : decode cX7_follow 121 = .ok (.invokevirtual 64, 3) := by decide +kernel
theorem dX7_follow_124 : decode cX7_follow 124 = .ok (.aload_n 0, 1) := by decide +kernel
theorem dX7_follow_125 : decode cX7_follow 125 = .ok (.getfield 24, 3) := by decide +kernel
theorem dX7_follow_128 : decode cX7_follow 128 = .ok (.iload 6, 2) := by decide +kernel
theorem dX7_follow_130 : decode cX7_follow 130 = .ok (.iaload, 1) := by decide +kernel
theorem dX7_follow_131 : decode cX7_follow 131 = .ok (.istore 4, 2) := by decide +kernel
theorem dX7_follow_133 : decode cX7_follow 133 = .ok (.iload 5, 2) := by decide +kernel
theorem dX7_follow_135 : decode cX7_follow 135 = .ok (.aload_n 0, 1) := by decide +kernel
theorem dX7_follow_136 : decode cX7_follow 136 = .ok (.getfield 27, 3) := by decide +kernel
theorem dX7_follow_139 : decode cX7_follow 139 = .ok (.iload 6, 2) := by decide +kernel
theorem dX7_follow_141 : decode cX7_follow 141 = .ok (.iaload, 1) := by decide +kernel
theorem dX7_follow_142 : decode cX7_follow 142 = .ok (.iadd, 1) := by decide +kernel
theorem dX7_follow_143 : decode cX7_follow 143 = .ok (.istore 5, 2) := by decide +kernel
theorem dX7_follow_145 : decode cX7_follow 145 = .ok (.iinc 6 1, 3) := by decide +kernel
theorem dX7_follow_148 : decode cX7_follow 148 = .ok (.goto (-133), 3) := by decide +kernel
theorem dX7_follow_151 : decode cX7_follow 151 = .ok (.iload 5, 2) := by decide +kernel
theorem dX7_follow_153 : decode cX7_follow 153 = .ok (.ireturn, 1) := by decide +kernel
theorem dX7_settle_0 : decode cX7_settle 0 = .ok (.aload_n 0, 1) := by decide +kernel
theorem dX7_settle_1 : decode cX7_settle 1 = .ok (.getfield 21, 3) := by decide +kernel
theorem dX7_settle_4 : decode cX7_settle 4 = .ok (.iload_n 2, 1) := by decide +kernel
theorem dX7_settle_5 : decode cX7_settle 5 = .ok (.iload_n 3, 1) := by decide +kernel
theorem dX7_settle_6 : decode cX7_settle 6 = .ok (.iastore, 1) := by decide +kernel
theorem dX7_settle_7 : decode cX7_settle 7 = .ok (.aload_n 0, 1) := by decide +kernel
theorem dX7_settle_8 : decode cX7_settle 8 = .ok (.getfield 24, 3) := by decide +kernel
theorem dX7_settle_11 : decode cX7_settle 11 = .ok (.iload_n 2, 1) := by decide +kernel
theorem dX7_settle_12 : decode cX7_settle 12 = .ok (.aload_n 0, 1) := by decide +kernel
theorem dX7_settle_13 : decode cX7_settle 13 = .ok (.getfield 15, 3) := by decide +kernel
theorem dX7_settle_16 : decode cX7_settle 16 = .ok (.iload_n 2, 1) := by decide +kernel
theorem dX7_settle_17 : decode cX7_settle 17 = .ok (.iaload, 1) := by decide +kernel
theorem dX7_settle_18 : decode cX7_settle 18 = .ok (.iload_n 3, 1) := by decide +kernel
theorem dX7_settle_19 : decode cX7_settle 19 = .ok (.isub, 1) := by decide +kernel
theorem dX7_settle_20 : decode cX7_settle 20 = .ok (.iastore, 1) := by decide +kernel
theorem dX7_settle_21 : decode cX7_settle 21 = .ok (.aload_n 0, 1) := by decide +kernel
theorem dX7_settle_22 : decode cX7_settle 22 = .ok (.getfield 27, 3) := by decide +kernel
theorem dX7_settle_25 : decode cX7_settle 25 = .ok (.iload_n 2, 1) := by decide +kernel
theorem dX7_settle_26 : decode cX7_settle 26 = .ok (.aload_n 1, 1) := by decide +kernel
theorem dX7_settle_27 : decode cX7_settle 27 = .ok (.iload_n 2, 1) := by decide +kernel
theorem dX7_settle_28 : decode cX7_settle 28 = .ok (.iload_n 3, 1) := by decide +kernel
theorem dX7_settle_29 : decode cX7_settle 29 = .ok (.aload_n 0, 1) := by decide +kernel
theorem dX7_settle_30 : decode cX7_settle 30 = .ok (.getfield 24, 3) := by decide +kernel
theorem dX7_settle_33 : decode cX7_settle 33 = .ok (.iload_n 2, 1) := by decide +kernel
theorem dX7_settle_34 : decode cX7_settle 34 = .ok (.iaload, 1) := by decide +kernel
theorem dX7_settle_35 : decode cX7_settle 35 = .ok (.invokevirtual 54, 3) := by decide +kernel
theorem dX7_settle_38 : decode cX7_settle 38 = .ok (.iastore, 1) := by decide +kernel
theorem dX7_settle_39 : decode cX7_settle 39 = .ok (.return_, 1) := by decide +kernel
theorem dJ9_floorDiv_7cf53_0 : decode cJ9_floorDiv_7cf53 0 = .ok (.iload_n 0, 1) := by decide +kernel
theorem dJ9_floorDiv_7cf53_1 : decode cJ9_floorDiv_7cf53 1 = .ok (.iload_n 1, 1) := by decide +kernel
theorem dJ9_floorDiv_7cf53_2 : decode cJ9_floorDiv_7cf53 2 = .ok (.idiv, 1) := by decide +kernel
theorem dJ9_floorDiv_7cf53_3 : decode cJ9_floorDiv_7cf53 3 = .ok (.istore_n 2, 1) := by decide +kernel
theorem dJ9_floorDiv_7cf53_4 : decode cJ9_floorDiv_7cf53 4 = .ok (.iload_n 0, 1) := by decide +kernel
theorem dJ9_floorDiv_7cf53_5 : decode cJ9_floorDiv_7cf53 5 = .ok (.iload_n 1, 1) := by decide +kernel
theorem dJ9_floorDiv_7cf53_6 : decode cJ9_floorDiv_7cf53 6 = .ok (.ixor, 1) := by decide +kernel
theorem dJ9_floorDiv_7cf53_7 : decode cJ9_floorDiv_7cf53 7 = .ok (.ifCond .ge 14, 3) := by decide +kernel
theorem dJ9_floorDiv_7cf53_10 : decode cJ9_floorDiv_7cf53 10 = .ok (.iload_n 2, 1) := by decide +kernel
theorem dJ9_floorDiv_7cf53_11 : decode cJ9_floorDiv_7cf53 11 = .ok (.iload_n 1, 1) := by decide +kernel
theorem dJ9_floorDiv_7cf53_12 : decode cJ9_floorDiv_7cf53 12 = .ok (.imul, 1) := by decide +kernel
theorem dJ9_floorDiv_7cf53_13 : decode cJ9_floorDiv_7cf53 13 = .ok (.iload_n 0, 1) := by decide +kernel
theorem dJ9_floorDiv_7cf53_14 : decode cJ9_floorDiv_7cf53 14 = .ok (.if_icmp .eq 7, 3) := by decide +kernel
theorem dJ9_floorDiv_7cf53_17 : decode cJ9_floorDiv_7cf53 17 = .ok (.iload_n 2, 1) := by decide +kernel
theorem dJ9_floorDiv_7cf53_18 : decode cJ9_floorDiv_7cf53 18 = .ok (.iconst 1, 1) := by decide +kernel
theorem dJ9_floorDiv_7cf53_19 : decode cJ9_floorDiv_7cf53 19 = .ok (.isub, 1) := by decide +kernel
theorem dJ9_floorDiv_7cf53_20 : decode cJ9_floorDiv_7cf53 20 = .ok (.ireturn, 1) := by decide +kernel
theorem dJ9_floorDiv_7cf53_21 : decode cJ9_floorDiv_7cf53 21 = .ok (.iload_n 2, 1) := by decide +kernel
theorem dJ9_floorDiv_7cf53_22 : decode cJ9_floorDiv_7cf53 22 = .ok (.ireturn, 1) := by decide +kernel
theorem dJ9_floorMod_7cf53_0 : decode cJ9_floorMod_7cf53 0 = .ok (.iload_n 0, 1) := by decide +kernel
theorem dJ9_floorMod_7cf53_1 : decode cJ9_floorMod_7cf53 1 = .ok (.iload_n 1, 1) := by decide +kernel
theorem dJ9_floorMod_7cf53_2 : decode cJ9_floorMod_7cf53 2 = .ok (.irem, 1) := by decide +kernel
theorem dJ9_floorMod_7cf53_3 : decode cJ9_floorMod_7cf53 3 = .ok (.istore_n 2, 1) := by decide +kernel
theorem dJ9_floorMod_7cf53_4 : decode cJ9_floorMod_7cf53 4 = .ok (.iload_n 0, 1) := by decide +kernel
theorem dJ9_floorMod_7cf53_5 : decode cJ9_floorMod_7cf53 5 = .ok (.iload_n 1, 1) := by decide +kernel
theorem dJ9_floorMod_7cf53_6 : decode cJ9_floorMod_7cf53 6 = .ok (.ixor, 1) := by decide +kernel
theorem dJ9_floorMod_7cf53_7 : decode cJ9_floorMod_7cf53 7 = .ok (.ifCond .ge 11, 3) := by decide +kernel
theorem dJ9_floorMod_7cf53_10 : decode cJ9_floorMod_7cf53 10 = .ok (.iload_n 2, 1) := by decide +kernel
theorem dJ9_floorMod_7cf53_11 : decode cJ9_floorMod_7cf53 11 = .ok (.ifCond .eq 7, 3) := by decide +kernel
theorem dJ9_floorMod_7cf53_14 : decode cJ9_floorMod_7cf53 14 = .ok (.iload_n 2, 1) := by decide +kernel
theorem dJ9_floorMod_7cf53_15 : decode cJ9_floorMod_7cf53 15 = .ok (.iload_n 1, 1) := by decide +kernel
theorem dJ9_floorMod_7cf53_16 : decode cJ9_floorMod_7cf53 16 = .ok (.iadd, 1) := by decide +kernel
theorem dJ9_floorMod_7cf53_17 : decode cJ9_floorMod_7cf53 17 = .ok (.ireturn, 1) := by decide +kernel
theorem dJ9_floorMod_7cf53_18 : decode cJ9_floorMod_7cf53 18 = .ok (.iload_n 2, 1) := by decide +kernel
theorem dJ9_floorMod_7cf53_19 : decode cJ9_floorMod_7cf53 19 = .ok (.ireturn, 1) := by decide +kernel
theorem dJ9_max_7cf53_0 : decode cJ9_max_7cf53 0 = .ok (.iload_n 0, 1) := by decide +kernel
theorem dJ9_max_7cf53_1 : decode cJ9_max_7cf53 1 = .ok (.iload_n 1, 1) := by decide +kernel
theorem dJ9_max_7cf53_2 : decode cJ9_max_7cf53 2 = .ok (.if_icmp .lt 7, 3) := by decide +kernel
theorem dJ9_max_7cf53_5 : decode cJ9_max_7cf53 5 = .ok (.iload_n 0, 1) := by decide +kernel
theorem dJ9_max_7cf53_6 : decode cJ9_max_7cf53 6 = .ok (.goto 4, 3) := by decide +kernel
theorem dJ9_max_7cf53_9 : decode cJ9_max_7cf53 9 = .ok (.iload_n 1, 1) := by decide +kernel
theorem dJ9_max_7cf53_10 : decode cJ9_max_7cf53 10 = .ok (.ireturn, 1) := by decide +kernel
theorem dJ9_min_7cf53_0 : decode cJ9_min_7cf53 0 = .ok (.iload_n 0, 1) := by decide +kernel
theorem dJ9_min_7cf53_1 : decode cJ9_min_7cf53 1 = .ok (.iload_n 1, 1) := by decide +kernel
theorem dJ9_min_7cf53_2 : decode cJ9_min_7cf53 2 = .ok (.if_icmp .gt 7, 3) := by decide +kernel
theorem dJ9_min_7cf53_5 : decode cJ9_min_7cf53 5 = .ok (.iload_n 0, 1) := by decide +kernel
theorem dJ9_min_7cf53_6 : decode cJ9_min_7cf53 6 = .ok (.goto 4, 3) := by decide +kernel
theorem dJ9_min_7cf53_9 : decode cJ9_min_7cf53 9 = .ok (.iload_n 1, 1) := by decide +kernel
theorem dJ9_min_7cf53_10 : decode cJ9_min_7cf53 10 = .ok (.ireturn, 1) := by decide +kernel
theorem dJ0_length_8abf5_0 : decode cJ0_length_8abf5 0 = .ok (.aload_n 0, 1) := by decide +kernel
theorem dJ0_length_8abf5_1 : decode cJ0_length_8abf5 1 = .ok (.getfield 9, 3) := by decide +kernel
theorem dJ0_length_8abf5_4 : decode cJ0_length_8abf5 4 = .ok (.arraylength, 1) := by decide +kernel
theorem dJ0_length_8abf5_5 : decode cJ0_length_8abf5 5 = .ok (.aload_n 0, 1) := by decide +kernel
theorem dJ0_length_8abf5_6 : decode cJ0_length_8abf5 6 = .ok (.invokevirtual 335, 3) := by decide +kernel
theorem dJ0_length_8abf5_9 : decode cJ0_length_8abf5 9 = .ok (.ishr, 1) := by decide +kernel
theorem dJ0_length_8abf5_10 : decode cJ0_length_8abf5 10 = .ok (.ireturn, 1) := by decide +kernel
theorem dJ0_charAt_5068e_0 : decode cJ0_charAt_5068e 0 = .ok (.aload_n 0, 1) := by decide +kernel
theorem dJ0_charAt_5068e_1 : decode cJ0_charAt_5068e 1 = .ok (.invokevirtual 492, 3) := by decide +kernel
theorem dJ0_charAt_5068e_4 : decode cJ0_charAt_5068e 4 = .ok (.ifCond .eq 12, 3) := by decide +kernel
theorem dJ0_charAt_5068e_7 : decode cJ0_charAt_5068e 7 = .ok (.aload_n 0, 1) := by decide +kernel
theorem dJ0_charAt_5068e_8 : decode cJ0_charAt_5068e 8 = .ok (.getfield 9, 3) := by decide +kernel
theorem dJ0_charAt_5068e_11 : decode cJ0_charAt_5068e 11 = .ok (.iload_n 1, 1) := by decide +kernel
theorem dJ0_charAt_5068e_12 : decode cJ0_charAt_5068e 12 = .ok (.invokestatic 495, 3) := by decide +kernel
theorem dJ0_charAt_5068e_15 : decode cJ0_charAt_5068e 15 = .ok (.ireturn, 1) := by decide +kernel
theorem dJ0_charAt_5068e_16 : decode cJ0_charAt_5068e 16 = .ok (.aload_n 0, 1) := by decide +kernel
theorem dJ0_charAt_5068e_17 : decode cJ0_charAt_5068e 17 = .ok (.getfield 9, 3) := by decide +kernel
theorem dJ0_charAt_5068e_20 : decode cJ0_charAt_5068e 20 = .ok (.iload_n 1, 1) := by decide +kernel
theorem dJ0_charAt_5068e_21 : decode cJ0_charAt_5068e 21 = .ok (.invokestatic 498, 3) := by decide +kernel
theorem dJ0_charAt_5068e_24 : decode cJ0_charAt_5068e 24 = .ok (.ireturn, 1) := by decide +kernel
theorem dJ0_coder_7d493_0 : decode cJ0_coder_7d493 0 = .ok (.getstatic 38, 3) := by decide +kernel
theorem dJ0_coder_7d493_3 : decode cJ0_coder_7d493 3 = .ok (.ifCond .eq 10, 3) := by decide +kernel
theorem dJ0_coder_7d493_6 : decode cJ0_coder_7d493 6 = .ok (.aload_n 0, 1) := by decide +kernel
theorem dJ0_coder_7d493_7 : decode cJ0_coder_7d493 7 = .ok (.getfield 15, 3) := by decide +kernel
theorem dJ0_coder_7d493_10 : decode cJ0_coder_7d493 10 = .ok (.goto 4, 3) := by decide +kernel
theorem dJ0_coder_7d493_13 : decode cJ0_coder_7d493 13 = .ok (.iconst 1, 1) := by decide +kernel
theorem dJ0_coder_7d493_14 : decode cJ0_coder_7d493 14 = .ok (.ireturn, 1) := by decide +kernel
theorem dJ0_isLatin1_aae02_0 : decode cJ0_isLatin1_aae02 0 = .ok (.getstatic 38, 3) := by decide +kernel
theorem dJ0_isLatin1_aae02_3 : decode cJ0_isLatin1_aae02 3 = .ok (.ifCond .eq 14, 3) := by decide +kernel
theorem dJ0_isLatin1_aae02_6 : decode cJ0_isLatin1_aae02 6 = .ok (.aload_n 0, 1) := by decide +kernel
theorem dJ0_isLatin1_aae02_7 : decode cJ0_isLatin1_aae02 7 = .ok (.getfield 15, 3) := by decide +kernel
theorem dJ0_isLatin1_aae02_10 : decode cJ0_isLatin1_aae02 10 = .ok (.ifCond .ne 7, 3) := by decide +kernel
theorem dJ0_isLatin1_aae02_13 : decode cJ0_isLatin1_aae02 13 = .ok (.iconst 1, 1) := by decide +kernel
theorem dJ0_isLatin1_aae02_14 : decode cJ0_isLatin1_aae02 14 = .ok (.goto 4, 3) := by decide +kernel
theorem dJ0_isLatin1_aae02_17 : decode cJ0_isLatin1_aae02 17 = .ok (.iconst 0, 1) := by decide +kernel
theorem dJ0_isLatin1_aae02_18 : decode cJ0_isLatin1_aae02 18 = .ok (.ireturn, 1) := by decide +kernel
theorem dJ0_checkIndex_df160_0 : decode cJ0_checkIndex_df160 0 = .ok (.iload_n 0, 1) := by decide +kernel
theorem dJ0_checkIndex_df160_1 : decode cJ0_checkIndex_df160 1 = .ok (.iload_n 1, 1) := by decide +kernel
theorem dJ0_checkIndex_df160_2 : decode cJ0_checkIndex_df160 2 = .ok (.getstatic 1053, 3) := by decide +kernel
theorem dJ0_checkIndex_df160_5 : decode cJ0_checkIndex_df160 5 = .ok (.invokestatic 1059, 3) := by decide +kernel
theorem dJ0_checkIndex_df160_8 : decode cJ0_checkIndex_df160 8 = .ok (.pop, 1) := by decide +kernel
theorem dJ0_checkIndex_df160_9 : decode cJ0_checkIndex_df160 9 = .ok (.return_, 1) := by decide +kernel
theorem dJ1_charAt_3b067_0 : decode cJ1_charAt_3b067 0 = .ok (.iload_n 1, 1) := by decide +kernel
theorem dJ1_charAt_3b067_1 : decode cJ1_charAt_3b067 1 = .ok (.aload_n 0, 1) := by decide +kernel
theorem dJ1_charAt_3b067_2 : decode cJ1_charAt_3b067 2 = .ok (.arraylength, 1) := by decide +kernel
theorem dJ1_charAt_3b067_3 : decode cJ1_charAt_3b067 3 = .ok (.invokestatic 9, 3) := by decide +kernel
theorem dJ1_charAt_3b067_6 : decode cJ1_charAt_3b067 6 = .ok (.aload_n 0, 1) := by decide +kernel
theorem dJ1_charAt_3b067_7 : decode cJ1_charAt_3b067 7 = .ok (.iload_n 1, 1) := by decide +kernel
theorem dJ1_charAt_3b067_8 : decode cJ1_charAt_3b067 8 = .ok (.baload, 1) := by decide +kernel
theorem dJ1_charAt_3b067_9 : decode cJ1_charAt_3b067 9 = .ok (.sipush 255, 3) := by decide +kernel
theorem dJ1_charAt_3b067_12 : decode cJ1_charAt_3b067 12 = .ok (.iand, 1) := by decide +kernel
theorem dJ1_charAt_3b067_13 : decode cJ1_charAt_3b067 13 = .ok (.i2c, 1) := by decide +kernel
theorem dJ1_charAt_3b067_14 : decode cJ1_charAt_3b067 14 = .ok (.ireturn, 1) := by decide +kernel
theorem dJ2_getChar_3b067_0 : decode cJ2_getChar_3b067 0 = .ok (.getstatic 44, 3) := by decide +kernel
theorem dJ2_getChar_3b067_3 : decode cJ2_getChar_3b067 3 = .ok (.ifCond .ne 25, 3) := by decide +kernel
theorem dJ2_getChar_3b067_6 : decode cJ2_getChar_3b067 6 = .ok (.iload_n 1, 1) := by decide +kernel
theorem dJ2_getChar_3b067_7 : decode cJ2_getChar_3b067 7 = .ok (.ifCond .lt 11, 3) := by decide +kernel
theorem dJ2_getChar_3b067_10 : decode cJ2_getChar_3b067 10 = .ok (.iload_n 1, 1) := by decide +kernel
theorem dJ2_getChar_3b067_11 : decode cJ2_getChar_3b067 11 = .ok (.aload_n 0, 1) := by decide +kernel
theorem dJ2_getChar_3b067_12 : decode cJ2_getChar_3b067 12 = .ok (.invokestatic 48, 3) := by decide +kernel
theorem dJ2_getChar_3b067_15 : decode cJ2_getChar_3b067 15 = .ok (.if_icmp .lt 13, 3) := by decide +kernel
theorem dJ2_getChar_3b067_18 : decode cJ2_getChar_3b067 18 = .ok (.new 52, 3) := by decide +kernel
theorem dJ2_getChar_3b067_21 : decode cJ2_getChar_3b067 21 = .ok (.dup, 1) := by decide +kernel
theorem dJ2_getChar_3b067_22 : decode cJ2_getChar_3b067 22 = .ok (.ldc 54, 2) := by decide +kernel
theorem dJ2_getChar_3b067_24 : decode cJ2_getChar_3b067 24 = .ok (.invokespecial 56, 3) := by decide +kernel
theorem dJ2_getChar_3b067_27 : decode cJ2_getChar_3b067 27 = .ok (.athrow, 1) := by decide +kernel
theorem dJ2_getChar_3b067_28 : decode cJ2_getChar_3b067 28 = .ok (.iload_n 1, 1) := by decide +kernel
theorem dJ2_getChar_3b067_29 : decode cJ2_getChar_3b067 29 = .ok (.iconst 1, 1) := by decide +kernel
theorem dJ2_getChar_3b067_30 : decode cJ2_getChar_3b067 30 = .ok (.ishl, 1) := by decide +kernel
theorem dJ2_getChar_3b067_31 : decode cJ2_getChar_3b067 31 = .ok (.istore_n 1, 1) := by decide +kernel
theorem dJ2_getChar_3b067_32 : decode cJ2_getChar_3b067 32 = .ok (.aload_n 0, 1) := by decide +kernel
theorem dJ2_getChar_3b067_33 : decode cJ2_getChar_3b067 33 = .ok (.iload_n 1, 1) := by decide +kernel
theorem dJ2_getChar_3b067_34 : decode cJ2_getChar_3b067 34 = .ok (.iinc 1 1, 3) := by decide +kernel
theorem dJ2_getChar_3b067_37 : decode cJ2_getChar_3b067 37 = .ok (.baload, 1) := by decide +kernel
theorem dJ2_getChar_3b067_38 : decode cJ2_getChar_3b067 38 = .ok (.sipush 255, 3) := by decide +kernel
theorem dJ2_getChar_3b067_41 : decode cJ2_getChar_3b067 41 = .ok (.iand, 1) := by decide +kernel
theorem dJ2_getChar_3b067_42 : decode cJ2_getChar_3b067 42 = .ok (.getstatic 59, 3) := by decide +kernel
theorem dJ2_getChar_3b067_45 : decode cJ2_getChar_3b067 45 = .ok (.ishl, 1) := by decide +kernel
theorem dJ2_getChar_3b067_46 : decode cJ2_getChar_3b067 46 = .ok (.aload_n 0, 1) := by decide +kernel
theorem dJ2_getChar_3b067_47 : decode cJ2_getChar_3b067 47 = .ok (.iload_n 1, 1) := by decide +kernel
theorem dJ2_getChar_3b067_48 : decode cJ2_getChar_3b067 48 = .ok (.baload, 1) := by decide +kernel
theorem dJ2_getChar_3b067_49 : decode cJ2_getChar_3b067 49 = .ok (.sipush 255, 3) := by decide +kernel
theorem dJ2_getChar_3b067_52 : decode cJ2_getChar_3b067 52 = .ok (.iand, 1) := by decide +kernel
theorem dJ2_getChar_3b067_53 : decode cJ2_getChar_3b067 53 = .ok (.getstatic 63, 3) := by decide +kernel
theorem dJ2_getChar_3b067_56 : decode cJ2_getChar_3b067 56 = .ok (.ishl, 1) := by decide +kernel
theorem dJ2_getChar_3b067_57 : decode cJ2_getChar_3b067 57 = .ok (.ior, 1) := by decide +kernel
theorem dJ2_getChar_3b067_58 : decode cJ2_getChar_3b067 58 = .ok (.i2c, 1) := by decide +kernel
theorem dJ2_getChar_3b067_59 : decode cJ2_getChar_3b067 59 = .ok (.ireturn, 1) := by decide +kernel
theorem dJ2_length_9d52b_0 : decode cJ2_length_9d52b 0 = .ok (.aload_n 0, 1) := by decide +kernel
theorem dJ2_length_9d52b_1 : decode cJ2_length_9d52b 1 = .ok (.arraylength, 1) := by decide +kernel
theorem dJ2_length_9d52b_2 : decode cJ2_length_9d52b 2 = .ok (.iconst 1, 1) := by decide +kernel
theorem dJ2_length_9d52b_3 : decode cJ2_length_9d52b 3 = .ok (.ishr, 1) := by decide +kernel
theorem dJ2_length_9d52b_4 : decode cJ2_length_9d52b 4 = .ok (.ireturn, 1) := by decide +kernel
theorem dJ2_charAt_3b067_0 : decode cJ2_charAt_3b067 0 = .ok (.iload_n 1, 1) := by decide +kernel
theorem dJ2_charAt_3b067_1 : decode cJ2_charAt_3b067 1 = .ok (.aload_n 0, 1) := by decide +kernel
theorem dJ2_charAt_3b067_2 : decode cJ2_charAt_3b067 2 = .ok (.invokestatic 67, 3) := by decide +kernel
theorem dJ2_charAt_3b067_5 : decode cJ2_charAt_3b067 5 = .ok (.aload_n 0, 1) := by decide +kernel
theorem dJ2_charAt_3b067_6 : decode cJ2_charAt_3b067 6 = .ok (.iload_n 1, 1) := by decide +kernel
theorem dJ2_charAt_3b067_7 : decode cJ2_charAt_3b067 7 = .ok (.invokestatic 71, 3) := by decide +kernel
theorem dJ2_charAt_3b067_10 : decode cJ2_charAt_3b067 10 = .ok (.ireturn, 1) := by decide +kernel
theorem dJ2_checkIndex_2214a_0 : decode cJ2_checkIndex_2214a 0 = .ok (.iload_n 0, 1) := by decide +kernel
theorem dJ2_checkIndex_2214a_1 : decode cJ2_checkIndex_2214a 1 = .ok (.aload_n 1, 1) := by decide +kernel
theorem dJ2_checkIndex_2214a_2 : decode cJ2_checkIndex_2214a 2 = .ok (.invokestatic 48, 3) := by decide +kernel
theorem dJ2_checkIndex_2214a_5 : decode cJ2_checkIndex_2214a 5 = .ok (.invokestatic 414, 3) := by decide +kernel
theorem dJ2_checkIndex_2214a_8 : decode cJ2_checkIndex_2214a 8 = .ok (.return_, 1) := by decide +kernel
theorem dJ7_fill_53178_0 : decode cJ7_fill_53178 0 = .ok (.iconst 0, 1) := by decide +kernel
theorem dJ7_fill_53178_1 : decode cJ7_fill_53178 1 = .ok (.istore_n 2, 1) := by decide +kernel
theorem dJ7_fill_53178_2 : decode cJ7_fill_53178 2 = .ok (.aload_n 0, 1) := by decide +kernel
theorem dJ7_fill_53178_3 : decode cJ7_fill_53178 3 = .ok (.arraylength, 1) := by decide +kernel
theorem dJ7_fill_53178_4 : decode cJ7_fill_53178 4 = .ok (.istore_n 3, 1) := by decide +kernel
theorem dJ7_fill_53178_5 : decode cJ7_fill_53178 5 = .ok (.iload_n 2, 1) := by decide +kernel
theorem dJ7_fill_53178_6 : decode cJ7_fill_53178 6 = .ok (.iload_n 3, 1) := by decide +kernel
theorem dJ7_fill_53178_7 : decode cJ7_fill_53178 7 = .ok (.if_icmp .ge 13, 3) := by decide +kernel
theorem dJ7_fill_53178_10 : decode cJ7_fill_53178 10 = .ok (.aload_n 0, 1) := by decide +kernel
theorem dJ7_fill_53178_11 : decode cJ7_fill_53178 11 = .ok (.iload_n 2, 1) := by decide +kernel
theorem dJ7_fill_53178_12 : decode cJ7_fill_53178 12 = .ok (.iload_n 1, 1) := by decide +kernel
theorem dJ7_fill_53178_13 : decode cJ7_fill_53178 13 = .ok (.iastore, 1) := by decide +kernel
theorem dJ7_fill_53178_14 : decode cJ7_fill_53178 14 = .ok (.iinc 2 1, 3) := by decide +kernel
theorem dJ7_fill_53178_17 : decode cJ7_fill_53178 17 = .ok (.goto (-12), 3) := by decide +kernel
theorem dJ7_fill_53178_20 : decode cJ7_fill_53178 20 = .ok (.return_, 1) := by decide +kernel
theorem dJ3_checkIndex_8e157_0 : decode cJ3_checkIndex_8e157 0 = .ok (.iload_n 0, 1) := by decide +kernel
theorem dJ3_checkIndex_8e157_1 : decode cJ3_checkIndex_8e157 1 = .ok (.ifCond .lt 8, 3) := by decide +kernel
theorem dJ3_checkIndex_8e157_4 : decode cJ3_checkIndex_8e157 4 = .ok (.iload_n 0, 1) := by decide +kernel
theorem dJ3_checkIndex_8e157_5 : decode cJ3_checkIndex_8e157 5 = .ok (.iload_n 1, 1) := by decide +kernel
theorem dJ3_checkIndex_8e157_6 : decode cJ3_checkIndex_8e157 6 = .ok (.if_icmp .lt 10, 3) := by decide +kernel
theorem dJ3_checkIndex_8e157_9 : decode cJ3_checkIndex_8e157 9 = .ok (.aload_n 2, 1) := by decide +kernel
theorem dJ3_checkIndex_8e157_10 : decode cJ3_checkIndex_8e157 10 = .ok (.iload_n 0, 1) := by decide +kernel
theorem dJ3_checkIndex_8e157_11 : decode cJ3_checkIndex_8e157 11 = .ok (.iload_n 1, 1) := by decide +kernel
theorem dJ3_checkIndex_8e157_12 : decode cJ3_checkIndex_8e157 12 = .ok (.invokestatic 95, 3) := by decide +kernel
theorem dJ3_checkIndex_8e157_15 : decode cJ3_checkIndex_8e157 15 = .ok (.athrow, 1) := by decide +kernel
theorem dJ3_checkIndex_8e157_16 : decode cJ3_checkIndex_8e157 16 = .ok (.iload_n 0, 1) := by decide +kernel
theorem dJ3_checkIndex_8e157_17 : decode cJ3_checkIndex_8e157 17 = .ok (.ireturn, 1) := by decide +kernel
