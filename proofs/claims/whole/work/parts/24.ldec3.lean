theorem d_Lw_law_322 : decode code 322 = .ok (.iadd, 1) := by decide +kernel
theorem d_Lw_law_323 : decode code 323 = .ok (.iaload, 1) := by decide +kernel
theorem d_Lw_law_324 : decode code 324 = .ok (.invokevirtual 50, 3) := by decide +kernel
theorem d_Lw_law_327 : decode code 327 = .ok (.if_icmp .eq (234), 3) := by decide +kernel
theorem d_Lw_law_330 : decode code 330 = .ok (.iconst 0, 1) := by decide +kernel
theorem d_Lw_law_331 : decode code 331 = .ok (.ireturn, 1) := by decide +kernel
theorem d_Lw_law_332 : decode code 332 = .ok (.aload_n 1, 1) := by decide +kernel
theorem d_Lw_law_333 : decode code 333 = .ok (.aload_n 0, 1) := by decide +kernel
theorem d_Lw_law_334 : decode code 334 = .ok (.iload_n 3, 1) := by decide +kernel
theorem d_Lw_law_335 : decode code 335 = .ok (.iconst 1, 1) := by decide +kernel
theorem d_Lw_law_336 : decode code 336 = .ok (.iadd, 1) := by decide +kernel
theorem d_Lw_law_337 : decode code 337 = .ok (.iaload, 1) := by decide +kernel
theorem d_Lw_law_338 : decode code 338 = .ok (.invokevirtual 51, 3) := by decide +kernel
theorem d_Lw_law_341 : decode code 341 = .ok (.aload_n 2, 1) := by decide +kernel
theorem d_Lw_law_342 : decode code 342 = .ok (.aload_n 0, 1) := by decide +kernel
theorem d_Lw_law_343 : decode code 343 = .ok (.iload_n 3, 1) := by decide +kernel
theorem d_Lw_law_344 : decode code 344 = .ok (.iconst 1, 1) := by decide +kernel
theorem d_Lw_law_345 : decode code 345 = .ok (.iadd, 1) := by decide +kernel
theorem d_Lw_law_346 : decode code 346 = .ok (.iaload, 1) := by decide +kernel
theorem d_Lw_law_347 : decode code 347 = .ok (.invokevirtual 54, 3) := by decide +kernel
theorem d_Lw_law_350 : decode code 350 = .ok (.if_icmp .eq (211), 3) := by decide +kernel
theorem d_Lw_law_353 : decode code 353 = .ok (.iconst 0, 1) := by decide +kernel
theorem d_Lw_law_354 : decode code 354 = .ok (.ireturn, 1) := by decide +kernel
theorem d_Lw_law_355 : decode code 355 = .ok (.aload_n 1, 1) := by decide +kernel
theorem d_Lw_law_356 : decode code 356 = .ok (.invokevirtual 55, 3) := by decide +kernel
theorem d_Lw_law_359 : decode code 359 = .ok (.aload_n 2, 1) := by decide +kernel
theorem d_Lw_law_360 : decode code 360 = .ok (.invokevirtual 58, 3) := by decide +kernel
theorem d_Lw_law_363 : decode code 363 = .ok (.if_icmp .eq (198), 3) := by decide +kernel
theorem d_Lw_law_366 : decode code 366 = .ok (.iconst 0, 1) := by decide +kernel
theorem d_Lw_law_367 : decode code 367 = .ok (.ireturn, 1) := by decide +kernel
theorem d_Lw_law_368 : decode code 368 = .ok (.aload_n 1, 1) := by decide +kernel
theorem d_Lw_law_369 : decode code 369 = .ok (.invokevirtual 59, 3) := by decide +kernel
theorem d_Lw_law_372 : decode code 372 = .ok (.aload_n 2, 1) := by decide +kernel
theorem d_Lw_law_373 : decode code 373 = .ok (.invokevirtual 62, 3) := by decide +kernel
theorem d_Lw_law_376 : decode code 376 = .ok (.if_icmp .eq (185), 3) := by decide +kernel
theorem d_Lw_law_379 : decode code 379 = .ok (.iconst 0, 1) := by decide +kernel
theorem d_Lw_law_380 : decode code 380 = .ok (.ireturn, 1) := by decide +kernel
theorem d_Lw_law_381 : decode code 381 = .ok (.aload_n 1, 1) := by decide +kernel
theorem d_Lw_law_382 : decode code 382 = .ok (.invokevirtual 63, 3) := by decide +kernel
theorem d_Lw_law_385 : decode code 385 = .ok (.aload_n 2, 1) := by decide +kernel
theorem d_Lw_law_386 : decode code 386 = .ok (.invokevirtual 66, 3) := by decide +kernel
theorem d_Lw_law_389 : decode code 389 = .ok (.if_icmp .eq (172), 3) := by decide +kernel
theorem d_Lw_law_392 : decode code 392 = .ok (.iconst 0, 1) := by decide +kernel
theorem d_Lw_law_393 : decode code 393 = .ok (.ireturn, 1) := by decide +kernel
theorem d_Lw_law_394 : decode code 394 = .ok (.aload_n 1, 1) := by decide +kernel
theorem d_Lw_law_395 : decode code 395 = .ok (.invokevirtual 67, 3) := by decide +kernel
theorem d_Lw_law_398 : decode code 398 = .ok (.aload_n 2, 1) := by decide +kernel
theorem d_Lw_law_399 : decode code 399 = .ok (.invokevirtual 71, 3) := by decide +kernel
theorem d_Lw_law_402 : decode code 402 = .ok (.if_icmp .eq (159), 3) := by decide +kernel
theorem d_Lw_law_405 : decode code 405 = .ok (.iconst 0, 1) := by decide +kernel
theorem d_Lw_law_406 : decode code 406 = .ok (.ireturn, 1) := by decide +kernel
theorem d_Lw_law_407 : decode code 407 = .ok (.aload_n 1, 1) := by decide +kernel
theorem d_Lw_law_408 : decode code 408 = .ok (.invokevirtual 72, 3) := by decide +kernel
theorem d_Lw_law_411 : decode code 411 = .ok (.aload_n 2, 1) := by decide +kernel
theorem d_Lw_law_412 : decode code 412 = .ok (.invokevirtual 75, 3) := by decide +kernel
theorem d_Lw_law_415 : decode code 415 = .ok (.if_icmp .eq (146), 3) := by decide +kernel
theorem d_Lw_law_418 : decode code 418 = .ok (.iconst 0, 1) := by decide +kernel
theorem d_Lw_law_419 : decode code 419 = .ok (.ireturn, 1) := by decide +kernel
theorem d_Lw_law_420 : decode code 420 = .ok (.aload_n 1, 1) := by decide +kernel
theorem d_Lw_law_421 : decode code 421 = .ok (.aload_n 0, 1) := by decide +kernel
