theorem d_Lw_law_422 : decode code 422 = .ok (.iload_n 3, 1) := by decide +kernel
theorem d_Lw_law_423 : decode code 423 = .ok (.iconst 1, 1) := by decide +kernel
theorem d_Lw_law_424 : decode code 424 = .ok (.iadd, 1) := by decide +kernel
theorem d_Lw_law_425 : decode code 425 = .ok (.iaload, 1) := by decide +kernel
theorem d_Lw_law_426 : decode code 426 = .ok (.invokevirtual 76, 3) := by decide +kernel
theorem d_Lw_law_429 : decode code 429 = .ok (.aload_n 2, 1) := by decide +kernel
theorem d_Lw_law_430 : decode code 430 = .ok (.aload_n 0, 1) := by decide +kernel
theorem d_Lw_law_431 : decode code 431 = .ok (.iload_n 3, 1) := by decide +kernel
theorem d_Lw_law_432 : decode code 432 = .ok (.iconst 1, 1) := by decide +kernel
theorem d_Lw_law_433 : decode code 433 = .ok (.iadd, 1) := by decide +kernel
theorem d_Lw_law_434 : decode code 434 = .ok (.iaload, 1) := by decide +kernel
theorem d_Lw_law_435 : decode code 435 = .ok (.invokevirtual 79, 3) := by decide +kernel
theorem d_Lw_law_438 : decode code 438 = .ok (.if_icmp .eq (123), 3) := by decide +kernel
theorem d_Lw_law_441 : decode code 441 = .ok (.iconst 0, 1) := by decide +kernel
theorem d_Lw_law_442 : decode code 442 = .ok (.ireturn, 1) := by decide +kernel
theorem d_Lw_law_443 : decode code 443 = .ok (.aload_n 1, 1) := by decide +kernel
theorem d_Lw_law_444 : decode code 444 = .ok (.invokevirtual 80, 3) := by decide +kernel
theorem d_Lw_law_447 : decode code 447 = .ok (.aload_n 2, 1) := by decide +kernel
theorem d_Lw_law_448 : decode code 448 = .ok (.invokevirtual 83, 3) := by decide +kernel
theorem d_Lw_law_451 : decode code 451 = .ok (.if_icmp .eq (110), 3) := by decide +kernel
theorem d_Lw_law_454 : decode code 454 = .ok (.iconst 0, 1) := by decide +kernel
theorem d_Lw_law_455 : decode code 455 = .ok (.ireturn, 1) := by decide +kernel
theorem d_Lw_law_456 : decode code 456 = .ok (.aload_n 1, 1) := by decide +kernel
theorem d_Lw_law_457 : decode code 457 = .ok (.aload_n 0, 1) := by decide +kernel
theorem d_Lw_law_458 : decode code 458 = .ok (.iload_n 3, 1) := by decide +kernel
theorem d_Lw_law_459 : decode code 459 = .ok (.iconst 1, 1) := by decide +kernel
theorem d_Lw_law_460 : decode code 460 = .ok (.iadd, 1) := by decide +kernel
theorem d_Lw_law_461 : decode code 461 = .ok (.iaload, 1) := by decide +kernel
theorem d_Lw_law_462 : decode code 462 = .ok (.invokevirtual 84, 3) := by decide +kernel
theorem d_Lw_law_465 : decode code 465 = .ok (.aload_n 2, 1) := by decide +kernel
theorem d_Lw_law_466 : decode code 466 = .ok (.aload_n 0, 1) := by decide +kernel
theorem d_Lw_law_467 : decode code 467 = .ok (.iload_n 3, 1) := by decide +kernel
theorem d_Lw_law_468 : decode code 468 = .ok (.iconst 1, 1) := by decide +kernel
theorem d_Lw_law_469 : decode code 469 = .ok (.iadd, 1) := by decide +kernel
theorem d_Lw_law_470 : decode code 470 = .ok (.iaload, 1) := by decide +kernel
theorem d_Lw_law_471 : decode code 471 = .ok (.invokevirtual 87, 3) := by decide +kernel
theorem d_Lw_law_474 : decode code 474 = .ok (.if_icmp .eq (87), 3) := by decide +kernel
theorem d_Lw_law_477 : decode code 477 = .ok (.iconst 0, 1) := by decide +kernel
theorem d_Lw_law_478 : decode code 478 = .ok (.ireturn, 1) := by decide +kernel
theorem d_Lw_law_479 : decode code 479 = .ok (.aload_n 1, 1) := by decide +kernel
theorem d_Lw_law_480 : decode code 480 = .ok (.aload_n 0, 1) := by decide +kernel
theorem d_Lw_law_481 : decode code 481 = .ok (.iload_n 3, 1) := by decide +kernel
theorem d_Lw_law_482 : decode code 482 = .ok (.iconst 1, 1) := by decide +kernel
theorem d_Lw_law_483 : decode code 483 = .ok (.iadd, 1) := by decide +kernel
theorem d_Lw_law_484 : decode code 484 = .ok (.iaload, 1) := by decide +kernel
theorem d_Lw_law_485 : decode code 485 = .ok (.aload_n 0, 1) := by decide +kernel
theorem d_Lw_law_486 : decode code 486 = .ok (.iload_n 3, 1) := by decide +kernel
theorem d_Lw_law_487 : decode code 487 = .ok (.iconst 2, 1) := by decide +kernel
theorem d_Lw_law_488 : decode code 488 = .ok (.iadd, 1) := by decide +kernel
theorem d_Lw_law_489 : decode code 489 = .ok (.iaload, 1) := by decide +kernel
theorem d_Lw_law_490 : decode code 490 = .ok (.invokevirtual 88, 3) := by decide +kernel
theorem d_Lw_law_493 : decode code 493 = .ok (.aload_n 2, 1) := by decide +kernel
theorem d_Lw_law_494 : decode code 494 = .ok (.aload_n 0, 1) := by decide +kernel
theorem d_Lw_law_495 : decode code 495 = .ok (.iload_n 3, 1) := by decide +kernel
theorem d_Lw_law_496 : decode code 496 = .ok (.iconst 1, 1) := by decide +kernel
theorem d_Lw_law_497 : decode code 497 = .ok (.iadd, 1) := by decide +kernel
theorem d_Lw_law_498 : decode code 498 = .ok (.iaload, 1) := by decide +kernel
theorem d_Lw_law_499 : decode code 499 = .ok (.aload_n 0, 1) := by decide +kernel
theorem d_Lw_law_500 : decode code 500 = .ok (.iload_n 3, 1) := by decide +kernel
theorem d_Lw_law_501 : decode code 501 = .ok (.iconst 2, 1) := by decide +kernel
