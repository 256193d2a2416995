theorem d_Lw_law_502 : decode code 502 = .ok (.iadd, 1) := by decide +kernel
theorem d_Lw_law_503 : decode code 503 = .ok (.iaload, 1) := by decide +kernel
theorem d_Lw_law_504 : decode code 504 = .ok (.invokevirtual 92, 3) := by decide +kernel
theorem d_Lw_law_507 : decode code 507 = .ok (.if_icmp .eq (54), 3) := by decide +kernel
theorem d_Lw_law_510 : decode code 510 = .ok (.iconst 0, 1) := by decide +kernel
theorem d_Lw_law_511 : decode code 511 = .ok (.ireturn, 1) := by decide +kernel
theorem d_Lw_law_512 : decode code 512 = .ok (.aload_n 1, 1) := by decide +kernel
theorem d_Lw_law_513 : decode code 513 = .ok (.invokevirtual 93, 3) := by decide +kernel
theorem d_Lw_law_516 : decode code 516 = .ok (.aload_n 2, 1) := by decide +kernel
theorem d_Lw_law_517 : decode code 517 = .ok (.invokevirtual 96, 3) := by decide +kernel
theorem d_Lw_law_520 : decode code 520 = .ok (.if_icmp .eq (41), 3) := by decide +kernel
theorem d_Lw_law_523 : decode code 523 = .ok (.iconst 0, 1) := by decide +kernel
theorem d_Lw_law_524 : decode code 524 = .ok (.ireturn, 1) := by decide +kernel
theorem d_Lw_law_525 : decode code 525 = .ok (.aload_n 1, 1) := by decide +kernel
theorem d_Lw_law_526 : decode code 526 = .ok (.aload_n 0, 1) := by decide +kernel
theorem d_Lw_law_527 : decode code 527 = .ok (.iload_n 3, 1) := by decide +kernel
theorem d_Lw_law_528 : decode code 528 = .ok (.iconst 1, 1) := by decide +kernel
theorem d_Lw_law_529 : decode code 529 = .ok (.iadd, 1) := by decide +kernel
theorem d_Lw_law_530 : decode code 530 = .ok (.iaload, 1) := by decide +kernel
theorem d_Lw_law_531 : decode code 531 = .ok (.invokevirtual 97, 3) := by decide +kernel
theorem d_Lw_law_534 : decode code 534 = .ok (.aload_n 2, 1) := by decide +kernel
theorem d_Lw_law_535 : decode code 535 = .ok (.aload_n 0, 1) := by decide +kernel
theorem d_Lw_law_536 : decode code 536 = .ok (.iload_n 3, 1) := by decide +kernel
theorem d_Lw_law_537 : decode code 537 = .ok (.iconst 1, 1) := by decide +kernel
theorem d_Lw_law_538 : decode code 538 = .ok (.iadd, 1) := by decide +kernel
theorem d_Lw_law_539 : decode code 539 = .ok (.iaload, 1) := by decide +kernel
theorem d_Lw_law_540 : decode code 540 = .ok (.invokevirtual 100, 3) := by decide +kernel
theorem d_Lw_law_543 : decode code 543 = .ok (.if_icmp .eq (18), 3) := by decide +kernel
theorem d_Lw_law_546 : decode code 546 = .ok (.iconst 0, 1) := by decide +kernel
theorem d_Lw_law_547 : decode code 547 = .ok (.ireturn, 1) := by decide +kernel
theorem d_Lw_law_548 : decode code 548 = .ok (.aload_n 1, 1) := by decide +kernel
theorem d_Lw_law_549 : decode code 549 = .ok (.invokevirtual 101, 3) := by decide +kernel
theorem d_Lw_law_552 : decode code 552 = .ok (.aload_n 2, 1) := by decide +kernel
theorem d_Lw_law_553 : decode code 553 = .ok (.invokevirtual 104, 3) := by decide +kernel
theorem d_Lw_law_556 : decode code 556 = .ok (.if_icmp .eq (5), 3) := by decide +kernel
theorem d_Lw_law_559 : decode code 559 = .ok (.iconst 0, 1) := by decide +kernel
theorem d_Lw_law_560 : decode code 560 = .ok (.ireturn, 1) := by decide +kernel
theorem d_Lw_law_561 : decode code 561 = .ok (.iinc 3 (5), 3) := by decide +kernel
theorem d_Lw_law_564 : decode code 564 = .ok (.goto (-526), 3) := by decide +kernel
theorem d_Lw_law_567 : decode code 567 = .ok (.iconst 1, 1) := by decide +kernel
theorem d_Lw_law_568 : decode code 568 = .ok (.ireturn, 1) := by decide +kernel
