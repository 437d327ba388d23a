/-! THE LAW: its instructions, 5 -/
theorem dL_500 : decode code 500 = .ok (.iconst 2, 1) := by decide +kernel
theorem dL_501 : decode code 501 = .ok (.iadd, 1) := by decide +kernel
theorem dL_502 : decode code 502 = .ok (.iaload, 1) := by decide +kernel
theorem dL_503 : decode code 503 = .ok (.aload_n 0, 1) := by decide +kernel
theorem dL_504 : decode code 504 = .ok (.iload 4, 2) := by decide +kernel
theorem dL_506 : decode code 506 = .ok (.iconst 3, 1) := by decide +kernel
theorem dL_507 : decode code 507 = .ok (.iadd, 1) := by decide +kernel
theorem dL_508 : decode code 508 = .ok (.iaload, 1) := by decide +kernel
theorem dL_509 : decode code 509 = .ok (.invokevirtual 57, 3) := by decide +kernel
theorem dL_512 : decode code 512 = .ok (.aload_n 2, 1) := by decide +kernel
theorem dL_513 : decode code 513 = .ok (.aload_n 0, 1) := by decide +kernel
theorem dL_514 : decode code 514 = .ok (.iload 4, 2) := by decide +kernel
theorem dL_516 : decode code 516 = .ok (.iconst 1, 1) := by decide +kernel
theorem dL_517 : decode code 517 = .ok (.iadd, 1) := by decide +kernel
theorem dL_518 : decode code 518 = .ok (.iaload, 1) := by decide +kernel
theorem dL_519 : decode code 519 = .ok (.aload_n 0, 1) := by decide +kernel
theorem dL_520 : decode code 520 = .ok (.iload 4, 2) := by decide +kernel
theorem dL_522 : decode code 522 = .ok (.iconst 2, 1) := by decide +kernel
theorem dL_523 : decode code 523 = .ok (.iadd, 1) := by decide +kernel
theorem dL_524 : decode code 524 = .ok (.iaload, 1) := by decide +kernel
theorem dL_525 : decode code 525 = .ok (.aload_n 0, 1) := by decide +kernel
theorem dL_526 : decode code 526 = .ok (.iload 4, 2) := by decide +kernel
theorem dL_528 : decode code 528 = .ok (.iconst 3, 1) := by decide +kernel
theorem dL_529 : decode code 529 = .ok (.iadd, 1) := by decide +kernel
theorem dL_530 : decode code 530 = .ok (.iaload, 1) := by decide +kernel
theorem dL_531 : decode code 531 = .ok (.invokevirtual 61, 3) := by decide +kernel
theorem dL_534 : decode code 534 = .ok (.lcmp, 1) := by decide +kernel
theorem dL_535 : decode code 535 = .ok (.ifCond .eq 766, 3) := by decide +kernel
theorem dL_538 : decode code 538 = .ok (.iconst 0, 1) := by decide +kernel
theorem dL_539 : decode code 539 = .ok (.ireturn, 1) := by decide +kernel
theorem dL_540 : decode code 540 = .ok (.aload_n 1, 1) := by decide +kernel
theorem dL_541 : decode code 541 = .ok (.aload_n 0, 1) := by decide +kernel
theorem dL_542 : decode code 542 = .ok (.iload 4, 2) := by decide +kernel
theorem dL_544 : decode code 544 = .ok (.iconst 1, 1) := by decide +kernel
theorem dL_545 : decode code 545 = .ok (.iadd, 1) := by decide +kernel
theorem dL_546 : decode code 546 = .ok (.iaload, 1) := by decide +kernel
theorem dL_547 : decode code 547 = .ok (.aload_n 0, 1) := by decide +kernel
theorem dL_548 : decode code 548 = .ok (.iload 4, 2) := by decide +kernel
theorem dL_550 : decode code 550 = .ok (.iconst 2, 1) := by decide +kernel
theorem dL_551 : decode code 551 = .ok (.iadd, 1) := by decide +kernel
theorem dL_552 : decode code 552 = .ok (.iaload, 1) := by decide +kernel
theorem dL_553 : decode code 553 = .ok (.invokevirtual 62, 3) := by decide +kernel
theorem dL_556 : decode code 556 = .ok (.aload_n 2, 1) := by decide +kernel
theorem dL_557 : decode code 557 = .ok (.aload_n 0, 1) := by decide +kernel
theorem dL_558 : decode code 558 = .ok (.iload 4, 2) := by decide +kernel
theorem dL_560 : decode code 560 = .ok (.iconst 1, 1) := by decide +kernel
theorem dL_561 : decode code 561 = .ok (.iadd, 1) := by decide +kernel
theorem dL_562 : decode code 562 = .ok (.iaload, 1) := by decide +kernel
theorem dL_563 : decode code 563 = .ok (.aload_n 0, 1) := by decide +kernel
theorem dL_564 : decode code 564 = .ok (.iload 4, 2) := by decide +kernel
