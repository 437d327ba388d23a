/-! THE LAW: its instructions, 4 -/
theorem dL_432 : decode code 432 = .ok (.aload_n 2, 1) := by decide +kernel
theorem dL_433 : decode code 433 = .ok (.aload_n 0, 1) := by decide +kernel
theorem dL_434 : decode code 434 = .ok (.iload 4, 2) := by decide +kernel
theorem dL_436 : decode code 436 = .ok (.iconst 1, 1) := by decide +kernel
theorem dL_437 : decode code 437 = .ok (.iadd, 1) := by decide +kernel
theorem dL_438 : decode code 438 = .ok (.iaload, 1) := by decide +kernel
theorem dL_439 : decode code 439 = .ok (.aload_n 0, 1) := by decide +kernel
theorem dL_440 : decode code 440 = .ok (.iload 4, 2) := by decide +kernel
theorem dL_442 : decode code 442 = .ok (.iconst 2, 1) := by decide +kernel
theorem dL_443 : decode code 443 = .ok (.iadd, 1) := by decide +kernel
theorem dL_444 : decode code 444 = .ok (.iaload, 1) := by decide +kernel
theorem dL_445 : decode code 445 = .ok (.invokevirtual 52, 3) := by decide +kernel
theorem dL_448 : decode code 448 = .ok (.if_icmp .eq 853, 3) := by decide +kernel
theorem dL_451 : decode code 451 = .ok (.iconst 0, 1) := by decide +kernel
theorem dL_452 : decode code 452 = .ok (.ireturn, 1) := by decide +kernel
theorem dL_453 : decode code 453 = .ok (.aload_n 1, 1) := by decide +kernel
theorem dL_454 : decode code 454 = .ok (.aload_n 0, 1) := by decide +kernel
theorem dL_455 : decode code 455 = .ok (.iload 4, 2) := by decide +kernel
theorem dL_457 : decode code 457 = .ok (.iconst 1, 1) := by decide +kernel
theorem dL_458 : decode code 458 = .ok (.iadd, 1) := by decide +kernel
theorem dL_459 : decode code 459 = .ok (.iaload, 1) := by decide +kernel
theorem dL_460 : decode code 460 = .ok (.aload_n 0, 1) := by decide +kernel
theorem dL_461 : decode code 461 = .ok (.iload 4, 2) := by decide +kernel
theorem dL_463 : decode code 463 = .ok (.iconst 2, 1) := by decide +kernel
theorem dL_464 : decode code 464 = .ok (.iadd, 1) := by decide +kernel
theorem dL_465 : decode code 465 = .ok (.iaload, 1) := by decide +kernel
theorem dL_466 : decode code 466 = .ok (.invokevirtual 53, 3) := by decide +kernel
theorem dL_469 : decode code 469 = .ok (.aload_n 2, 1) := by decide +kernel
theorem dL_470 : decode code 470 = .ok (.aload_n 0, 1) := by decide +kernel
theorem dL_471 : decode code 471 = .ok (.iload 4, 2) := by decide +kernel
theorem dL_473 : decode code 473 = .ok (.iconst 1, 1) := by decide +kernel
theorem dL_474 : decode code 474 = .ok (.iadd, 1) := by decide +kernel
theorem dL_475 : decode code 475 = .ok (.iaload, 1) := by decide +kernel
theorem dL_476 : decode code 476 = .ok (.aload_n 0, 1) := by decide +kernel
theorem dL_477 : decode code 477 = .ok (.iload 4, 2) := by decide +kernel
theorem dL_479 : decode code 479 = .ok (.iconst 2, 1) := by decide +kernel
theorem dL_480 : decode code 480 = .ok (.iadd, 1) := by decide +kernel
theorem dL_481 : decode code 481 = .ok (.iaload, 1) := by decide +kernel
theorem dL_482 : decode code 482 = .ok (.invokevirtual 56, 3) := by decide +kernel
theorem dL_485 : decode code 485 = .ok (.if_icmp .eq 816, 3) := by decide +kernel
theorem dL_488 : decode code 488 = .ok (.iconst 0, 1) := by decide +kernel
theorem dL_489 : decode code 489 = .ok (.ireturn, 1) := by decide +kernel
theorem dL_490 : decode code 490 = .ok (.aload_n 1, 1) := by decide +kernel
theorem dL_491 : decode code 491 = .ok (.aload_n 0, 1) := by decide +kernel
theorem dL_492 : decode code 492 = .ok (.iload 4, 2) := by decide +kernel
theorem dL_494 : decode code 494 = .ok (.iconst 1, 1) := by decide +kernel
theorem dL_495 : decode code 495 = .ok (.iadd, 1) := by decide +kernel
theorem dL_496 : decode code 496 = .ok (.iaload, 1) := by decide +kernel
theorem dL_497 : decode code 497 = .ok (.aload_n 0, 1) := by decide +kernel
theorem dL_498 : decode code 498 = .ok (.iload 4, 2) := by decide +kernel
