/-! THE LAW: its instructions, 3 -/
theorem dL_356 : decode code 356 = .ok (.iload 4, 2) := by decide +kernel
theorem dL_358 : decode code 358 = .ok (.iconst 2, 1) := by decide +kernel
theorem dL_359 : decode code 359 = .ok (.iadd, 1) := by decide +kernel
theorem dL_360 : decode code 360 = .ok (.iaload, 1) := by decide +kernel
theorem dL_361 : decode code 361 = .ok (.aload_n 3, 1) := by decide +kernel
theorem dL_362 : decode code 362 = .ok (.invokestatic 39, 3) := by decide +kernel
theorem dL_365 : decode code 365 = .ok (.istore 5, 2) := by decide +kernel
theorem dL_367 : decode code 367 = .ok (.aload_n 2, 1) := by decide +kernel
theorem dL_368 : decode code 368 = .ok (.aload_n 0, 1) := by decide +kernel
theorem dL_369 : decode code 369 = .ok (.iload 4, 2) := by decide +kernel
theorem dL_371 : decode code 371 = .ok (.iconst 1, 1) := by decide +kernel
theorem dL_372 : decode code 372 = .ok (.iadd, 1) := by decide +kernel
theorem dL_373 : decode code 373 = .ok (.iaload, 1) := by decide +kernel
theorem dL_374 : decode code 374 = .ok (.aload_n 0, 1) := by decide +kernel
theorem dL_375 : decode code 375 = .ok (.iload 4, 2) := by decide +kernel
theorem dL_377 : decode code 377 = .ok (.iconst 2, 1) := by decide +kernel
theorem dL_378 : decode code 378 = .ok (.iadd, 1) := by decide +kernel
theorem dL_379 : decode code 379 = .ok (.iaload, 1) := by decide +kernel
theorem dL_380 : decode code 380 = .ok (.invokevirtual 44, 3) := by decide +kernel
theorem dL_383 : decode code 383 = .ok (.istore 6, 2) := by decide +kernel
theorem dL_385 : decode code 385 = .ok (.aload_n 2, 1) := by decide +kernel
theorem dL_386 : decode code 386 = .ok (.invokevirtual 45, 3) := by decide +kernel
theorem dL_389 : decode code 389 = .ok (.iload 5, 2) := by decide +kernel
theorem dL_391 : decode code 391 = .ok (.if_icmp .eq 5, 3) := by decide +kernel
theorem dL_394 : decode code 394 = .ok (.iconst 0, 1) := by decide +kernel
theorem dL_395 : decode code 395 = .ok (.ireturn, 1) := by decide +kernel
theorem dL_396 : decode code 396 = .ok (.iload 5, 2) := by decide +kernel
theorem dL_398 : decode code 398 = .ok (.ifCond .ne 15, 3) := by decide +kernel
theorem dL_401 : decode code 401 = .ok (.aload_n 3, 1) := by decide +kernel
theorem dL_402 : decode code 402 = .ok (.iconst 0, 1) := by decide +kernel
theorem dL_403 : decode code 403 = .ok (.laload, 1) := by decide +kernel
theorem dL_404 : decode code 404 = .ok (.iload 6, 2) := by decide +kernel
theorem dL_406 : decode code 406 = .ok (.i2l, 1) := by decide +kernel
theorem dL_407 : decode code 407 = .ok (.lcmp, 1) := by decide +kernel
theorem dL_408 : decode code 408 = .ok (.ifCond .eq 5, 3) := by decide +kernel
theorem dL_411 : decode code 411 = .ok (.iconst 0, 1) := by decide +kernel
theorem dL_412 : decode code 412 = .ok (.ireturn, 1) := by decide +kernel
theorem dL_413 : decode code 413 = .ok (.goto 888, 3) := by decide +kernel
theorem dL_416 : decode code 416 = .ok (.aload_n 1, 1) := by decide +kernel
theorem dL_417 : decode code 417 = .ok (.aload_n 0, 1) := by decide +kernel
theorem dL_418 : decode code 418 = .ok (.iload 4, 2) := by decide +kernel
theorem dL_420 : decode code 420 = .ok (.iconst 1, 1) := by decide +kernel
theorem dL_421 : decode code 421 = .ok (.iadd, 1) := by decide +kernel
theorem dL_422 : decode code 422 = .ok (.iaload, 1) := by decide +kernel
theorem dL_423 : decode code 423 = .ok (.aload_n 0, 1) := by decide +kernel
theorem dL_424 : decode code 424 = .ok (.iload 4, 2) := by decide +kernel
theorem dL_426 : decode code 426 = .ok (.iconst 2, 1) := by decide +kernel
theorem dL_427 : decode code 427 = .ok (.iadd, 1) := by decide +kernel
theorem dL_428 : decode code 428 = .ok (.iaload, 1) := by decide +kernel
theorem dL_429 : decode code 429 = .ok (.invokevirtual 49, 3) := by decide +kernel
