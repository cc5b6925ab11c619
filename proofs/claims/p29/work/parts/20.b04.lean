theorem d_L_shift_363 : decode method_6_code 363 = .ok (.iload 20, 2) := by decide +kernel
theorem d_L_shift_365 : decode method_6_code 365 = .ok (.iaload, 1) := by decide +kernel
theorem d_L_shift_366 : decode method_6_code 366 = .ok (.iload 25, 2) := by decide +kernel
theorem d_L_shift_368 : decode method_6_code 368 = .ok (.if_icmp .ge 278, 3) := by decide +kernel
theorem d_L_shift_371 : decode method_6_code 371 = .ok (.iload 16, 2) := by decide +kernel
theorem d_L_shift_373 : decode method_6_code 373 = .ok (.ifCond .ne 273, 3) := by decide +kernel
theorem d_L_shift_376 : decode method_6_code 376 = .ok (.bipush 12, 2) := by decide +kernel
theorem d_L_shift_378 : decode method_6_code 378 = .ok (.iload 21, 2) := by decide +kernel
theorem d_L_shift_380 : decode method_6_code 380 = .ok (.imul, 1) := by decide +kernel
theorem d_L_shift_381 : decode method_6_code 381 = .ok (.iload 25, 2) := by decide +kernel
theorem d_L_shift_383 : decode method_6_code 383 = .ok (.aload_n 0, 1) := by decide +kernel
theorem d_L_shift_384 : decode method_6_code 384 = .ok (.iload 20, 2) := by decide +kernel
theorem d_L_shift_386 : decode method_6_code 386 = .ok (.iconst 1, 1) := by decide +kernel
theorem d_L_shift_387 : decode method_6_code 387 = .ok (.invokevirtual 52, 3) := by decide +kernel
theorem d_L_shift_390 : decode method_6_code 390 = .ok (.imul, 1) := by decide +kernel
theorem d_L_shift_391 : decode method_6_code 391 = .ok (.iadd, 1) := by decide +kernel
theorem d_L_shift_392 : decode method_6_code 392 = .ok (.aload 5, 2) := by decide +kernel
theorem d_L_shift_394 : decode method_6_code 394 = .ok (.iload 20, 2) := by decide +kernel
theorem d_L_shift_396 : decode method_6_code 396 = .ok (.iaload, 1) := by decide +kernel
theorem d_L_shift_397 : decode method_6_code 397 = .ok (.iadd, 1) := by decide +kernel
theorem d_L_shift_398 : decode method_6_code 398 = .ok (.istore 26, 2) := by decide +kernel
theorem d_L_shift_400 : decode method_6_code 400 = .ok (.bipush 12, 2) := by decide +kernel
theorem d_L_shift_402 : decode method_6_code 402 = .ok (.iload 7, 2) := by decide +kernel
theorem d_L_shift_404 : decode method_6_code 404 = .ok (.idiv, 1) := by decide +kernel
theorem d_L_shift_405 : decode method_6_code 405 = .ok (.iload 22, 2) := by decide +kernel
theorem d_L_shift_407 : decode method_6_code 407 = .ok (.iadd, 1) := by decide +kernel
theorem d_L_shift_408 : decode method_6_code 408 = .ok (.iload 12, 2) := by decide +kernel
theorem d_L_shift_410 : decode method_6_code 410 = .ok (.if_icmp .le 9, 3) := by decide +kernel
theorem d_L_shift_413 : decode method_6_code 413 = .ok (.iconst 2, 1) := by decide +kernel
theorem d_L_shift_414 : decode method_6_code 414 = .ok (.istore 16, 2) := by decide +kernel
theorem d_L_shift_416 : decode method_6_code 416 = .ok (.goto 227, 3) := by decide +kernel
theorem d_L_shift_419 : decode method_6_code 419 = .ok (.iload 12, 2) := by decide +kernel
theorem d_L_shift_421 : decode method_6_code 421 = .ok (.bipush 12, 2) := by decide +kernel
theorem d_L_shift_423 : decode method_6_code 423 = .ok (.iload 7, 2) := by decide +kernel
theorem d_L_shift_425 : decode method_6_code 425 = .ok (.idiv, 1) := by decide +kernel
theorem d_L_shift_426 : decode method_6_code 426 = .ok (.isub, 1) := by decide +kernel
theorem d_L_shift_427 : decode method_6_code 427 = .ok (.istore 12, 2) := by decide +kernel
theorem d_L_shift_429 : decode method_6_code 429 = .ok (.aload 4, 2) := by decide +kernel
theorem d_L_shift_431 : decode method_6_code 431 = .ok (.iload 26, 2) := by decide +kernel
theorem d_L_shift_433 : decode method_6_code 433 = .ok (.iaload, 1) := by decide +kernel
theorem d_L_shift_434 : decode method_6_code 434 = .ok (.iconst 1, 1) := by decide +kernel
theorem d_L_shift_435 : decode method_6_code 435 = .ok (.if_icmp .ne 7, 3) := by decide +kernel
theorem d_L_shift_438 : decode method_6_code 438 = .ok (.iconst 0, 1) := by decide +kernel
theorem d_L_shift_439 : decode method_6_code 439 = .ok (.goto 28, 3) := by decide +kernel
theorem d_L_shift_442 : decode method_6_code 442 = .ok (.aload_n 3, 1) := by decide +kernel
theorem d_L_shift_443 : decode method_6_code 443 = .ok (.iload 26, 2) := by decide +kernel
theorem d_L_shift_445 : decode method_6_code 445 = .ok (.iaload, 1) := by decide +kernel
theorem d_L_shift_446 : decode method_6_code 446 = .ok (.bipush 100, 2) := by decide +kernel
theorem d_L_shift_448 : decode method_6_code 448 = .ok (.bipush 15, 2) := by decide +kernel
theorem d_L_shift_450 : decode method_6_code 450 = .ok (.iload 7, 2) := by decide +kernel
