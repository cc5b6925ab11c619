theorem d_L_shift_452 : decode method_6_code 452 = .ok (.iconst 1, 1) := by decide +kernel
theorem d_L_shift_453 : decode method_6_code 453 = .ok (.isub, 1) := by decide +kernel
theorem d_L_shift_454 : decode method_6_code 454 = .ok (.imul, 1) := by decide +kernel
theorem d_L_shift_455 : decode method_6_code 455 = .ok (.isub, 1) := by decide +kernel
theorem d_L_shift_456 : decode method_6_code 456 = .ok (.iload 8, 2) := by decide +kernel
theorem d_L_shift_458 : decode method_6_code 458 = .ok (.imul, 1) := by decide +kernel
theorem d_L_shift_459 : decode method_6_code 459 = .ok (.sipush 1000, 3) := by decide +kernel
theorem d_L_shift_462 : decode method_6_code 462 = .ok (.idiv, 1) := by decide +kernel
theorem d_L_shift_463 : decode method_6_code 463 = .ok (.imul, 1) := by decide +kernel
theorem d_L_shift_464 : decode method_6_code 464 = .ok (.bipush 100, 2) := by decide +kernel
theorem d_L_shift_466 : decode method_6_code 466 = .ok (.idiv, 1) := by decide +kernel
theorem d_L_shift_467 : decode method_6_code 467 = .ok (.istore 27, 2) := by decide +kernel
theorem d_L_shift_469 : decode method_6_code 469 = .ok (.iload 27, 2) := by decide +kernel
theorem d_L_shift_471 : decode method_6_code 471 = .ok (.iload 10, 2) := by decide +kernel
theorem d_L_shift_473 : decode method_6_code 473 = .ok (.iload 9, 2) := by decide +kernel
theorem d_L_shift_475 : decode method_6_code 475 = .ok (.isub, 1) := by decide +kernel
theorem d_L_shift_476 : decode method_6_code 476 = .ok (.if_icmp .ge 8, 3) := by decide +kernel
theorem d_L_shift_479 : decode method_6_code 479 = .ok (.iload 27, 2) := by decide +kernel
theorem d_L_shift_481 : decode method_6_code 481 = .ok (.goto 8, 3) := by decide +kernel
theorem d_L_shift_484 : decode method_6_code 484 = .ok (.iload 10, 2) := by decide +kernel
theorem d_L_shift_486 : decode method_6_code 486 = .ok (.iload 9, 2) := by decide +kernel
theorem d_L_shift_488 : decode method_6_code 488 = .ok (.isub, 1) := by decide +kernel
theorem d_L_shift_489 : decode method_6_code 489 = .ok (.istore 28, 2) := by decide +kernel
theorem d_L_shift_491 : decode method_6_code 491 = .ok (.aload_n 3, 1) := by decide +kernel
theorem d_L_shift_492 : decode method_6_code 492 = .ok (.iload 26, 2) := by decide +kernel
theorem d_L_shift_494 : decode method_6_code 494 = .ok (.dup2, 1) := by decide +kernel
theorem d_L_shift_495 : decode method_6_code 495 = .ok (.iaload, 1) := by decide +kernel
theorem d_L_shift_496 : decode method_6_code 496 = .ok (.iload 28, 2) := by decide +kernel
theorem d_L_shift_498 : decode method_6_code 498 = .ok (.isub, 1) := by decide +kernel
theorem d_L_shift_499 : decode method_6_code 499 = .ok (.iastore, 1) := by decide +kernel
theorem d_L_shift_500 : decode method_6_code 500 = .ok (.iload 9, 2) := by decide +kernel
theorem d_L_shift_502 : decode method_6_code 502 = .ok (.iload 28, 2) := by decide +kernel
theorem d_L_shift_504 : decode method_6_code 504 = .ok (.iadd, 1) := by decide +kernel
theorem d_L_shift_505 : decode method_6_code 505 = .ok (.istore 9, 2) := by decide +kernel
theorem d_L_shift_507 : decode method_6_code 507 = .ok (.iload 18, 2) := by decide +kernel
theorem d_L_shift_509 : decode method_6_code 509 = .ok (.iload 28, 2) := by decide +kernel
theorem d_L_shift_511 : decode method_6_code 511 = .ok (.iadd, 1) := by decide +kernel
theorem d_L_shift_512 : decode method_6_code 512 = .ok (.istore 18, 2) := by decide +kernel
theorem d_L_shift_514 : decode method_6_code 514 = .ok (.aload 6, 2) := by decide +kernel
theorem d_L_shift_516 : decode method_6_code 516 = .ok (.iload 20, 2) := by decide +kernel
theorem d_L_shift_518 : decode method_6_code 518 = .ok (.dup2, 1) := by decide +kernel
theorem d_L_shift_519 : decode method_6_code 519 = .ok (.iaload, 1) := by decide +kernel
theorem d_L_shift_520 : decode method_6_code 520 = .ok (.iload 28, 2) := by decide +kernel
theorem d_L_shift_522 : decode method_6_code 522 = .ok (.iadd, 1) := by decide +kernel
theorem d_L_shift_523 : decode method_6_code 523 = .ok (.iastore, 1) := by decide +kernel
theorem d_L_shift_524 : decode method_6_code 524 = .ok (.iconst 1, 1) := by decide +kernel
theorem d_L_shift_525 : decode method_6_code 525 = .ok (.iload 28, 2) := by decide +kernel
theorem d_L_shift_527 : decode method_6_code 527 = .ok (.iload 7, 2) := by decide +kernel
theorem d_L_shift_529 : decode method_6_code 529 = .ok (.imul, 1) := by decide +kernel
theorem d_L_shift_530 : decode method_6_code 530 = .ok (.bipush 20, 2) := by decide +kernel
