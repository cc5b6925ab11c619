theorem d_L_shift_532 : decode method_6_code 532 = .ok (.idiv, 1) := by decide +kernel
theorem d_L_shift_533 : decode method_6_code 533 = .ok (.iadd, 1) := by decide +kernel
theorem d_L_shift_534 : decode method_6_code 534 = .ok (.istore 29, 2) := by decide +kernel
theorem d_L_shift_536 : decode method_6_code 536 = .ok (.iload 29, 2) := by decide +kernel
theorem d_L_shift_538 : decode method_6_code 538 = .ok (.iload 8, 2) := by decide +kernel
theorem d_L_shift_540 : decode method_6_code 540 = .ok (.if_icmp .ge 8, 3) := by decide +kernel
theorem d_L_shift_543 : decode method_6_code 543 = .ok (.iload 29, 2) := by decide +kernel
theorem d_L_shift_545 : decode method_6_code 545 = .ok (.goto 5, 3) := by decide +kernel
theorem d_L_shift_548 : decode method_6_code 548 = .ok (.iload 8, 2) := by decide +kernel
theorem d_L_shift_550 : decode method_6_code 550 = .ok (.istore 29, 2) := by decide +kernel
theorem d_L_shift_552 : decode method_6_code 552 = .ok (.iload 8, 2) := by decide +kernel
theorem d_L_shift_554 : decode method_6_code 554 = .ok (.iload 29, 2) := by decide +kernel
theorem d_L_shift_556 : decode method_6_code 556 = .ok (.isub, 1) := by decide +kernel
theorem d_L_shift_557 : decode method_6_code 557 = .ok (.istore 8, 2) := by decide +kernel
theorem d_L_shift_559 : decode method_6_code 559 = .ok (.iload 19, 2) := by decide +kernel
theorem d_L_shift_561 : decode method_6_code 561 = .ok (.iload 29, 2) := by decide +kernel
theorem d_L_shift_563 : decode method_6_code 563 = .ok (.iadd, 1) := by decide +kernel
theorem d_L_shift_564 : decode method_6_code 564 = .ok (.istore 19, 2) := by decide +kernel
theorem d_L_shift_566 : decode method_6_code 566 = .ok (.aload 5, 2) := by decide +kernel
theorem d_L_shift_568 : decode method_6_code 568 = .ok (.iload 20, 2) := by decide +kernel
theorem d_L_shift_570 : decode method_6_code 570 = .ok (.dup2, 1) := by decide +kernel
theorem d_L_shift_571 : decode method_6_code 571 = .ok (.iaload, 1) := by decide +kernel
theorem d_L_shift_572 : decode method_6_code 572 = .ok (.iload 28, 2) := by decide +kernel
theorem d_L_shift_574 : decode method_6_code 574 = .ok (.iload 27, 2) := by decide +kernel
theorem d_L_shift_576 : decode method_6_code 576 = .ok (.if_icmp .ne 7, 3) := by decide +kernel
theorem d_L_shift_579 : decode method_6_code 579 = .ok (.iconst 1, 1) := by decide +kernel
theorem d_L_shift_580 : decode method_6_code 580 = .ok (.goto 4, 3) := by decide +kernel
theorem d_L_shift_583 : decode method_6_code 583 = .ok (.iconst 0, 1) := by decide +kernel
theorem d_L_shift_584 : decode method_6_code 584 = .ok (.iadd, 1) := by decide +kernel
theorem d_L_shift_585 : decode method_6_code 585 = .ok (.iastore, 1) := by decide +kernel
theorem d_L_shift_586 : decode method_6_code 586 = .ok (.iload 28, 2) := by decide +kernel
theorem d_L_shift_588 : decode method_6_code 588 = .ok (.iload 27, 2) := by decide +kernel
theorem d_L_shift_590 : decode method_6_code 590 = .ok (.if_icmp .lt 10, 3) := by decide +kernel
theorem d_L_shift_593 : decode method_6_code 593 = .ok (.iload 9, 2) := by decide +kernel
theorem d_L_shift_595 : decode method_6_code 595 = .ok (.iload 10, 2) := by decide +kernel
theorem d_L_shift_597 : decode method_6_code 597 = .ok (.if_icmp .ne 46, 3) := by decide +kernel
theorem d_L_shift_600 : decode method_6_code 600 = .ok (.iconst 3, 1) := by decide +kernel
theorem d_L_shift_601 : decode method_6_code 601 = .ok (.iload 22, 2) := by decide +kernel
theorem d_L_shift_603 : decode method_6_code 603 = .ok (.imul, 1) := by decide +kernel
theorem d_L_shift_604 : decode method_6_code 604 = .ok (.bipush 100, 2) := by decide +kernel
theorem d_L_shift_606 : decode method_6_code 606 = .ok (.iadd, 1) := by decide +kernel
theorem d_L_shift_607 : decode method_6_code 607 = .ok (.iload 12, 2) := by decide +kernel
theorem d_L_shift_609 : decode method_6_code 609 = .ok (.if_icmp .le 9, 3) := by decide +kernel
theorem d_L_shift_612 : decode method_6_code 612 = .ok (.iconst 3, 1) := by decide +kernel
theorem d_L_shift_613 : decode method_6_code 613 = .ok (.istore 16, 2) := by decide +kernel
theorem d_L_shift_615 : decode method_6_code 615 = .ok (.goto 28, 3) := by decide +kernel
theorem d_L_shift_618 : decode method_6_code 618 = .ok (.iload 12, 2) := by decide +kernel
theorem d_L_shift_620 : decode method_6_code 620 = .ok (.iconst 2, 1) := by decide +kernel
theorem d_L_shift_621 : decode method_6_code 621 = .ok (.iload 22, 2) := by decide +kernel
theorem d_L_shift_623 : decode method_6_code 623 = .ok (.imul, 1) := by decide +kernel
