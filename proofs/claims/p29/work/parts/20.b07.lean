theorem d_L_shift_624 : decode method_6_code 624 = .ok (.bipush 100, 2) := by decide +kernel
theorem d_L_shift_626 : decode method_6_code 626 = .ok (.iadd, 1) := by decide +kernel
theorem d_L_shift_627 : decode method_6_code 627 = .ok (.isub, 1) := by decide +kernel
theorem d_L_shift_628 : decode method_6_code 628 = .ok (.istore 12, 2) := by decide +kernel
theorem d_L_shift_630 : decode method_6_code 630 = .ok (.iload 14, 2) := by decide +kernel
theorem d_L_shift_632 : decode method_6_code 632 = .ok (.iload 9, 2) := by decide +kernel
theorem d_L_shift_634 : decode method_6_code 634 = .ok (.iadd, 1) := by decide +kernel
theorem d_L_shift_635 : decode method_6_code 635 = .ok (.istore 14, 2) := by decide +kernel
theorem d_L_shift_637 : decode method_6_code 637 = .ok (.iconst 0, 1) := by decide +kernel
theorem d_L_shift_638 : decode method_6_code 638 = .ok (.istore 9, 2) := by decide +kernel
theorem d_L_shift_640 : decode method_6_code 640 = .ok (.iinc 17 1, 3) := by decide +kernel
theorem d_L_shift_643 : decode method_6_code 643 = .ok (.goto (-282), 3) := by decide +kernel
theorem d_L_shift_646 : decode method_6_code 646 = .ok (.iload 20, 2) := by decide +kernel
theorem d_L_shift_648 : decode method_6_code 648 = .ok (.iload 16, 2) := by decide +kernel
theorem d_L_shift_650 : decode method_6_code 650 = .ok (.ifCond .ne 7, 3) := by decide +kernel
theorem d_L_shift_653 : decode method_6_code 653 = .ok (.iconst 1, 1) := by decide +kernel
theorem d_L_shift_654 : decode method_6_code 654 = .ok (.goto 4, 3) := by decide +kernel
theorem d_L_shift_657 : decode method_6_code 657 = .ok (.iconst 0, 1) := by decide +kernel
theorem d_L_shift_658 : decode method_6_code 658 = .ok (.iadd, 1) := by decide +kernel
theorem d_L_shift_659 : decode method_6_code 659 = .ok (.istore 20, 2) := by decide +kernel
theorem d_L_shift_661 : decode method_6_code 661 = .ok (.goto (-436), 3) := by decide +kernel
theorem d_L_shift_664 : decode method_6_code 664 = .ok (.iload 12, 2) := by decide +kernel
theorem d_L_shift_666 : decode method_6_code 666 = .ok (.iload 15, 2) := by decide +kernel
theorem d_L_shift_668 : decode method_6_code 668 = .ok (.ifCond .ge 7, 3) := by decide +kernel
theorem d_L_shift_671 : decode method_6_code 671 = .ok (.iconst 0, 1) := by decide +kernel
theorem d_L_shift_672 : decode method_6_code 672 = .ok (.goto 13, 3) := by decide +kernel
theorem d_L_shift_675 : decode method_6_code 675 = .ok (.bipush 10, 2) := by decide +kernel
theorem d_L_shift_677 : decode method_6_code 677 = .ok (.aload_n 0, 1) := by decide +kernel
theorem d_L_shift_678 : decode method_6_code 678 = .ok (.iload 15, 2) := by decide +kernel
theorem d_L_shift_680 : decode method_6_code 680 = .ok (.iconst 1, 1) := by decide +kernel
theorem d_L_shift_681 : decode method_6_code 681 = .ok (.invokevirtual 47, 3) := by decide +kernel
theorem d_L_shift_684 : decode method_6_code 684 = .ok (.imul, 1) := by decide +kernel
theorem d_L_shift_685 : decode method_6_code 685 = .ok (.isub, 1) := by decide +kernel
theorem d_L_shift_686 : decode method_6_code 686 = .ok (.istore 12, 2) := by decide +kernel
theorem d_L_shift_688 : decode method_6_code 688 = .ok (.iconst 2, 1) := by decide +kernel
theorem d_L_shift_689 : decode method_6_code 689 = .ok (.iload 9, 2) := by decide +kernel
theorem d_L_shift_691 : decode method_6_code 691 = .ok (.imul, 1) := by decide +kernel
theorem d_L_shift_692 : decode method_6_code 692 = .ok (.iload 10, 2) := by decide +kernel
theorem d_L_shift_694 : decode method_6_code 694 = .ok (.if_icmp .lt 13, 3) := by decide +kernel
theorem d_L_shift_697 : decode method_6_code 697 = .ok (.iload 14, 2) := by decide +kernel
theorem d_L_shift_699 : decode method_6_code 699 = .ok (.iload 9, 2) := by decide +kernel
theorem d_L_shift_701 : decode method_6_code 701 = .ok (.iadd, 1) := by decide +kernel
theorem d_L_shift_702 : decode method_6_code 702 = .ok (.istore 14, 2) := by decide +kernel
theorem d_L_shift_704 : decode method_6_code 704 = .ok (.iconst 0, 1) := by decide +kernel
theorem d_L_shift_705 : decode method_6_code 705 = .ok (.istore 9, 2) := by decide +kernel
theorem d_L_shift_707 : decode method_6_code 707 = .ok (.iload 8, 2) := by decide +kernel
theorem d_L_shift_709 : decode method_6_code 709 = .ok (.iload 13, 2) := by decide +kernel
theorem d_L_shift_711 : decode method_6_code 711 = .ok (.if_icmp .ge 12, 3) := by decide +kernel
theorem d_L_shift_714 : decode method_6_code 714 = .ok (.iload 11, 2) := by decide +kernel
theorem d_L_shift_716 : decode method_6_code 716 = .ok (.ifCond .le 7, 3) := by decide +kernel
