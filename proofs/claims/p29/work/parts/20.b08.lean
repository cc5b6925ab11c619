theorem d_L_shift_719 : decode method_6_code 719 = .ok (.iconst 1, 1) := by decide +kernel
theorem d_L_shift_720 : decode method_6_code 720 = .ok (.goto 4, 3) := by decide +kernel
theorem d_L_shift_723 : decode method_6_code 723 = .ok (.iconst 0, 1) := by decide +kernel
theorem d_L_shift_724 : decode method_6_code 724 = .ok (.istore 21, 2) := by decide +kernel
theorem d_L_shift_726 : decode method_6_code 726 = .ok (.aload_n 0, 1) := by decide +kernel
theorem d_L_shift_727 : decode method_6_code 727 = .ok (.iload 7, 2) := by decide +kernel
theorem d_L_shift_729 : decode method_6_code 729 = .ok (.invokevirtual 55, 3) := by decide +kernel
theorem d_L_shift_732 : decode method_6_code 732 = .ok (.istore 22, 2) := by decide +kernel
theorem d_L_shift_734 : decode method_6_code 734 = .ok (.aload_n 0, 1) := by decide +kernel
theorem d_L_shift_735 : decode method_6_code 735 = .ok (.bipush 7, 2) := by decide +kernel
theorem d_L_shift_737 : decode method_6_code 737 = .ok (.invokevirtual 44, 3) := by decide +kernel
theorem d_L_shift_740 : decode method_6_code 740 = .ok (.istore 23, 2) := by decide +kernel
theorem d_L_shift_742 : decode method_6_code 742 = .ok (.aload_n 0, 1) := by decide +kernel
theorem d_L_shift_743 : decode method_6_code 743 = .ok (.invokevirtual 58, 3) := by decide +kernel
theorem d_L_shift_746 : decode method_6_code 746 = .ok (.iload 18, 2) := by decide +kernel
theorem d_L_shift_748 : decode method_6_code 748 = .ok (.if_icmp .ne 15, 3) := by decide +kernel
theorem d_L_shift_751 : decode method_6_code 751 = .ok (.iload 22, 2) := by decide +kernel
theorem d_L_shift_753 : decode method_6_code 753 = .ok (.iload 18, 2) := by decide +kernel
theorem d_L_shift_755 : decode method_6_code 755 = .ok (.if_icmp .ne 8, 3) := by decide +kernel
theorem d_L_shift_758 : decode method_6_code 758 = .ok (.iload 12, 2) := by decide +kernel
theorem d_L_shift_760 : decode method_6_code 760 = .ok (.ifCond .ge 5, 3) := by decide +kernel
theorem d_L_shift_763 : decode method_6_code 763 = .ok (.iconst 0, 1) := by decide +kernel
theorem d_L_shift_764 : decode method_6_code 764 = .ok (.ireturn, 1) := by decide +kernel
theorem d_L_shift_765 : decode method_6_code 765 = .ok (.aload_n 0, 1) := by decide +kernel
theorem d_L_shift_766 : decode method_6_code 766 = .ok (.iconst 3, 1) := by decide +kernel
theorem d_L_shift_767 : decode method_6_code 767 = .ok (.invokevirtual 44, 3) := by decide +kernel
theorem d_L_shift_770 : decode method_6_code 770 = .ok (.iload 21, 2) := by decide +kernel
theorem d_L_shift_772 : decode method_6_code 772 = .ok (.ifCond .eq 9, 3) := by decide +kernel
theorem d_L_shift_775 : decode method_6_code 775 = .ok (.sipush 1000, 3) := by decide +kernel
theorem d_L_shift_778 : decode method_6_code 778 = .ok (.goto 5, 3) := by decide +kernel
theorem d_L_shift_781 : decode method_6_code 781 = .ok (.iload 8, 2) := by decide +kernel
theorem d_L_shift_783 : decode method_6_code 783 = .ok (.if_icmp .ne 49, 3) := by decide +kernel
theorem d_L_shift_786 : decode method_6_code 786 = .ok (.aload_n 0, 1) := by decide +kernel
theorem d_L_shift_787 : decode method_6_code 787 = .ok (.iconst 4, 1) := by decide +kernel
theorem d_L_shift_788 : decode method_6_code 788 = .ok (.invokevirtual 44, 3) := by decide +kernel
theorem d_L_shift_791 : decode method_6_code 791 = .ok (.iload 9, 2) := by decide +kernel
theorem d_L_shift_793 : decode method_6_code 793 = .ok (.if_icmp .ne 39, 3) := by decide +kernel
theorem d_L_shift_796 : decode method_6_code 796 = .ok (.aload_n 0, 1) := by decide +kernel
theorem d_L_shift_797 : decode method_6_code 797 = .ok (.bipush 6, 2) := by decide +kernel
theorem d_L_shift_799 : decode method_6_code 799 = .ok (.invokevirtual 44, 3) := by decide +kernel
theorem d_L_shift_802 : decode method_6_code 802 = .ok (.iload 11, 2) := by decide +kernel
theorem d_L_shift_804 : decode method_6_code 804 = .ok (.iload 21, 2) := by decide +kernel
theorem d_L_shift_806 : decode method_6_code 806 = .ok (.ifCond .eq 7, 3) := by decide +kernel
theorem d_L_shift_809 : decode method_6_code 809 = .ok (.iconst 1, 1) := by decide +kernel
theorem d_L_shift_810 : decode method_6_code 810 = .ok (.goto 4, 3) := by decide +kernel
theorem d_L_shift_813 : decode method_6_code 813 = .ok (.iconst 0, 1) := by decide +kernel
theorem d_L_shift_814 : decode method_6_code 814 = .ok (.isub, 1) := by decide +kernel
theorem d_L_shift_815 : decode method_6_code 815 = .ok (.if_icmp .ne 17, 3) := by decide +kernel
theorem d_L_shift_818 : decode method_6_code 818 = .ok (.aload_n 0, 1) := by decide +kernel
theorem d_L_shift_819 : decode method_6_code 819 = .ok (.iconst 5, 1) := by decide +kernel
