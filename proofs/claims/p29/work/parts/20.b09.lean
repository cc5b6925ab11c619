theorem d_L_shift_820 : decode method_6_code 820 = .ok (.invokevirtual 40, 3) := by decide +kernel
theorem d_L_shift_823 : decode method_6_code 823 = .ok (.iload 14, 2) := by decide +kernel
theorem d_L_shift_825 : decode method_6_code 825 = .ok (.if_icmp .ne 7, 3) := by decide +kernel
theorem d_L_shift_828 : decode method_6_code 828 = .ok (.iconst 1, 1) := by decide +kernel
theorem d_L_shift_829 : decode method_6_code 829 = .ok (.goto 4, 3) := by decide +kernel
theorem d_L_shift_832 : decode method_6_code 832 = .ok (.iconst 0, 1) := by decide +kernel
theorem d_L_shift_833 : decode method_6_code 833 = .ok (.istore 24, 2) := by decide +kernel
theorem d_L_shift_835 : decode method_6_code 835 = .ok (.iload 24, 2) := by decide +kernel
theorem d_L_shift_837 : decode method_6_code 837 = .ok (.ifCond .eq 70, 3) := by decide +kernel
theorem d_L_shift_840 : decode method_6_code 840 = .ok (.aload_n 0, 1) := by decide +kernel
theorem d_L_shift_841 : decode method_6_code 841 = .ok (.iconst 0, 1) := by decide +kernel
theorem d_L_shift_842 : decode method_6_code 842 = .ok (.invokevirtual 62, 3) := by decide +kernel
theorem d_L_shift_845 : decode method_6_code 845 = .ok (.iload 16, 2) := by decide +kernel
theorem d_L_shift_847 : decode method_6_code 847 = .ok (.if_icmp .ne 60, 3) := by decide +kernel
theorem d_L_shift_850 : decode method_6_code 850 = .ok (.aload_n 0, 1) := by decide +kernel
theorem d_L_shift_851 : decode method_6_code 851 = .ok (.iconst 1, 1) := by decide +kernel
theorem d_L_shift_852 : decode method_6_code 852 = .ok (.invokevirtual 62, 3) := by decide +kernel
theorem d_L_shift_855 : decode method_6_code 855 = .ok (.iload 23, 2) := by decide +kernel
theorem d_L_shift_857 : decode method_6_code 857 = .ok (.iload 12, 2) := by decide +kernel
theorem d_L_shift_859 : decode method_6_code 859 = .ok (.isub, 1) := by decide +kernel
theorem d_L_shift_860 : decode method_6_code 860 = .ok (.if_icmp .ne 47, 3) := by decide +kernel
theorem d_L_shift_863 : decode method_6_code 863 = .ok (.aload_n 0, 1) := by decide +kernel
theorem d_L_shift_864 : decode method_6_code 864 = .ok (.iconst 2, 1) := by decide +kernel
theorem d_L_shift_865 : decode method_6_code 865 = .ok (.invokevirtual 62, 3) := by decide +kernel
theorem d_L_shift_868 : decode method_6_code 868 = .ok (.iload 17, 2) := by decide +kernel
theorem d_L_shift_870 : decode method_6_code 870 = .ok (.if_icmp .ne 37, 3) := by decide +kernel
theorem d_L_shift_873 : decode method_6_code 873 = .ok (.aload_n 0, 1) := by decide +kernel
theorem d_L_shift_874 : decode method_6_code 874 = .ok (.iconst 3, 1) := by decide +kernel
theorem d_L_shift_875 : decode method_6_code 875 = .ok (.invokevirtual 62, 3) := by decide +kernel
theorem d_L_shift_878 : decode method_6_code 878 = .ok (.iload 18, 2) := by decide +kernel
theorem d_L_shift_880 : decode method_6_code 880 = .ok (.if_icmp .ne 27, 3) := by decide +kernel
theorem d_L_shift_883 : decode method_6_code 883 = .ok (.aload_n 0, 1) := by decide +kernel
theorem d_L_shift_884 : decode method_6_code 884 = .ok (.iconst 4, 1) := by decide +kernel
theorem d_L_shift_885 : decode method_6_code 885 = .ok (.invokevirtual 62, 3) := by decide +kernel
theorem d_L_shift_888 : decode method_6_code 888 = .ok (.iload 19, 2) := by decide +kernel
theorem d_L_shift_890 : decode method_6_code 890 = .ok (.if_icmp .ne 17, 3) := by decide +kernel
theorem d_L_shift_893 : decode method_6_code 893 = .ok (.aload_n 0, 1) := by decide +kernel
theorem d_L_shift_894 : decode method_6_code 894 = .ok (.iconst 5, 1) := by decide +kernel
theorem d_L_shift_895 : decode method_6_code 895 = .ok (.invokevirtual 62, 3) := by decide +kernel
theorem d_L_shift_898 : decode method_6_code 898 = .ok (.iload 20, 2) := by decide +kernel
theorem d_L_shift_900 : decode method_6_code 900 = .ok (.if_icmp .ne 7, 3) := by decide +kernel
theorem d_L_shift_903 : decode method_6_code 903 = .ok (.iconst 1, 1) := by decide +kernel
theorem d_L_shift_904 : decode method_6_code 904 = .ok (.goto 4, 3) := by decide +kernel
theorem d_L_shift_907 : decode method_6_code 907 = .ok (.iconst 0, 1) := by decide +kernel
theorem d_L_shift_908 : decode method_6_code 908 = .ok (.istore 24, 2) := by decide +kernel
theorem d_L_shift_910 : decode method_6_code 910 = .ok (.iconst 0, 1) := by decide +kernel
theorem d_L_shift_911 : decode method_6_code 911 = .ok (.istore 25, 2) := by decide +kernel
theorem d_L_shift_913 : decode method_6_code 913 = .ok (.iload 25, 2) := by decide +kernel
theorem d_L_shift_915 : decode method_6_code 915 = .ok (.iload_n 2, 1) := by decide +kernel
theorem d_L_shift_916 : decode method_6_code 916 = .ok (.if_icmp .ge 51, 3) := by decide +kernel
