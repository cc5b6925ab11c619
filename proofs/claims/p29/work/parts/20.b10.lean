theorem d_L_shift_919 : decode method_6_code 919 = .ok (.iload 24, 2) := by decide +kernel
theorem d_L_shift_921 : decode method_6_code 921 = .ok (.ifCond .eq 46, 3) := by decide +kernel
theorem d_L_shift_924 : decode method_6_code 924 = .ok (.aload_n 0, 1) := by decide +kernel
theorem d_L_shift_925 : decode method_6_code 925 = .ok (.iload 25, 2) := by decide +kernel
theorem d_L_shift_927 : decode method_6_code 927 = .ok (.iconst 2, 1) := by decide +kernel
theorem d_L_shift_928 : decode method_6_code 928 = .ok (.invokevirtual 52, 3) := by decide +kernel
theorem d_L_shift_931 : decode method_6_code 931 = .ok (.aload 5, 2) := by decide +kernel
theorem d_L_shift_933 : decode method_6_code 933 = .ok (.iload 25, 2) := by decide +kernel
theorem d_L_shift_935 : decode method_6_code 935 = .ok (.iaload, 1) := by decide +kernel
theorem d_L_shift_936 : decode method_6_code 936 = .ok (.if_icmp .ne 22, 3) := by decide +kernel
theorem d_L_shift_939 : decode method_6_code 939 = .ok (.aload_n 0, 1) := by decide +kernel
theorem d_L_shift_940 : decode method_6_code 940 = .ok (.iload 25, 2) := by decide +kernel
theorem d_L_shift_942 : decode method_6_code 942 = .ok (.iconst 3, 1) := by decide +kernel
theorem d_L_shift_943 : decode method_6_code 943 = .ok (.invokevirtual 52, 3) := by decide +kernel
theorem d_L_shift_946 : decode method_6_code 946 = .ok (.aload 6, 2) := by decide +kernel
theorem d_L_shift_948 : decode method_6_code 948 = .ok (.iload 25, 2) := by decide +kernel
theorem d_L_shift_950 : decode method_6_code 950 = .ok (.iaload, 1) := by decide +kernel
theorem d_L_shift_951 : decode method_6_code 951 = .ok (.if_icmp .ne 7, 3) := by decide +kernel
theorem d_L_shift_954 : decode method_6_code 954 = .ok (.iconst 1, 1) := by decide +kernel
theorem d_L_shift_955 : decode method_6_code 955 = .ok (.goto 4, 3) := by decide +kernel
theorem d_L_shift_958 : decode method_6_code 958 = .ok (.iconst 0, 1) := by decide +kernel
theorem d_L_shift_959 : decode method_6_code 959 = .ok (.istore 24, 2) := by decide +kernel
theorem d_L_shift_961 : decode method_6_code 961 = .ok (.iinc 25 1, 3) := by decide +kernel
theorem d_L_shift_964 : decode method_6_code 964 = .ok (.goto (-51), 3) := by decide +kernel
theorem d_L_shift_967 : decode method_6_code 967 = .ok (.iconst 0, 1) := by decide +kernel
theorem d_L_shift_968 : decode method_6_code 968 = .ok (.istore 25, 2) := by decide +kernel
theorem d_L_shift_970 : decode method_6_code 970 = .ok (.iload 25, 2) := by decide +kernel
theorem d_L_shift_972 : decode method_6_code 972 = .ok (.iload_n 1, 1) := by decide +kernel
theorem d_L_shift_973 : decode method_6_code 973 = .ok (.if_icmp .ge 89, 3) := by decide +kernel
theorem d_L_shift_976 : decode method_6_code 976 = .ok (.iload 24, 2) := by decide +kernel
theorem d_L_shift_978 : decode method_6_code 978 = .ok (.ifCond .eq 84, 3) := by decide +kernel
theorem d_L_shift_981 : decode method_6_code 981 = .ok (.iconst 0, 1) := by decide +kernel
theorem d_L_shift_982 : decode method_6_code 982 = .ok (.istore 26, 2) := by decide +kernel
theorem d_L_shift_984 : decode method_6_code 984 = .ok (.iload 26, 2) := by decide +kernel
theorem d_L_shift_986 : decode method_6_code 986 = .ok (.iconst 2, 1) := by decide +kernel
theorem d_L_shift_987 : decode method_6_code 987 = .ok (.aload_n 0, 1) := by decide +kernel
theorem d_L_shift_988 : decode method_6_code 988 = .ok (.iload 25, 2) := by decide +kernel
theorem d_L_shift_990 : decode method_6_code 990 = .ok (.iconst 0, 1) := by decide +kernel
theorem d_L_shift_991 : decode method_6_code 991 = .ok (.invokevirtual 47, 3) := by decide +kernel
theorem d_L_shift_994 : decode method_6_code 994 = .ok (.imul, 1) := by decide +kernel
theorem d_L_shift_995 : decode method_6_code 995 = .ok (.if_icmp .ge 61, 3) := by decide +kernel
theorem d_L_shift_998 : decode method_6_code 998 = .ok (.iload 24, 2) := by decide +kernel
theorem d_L_shift_1000 : decode method_6_code 1000 = .ok (.ifCond .eq 56, 3) := by decide +kernel
theorem d_L_shift_1003 : decode method_6_code 1003 = .ok (.aload_n 0, 1) := by decide +kernel
theorem d_L_shift_1004 : decode method_6_code 1004 = .ok (.iload 25, 2) := by decide +kernel
theorem d_L_shift_1006 : decode method_6_code 1006 = .ok (.iload 26, 2) := by decide +kernel
theorem d_L_shift_1008 : decode method_6_code 1008 = .ok (.aload_n 0, 1) := by decide +kernel
theorem d_L_shift_1009 : decode method_6_code 1009 = .ok (.iload 25, 2) := by decide +kernel
theorem d_L_shift_1011 : decode method_6_code 1011 = .ok (.iconst 0, 1) := by decide +kernel
theorem d_L_shift_1012 : decode method_6_code 1012 = .ok (.invokevirtual 47, 3) := by decide +kernel
