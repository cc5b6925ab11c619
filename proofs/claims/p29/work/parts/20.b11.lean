theorem d_L_shift_1015 : decode method_6_code 1015 = .ok (.idiv, 1) := by decide +kernel
theorem d_L_shift_1016 : decode method_6_code 1016 = .ok (.iload 26, 2) := by decide +kernel
theorem d_L_shift_1018 : decode method_6_code 1018 = .ok (.aload_n 0, 1) := by decide +kernel
theorem d_L_shift_1019 : decode method_6_code 1019 = .ok (.iload 25, 2) := by decide +kernel
theorem d_L_shift_1021 : decode method_6_code 1021 = .ok (.iconst 0, 1) := by decide +kernel
theorem d_L_shift_1022 : decode method_6_code 1022 = .ok (.invokevirtual 47, 3) := by decide +kernel
theorem d_L_shift_1025 : decode method_6_code 1025 = .ok (.irem, 1) := by decide +kernel
theorem d_L_shift_1026 : decode method_6_code 1026 = .ok (.iconst 0, 1) := by decide +kernel
theorem d_L_shift_1027 : decode method_6_code 1027 = .ok (.invokevirtual 50, 3) := by decide +kernel
theorem d_L_shift_1030 : decode method_6_code 1030 = .ok (.aload_n 3, 1) := by decide +kernel
theorem d_L_shift_1031 : decode method_6_code 1031 = .ok (.bipush 12, 2) := by decide +kernel
theorem d_L_shift_1033 : decode method_6_code 1033 = .ok (.iload 25, 2) := by decide +kernel
theorem d_L_shift_1035 : decode method_6_code 1035 = .ok (.imul, 1) := by decide +kernel
theorem d_L_shift_1036 : decode method_6_code 1036 = .ok (.iload 26, 2) := by decide +kernel
theorem d_L_shift_1038 : decode method_6_code 1038 = .ok (.iadd, 1) := by decide +kernel
theorem d_L_shift_1039 : decode method_6_code 1039 = .ok (.iaload, 1) := by decide +kernel
theorem d_L_shift_1040 : decode method_6_code 1040 = .ok (.if_icmp .ne 7, 3) := by decide +kernel
theorem d_L_shift_1043 : decode method_6_code 1043 = .ok (.iconst 1, 1) := by decide +kernel
theorem d_L_shift_1044 : decode method_6_code 1044 = .ok (.goto 4, 3) := by decide +kernel
theorem d_L_shift_1047 : decode method_6_code 1047 = .ok (.iconst 0, 1) := by decide +kernel
theorem d_L_shift_1048 : decode method_6_code 1048 = .ok (.istore 24, 2) := by decide +kernel
theorem d_L_shift_1050 : decode method_6_code 1050 = .ok (.iinc 26 1, 3) := by decide +kernel
theorem d_L_shift_1053 : decode method_6_code 1053 = .ok (.goto (-69), 3) := by decide +kernel
theorem d_L_shift_1056 : decode method_6_code 1056 = .ok (.iinc 25 1, 3) := by decide +kernel
theorem d_L_shift_1059 : decode method_6_code 1059 = .ok (.goto (-89), 3) := by decide +kernel
theorem d_L_shift_1062 : decode method_6_code 1062 = .ok (.iload 24, 2) := by decide +kernel
theorem d_L_shift_1064 : decode method_6_code 1064 = .ok (.ifCond .eq 14, 3) := by decide +kernel
theorem d_L_shift_1067 : decode method_6_code 1067 = .ok (.aload_n 0, 1) := by decide +kernel
theorem d_L_shift_1068 : decode method_6_code 1068 = .ok (.invokestatic 65, 3) := by decide +kernel
theorem d_L_shift_1071 : decode method_6_code 1071 = .ok (.ifCond .eq 7, 3) := by decide +kernel
theorem d_L_shift_1074 : decode method_6_code 1074 = .ok (.iconst 1, 1) := by decide +kernel
theorem d_L_shift_1075 : decode method_6_code 1075 = .ok (.goto 4, 3) := by decide +kernel
theorem d_L_shift_1078 : decode method_6_code 1078 = .ok (.iconst 0, 1) := by decide +kernel
theorem d_L_shift_1079 : decode method_6_code 1079 = .ok (.ireturn, 1) := by decide +kernel
