theorem d_L_shift_0 : decode method_6_code 0 = .ok (.aload_n 0, 1) := by decide +kernel
theorem d_L_shift_1 : decode method_6_code 1 = .ok (.iconst 0, 1) := by decide +kernel
theorem d_L_shift_2 : decode method_6_code 2 = .ok (.invokevirtual 44, 3) := by decide +kernel
theorem d_L_shift_5 : decode method_6_code 5 = .ok (.istore_n 1, 1) := by decide +kernel
theorem d_L_shift_6 : decode method_6_code 6 = .ok (.aload_n 0, 1) := by decide +kernel
theorem d_L_shift_7 : decode method_6_code 7 = .ok (.iconst 1, 1) := by decide +kernel
theorem d_L_shift_8 : decode method_6_code 8 = .ok (.invokevirtual 44, 3) := by decide +kernel
theorem d_L_shift_11 : decode method_6_code 11 = .ok (.istore_n 2, 1) := by decide +kernel
theorem d_L_shift_12 : decode method_6_code 12 = .ok (.bipush 36, 2) := by decide +kernel
theorem d_L_shift_14 : decode method_6_code 14 = .ok (.newarray .int, 2) := by decide +kernel
theorem d_L_shift_16 : decode method_6_code 16 = .ok (.astore_n 3, 1) := by decide +kernel
theorem d_L_shift_17 : decode method_6_code 17 = .ok (.bipush 36, 2) := by decide +kernel
theorem d_L_shift_19 : decode method_6_code 19 = .ok (.newarray .int, 2) := by decide +kernel
theorem d_L_shift_21 : decode method_6_code 21 = .ok (.astore 4, 2) := by decide +kernel
theorem d_L_shift_23 : decode method_6_code 23 = .ok (.bipush 10, 2) := by decide +kernel
theorem d_L_shift_25 : decode method_6_code 25 = .ok (.newarray .int, 2) := by decide +kernel
theorem d_L_shift_27 : decode method_6_code 27 = .ok (.astore 5, 2) := by decide +kernel
theorem d_L_shift_29 : decode method_6_code 29 = .ok (.bipush 10, 2) := by decide +kernel
theorem d_L_shift_31 : decode method_6_code 31 = .ok (.newarray .int, 2) := by decide +kernel
theorem d_L_shift_33 : decode method_6_code 33 = .ok (.astore 6, 2) := by decide +kernel
theorem d_L_shift_35 : decode method_6_code 35 = .ok (.iconst 0, 1) := by decide +kernel
theorem d_L_shift_36 : decode method_6_code 36 = .ok (.istore 7, 2) := by decide +kernel
theorem d_L_shift_38 : decode method_6_code 38 = .ok (.iload 7, 2) := by decide +kernel
theorem d_L_shift_40 : decode method_6_code 40 = .ok (.iload_n 1, 1) := by decide +kernel
theorem d_L_shift_41 : decode method_6_code 41 = .ok (.if_icmp .ge 107, 3) := by decide +kernel
theorem d_L_shift_44 : decode method_6_code 44 = .ok (.iconst 0, 1) := by decide +kernel
theorem d_L_shift_45 : decode method_6_code 45 = .ok (.istore 8, 2) := by decide +kernel
theorem d_L_shift_47 : decode method_6_code 47 = .ok (.iload 8, 2) := by decide +kernel
theorem d_L_shift_49 : decode method_6_code 49 = .ok (.iconst 2, 1) := by decide +kernel
theorem d_L_shift_50 : decode method_6_code 50 = .ok (.aload_n 0, 1) := by decide +kernel
theorem d_L_shift_51 : decode method_6_code 51 = .ok (.iload 7, 2) := by decide +kernel
theorem d_L_shift_53 : decode method_6_code 53 = .ok (.iconst 0, 1) := by decide +kernel
theorem d_L_shift_54 : decode method_6_code 54 = .ok (.invokevirtual 47, 3) := by decide +kernel
theorem d_L_shift_57 : decode method_6_code 57 = .ok (.imul, 1) := by decide +kernel
theorem d_L_shift_58 : decode method_6_code 58 = .ok (.if_icmp .ge 84, 3) := by decide +kernel
theorem d_L_shift_61 : decode method_6_code 61 = .ok (.aload_n 3, 1) := by decide +kernel
theorem d_L_shift_62 : decode method_6_code 62 = .ok (.bipush 12, 2) := by decide +kernel
theorem d_L_shift_64 : decode method_6_code 64 = .ok (.iload 7, 2) := by decide +kernel
theorem d_L_shift_66 : decode method_6_code 66 = .ok (.imul, 1) := by decide +kernel
theorem d_L_shift_67 : decode method_6_code 67 = .ok (.iload 8, 2) := by decide +kernel
theorem d_L_shift_69 : decode method_6_code 69 = .ok (.iadd, 1) := by decide +kernel
theorem d_L_shift_70 : decode method_6_code 70 = .ok (.aload_n 0, 1) := by decide +kernel
theorem d_L_shift_71 : decode method_6_code 71 = .ok (.iload 7, 2) := by decide +kernel
theorem d_L_shift_73 : decode method_6_code 73 = .ok (.iload 8, 2) := by decide +kernel
theorem d_L_shift_75 : decode method_6_code 75 = .ok (.aload_n 0, 1) := by decide +kernel
theorem d_L_shift_76 : decode method_6_code 76 = .ok (.iload 7, 2) := by decide +kernel
theorem d_L_shift_78 : decode method_6_code 78 = .ok (.iconst 0, 1) := by decide +kernel
theorem d_L_shift_79 : decode method_6_code 79 = .ok (.invokevirtual 47, 3) := by decide +kernel
theorem d_L_shift_82 : decode method_6_code 82 = .ok (.idiv, 1) := by decide +kernel
theorem d_L_shift_83 : decode method_6_code 83 = .ok (.iload 8, 2) := by decide +kernel
