theorem d_L_town_0 : decode method_4_code 0 = .ok (.iconst 0, 1) := by decide +kernel
theorem d_L_town_1 : decode method_4_code 1 = .ok (.istore 5, 2) := by decide +kernel
theorem d_L_town_3 : decode method_4_code 3 = .ok (.iload 5, 2) := by decide +kernel
theorem d_L_town_5 : decode method_4_code 5 = .ok (.iload_n 3, 1) := by decide +kernel
theorem d_L_town_6 : decode method_4_code 6 = .ok (.if_icmp .ge 204, 3) := by decide +kernel
theorem d_L_town_9 : decode method_4_code 9 = .ok (.aload_n 1, 1) := by decide +kernel
theorem d_L_town_10 : decode method_4_code 10 = .ok (.iload_n 2, 1) := by decide +kernel
theorem d_L_town_11 : decode method_4_code 11 = .ok (.iload 5, 2) := by decide +kernel
theorem d_L_town_13 : decode method_4_code 13 = .ok (.iadd, 1) := by decide +kernel
theorem d_L_town_14 : decode method_4_code 14 = .ok (.invokestatic 10, 3) := by decide +kernel
theorem d_L_town_17 : decode method_4_code 17 = .ok (.istore 6, 2) := by decide +kernel
theorem d_L_town_19 : decode method_4_code 19 = .ok (.iconst 1, 1) := by decide +kernel
theorem d_L_town_20 : decode method_4_code 20 = .ok (.iload 6, 2) := by decide +kernel
theorem d_L_town_22 : decode method_4_code 22 = .ok (.bipush 6, 2) := by decide +kernel
theorem d_L_town_24 : decode method_4_code 24 = .ok (.invokestatic 16, 3) := by decide +kernel
theorem d_L_town_27 : decode method_4_code 27 = .ok (.iadd, 1) := by decide +kernel
theorem d_L_town_28 : decode method_4_code 28 = .ok (.istore 7, 2) := by decide +kernel
theorem d_L_town_30 : decode method_4_code 30 = .ok (.aload_n 0, 1) := by decide +kernel
theorem d_L_town_31 : decode method_4_code 31 = .ok (.iload 7, 2) := by decide +kernel
theorem d_L_town_33 : decode method_4_code 33 = .ok (.iload 6, 2) := by decide +kernel
theorem d_L_town_35 : decode method_4_code 35 = .ok (.iconst 3, 1) := by decide +kernel
theorem d_L_town_36 : decode method_4_code 36 = .ok (.ishr, 1) := by decide +kernel
theorem d_L_town_37 : decode method_4_code 37 = .ok (.iload 6, 2) := by decide +kernel
theorem d_L_town_39 : decode method_4_code 39 = .ok (.bipush 9, 2) := by decide +kernel
theorem d_L_town_41 : decode method_4_code 41 = .ok (.ishr, 1) := by decide +kernel
theorem d_L_town_42 : decode method_4_code 42 = .ok (.iconst 3, 1) := by decide +kernel
theorem d_L_town_43 : decode method_4_code 43 = .ok (.invokestatic 16, 3) := by decide +kernel
theorem d_L_town_46 : decode method_4_code 46 = .ok (.ifCond .ne 8, 3) := by decide +kernel
theorem d_L_town_49 : decode method_4_code 49 = .ok (.bipush 61, 2) := by decide +kernel
theorem d_L_town_51 : decode method_4_code 51 = .ok (.goto 5, 3) := by decide +kernel
theorem d_L_town_54 : decode method_4_code 54 = .ok (.bipush 10, 2) := by decide +kernel
theorem d_L_town_56 : decode method_4_code 56 = .ok (.invokestatic 16, 3) := by decide +kernel
theorem d_L_town_59 : decode method_4_code 59 = .ok (.iload 6, 2) := by decide +kernel
theorem d_L_town_61 : decode method_4_code 61 = .ok (.bipush 11, 2) := by decide +kernel
theorem d_L_town_63 : decode method_4_code 63 = .ok (.ishr, 1) := by decide +kernel
theorem d_L_town_64 : decode method_4_code 64 = .ok (.bipush 10, 2) := by decide +kernel
theorem d_L_town_66 : decode method_4_code 66 = .ok (.invokestatic 16, 3) := by decide +kernel
theorem d_L_town_69 : decode method_4_code 69 = .ok (.invokevirtual 20, 3) := by decide +kernel
theorem d_L_town_72 : decode method_4_code 72 = .ok (.iload 5, 2) := by decide +kernel
theorem d_L_town_74 : decode method_4_code 74 = .ok (.if_icmp .eq 5, 3) := by decide +kernel
theorem d_L_town_77 : decode method_4_code 77 = .ok (.iconst 0, 1) := by decide +kernel
theorem d_L_town_78 : decode method_4_code 78 = .ok (.ireturn, 1) := by decide +kernel
theorem d_L_town_79 : decode method_4_code 79 = .ok (.iconst 0, 1) := by decide +kernel
theorem d_L_town_80 : decode method_4_code 80 = .ok (.istore 8, 2) := by decide +kernel
theorem d_L_town_82 : decode method_4_code 82 = .ok (.iload 8, 2) := by decide +kernel
theorem d_L_town_84 : decode method_4_code 84 = .ok (.iconst 2, 1) := by decide +kernel
theorem d_L_town_85 : decode method_4_code 85 = .ok (.iload 7, 2) := by decide +kernel
theorem d_L_town_87 : decode method_4_code 87 = .ok (.imul, 1) := by decide +kernel
theorem d_L_town_88 : decode method_4_code 88 = .ok (.if_icmp .ge 116, 3) := by decide +kernel
theorem d_L_town_91 : decode method_4_code 91 = .ok (.aload_n 1, 1) := by decide +kernel
theorem d_L_town_92 : decode method_4_code 92 = .ok (.iload_n 2, 1) := by decide +kernel
theorem d_L_town_93 : decode method_4_code 93 = .ok (.iconst 3, 1) := by decide +kernel
theorem d_L_town_94 : decode method_4_code 94 = .ok (.iadd, 1) := by decide +kernel
theorem d_L_town_95 : decode method_4_code 95 = .ok (.iload 8, 2) := by decide +kernel
theorem d_L_town_97 : decode method_4_code 97 = .ok (.bipush 6, 2) := by decide +kernel
theorem d_L_town_99 : decode method_4_code 99 = .ok (.irem, 1) := by decide +kernel
theorem d_L_town_100 : decode method_4_code 100 = .ok (.iadd, 1) := by decide +kernel
theorem d_L_town_101 : decode method_4_code 101 = .ok (.invokestatic 10, 3) := by decide +kernel
theorem d_L_town_104 : decode method_4_code 104 = .ok (.iconst 3, 1) := by decide +kernel
theorem d_L_town_105 : decode method_4_code 105 = .ok (.iload 5, 2) := by decide +kernel
