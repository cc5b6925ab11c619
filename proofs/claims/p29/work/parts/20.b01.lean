theorem d_L_shift_85 : decode method_6_code 85 = .ok (.aload_n 0, 1) := by decide +kernel
theorem d_L_shift_86 : decode method_6_code 86 = .ok (.iload 7, 2) := by decide +kernel
theorem d_L_shift_88 : decode method_6_code 88 = .ok (.iconst 0, 1) := by decide +kernel
theorem d_L_shift_89 : decode method_6_code 89 = .ok (.invokevirtual 47, 3) := by decide +kernel
theorem d_L_shift_92 : decode method_6_code 92 = .ok (.irem, 1) := by decide +kernel
theorem d_L_shift_93 : decode method_6_code 93 = .ok (.iconst 0, 1) := by decide +kernel
theorem d_L_shift_94 : decode method_6_code 94 = .ok (.invokevirtual 50, 3) := by decide +kernel
theorem d_L_shift_97 : decode method_6_code 97 = .ok (.iastore, 1) := by decide +kernel
theorem d_L_shift_98 : decode method_6_code 98 = .ok (.aload 4, 2) := by decide +kernel
theorem d_L_shift_100 : decode method_6_code 100 = .ok (.bipush 12, 2) := by decide +kernel
theorem d_L_shift_102 : decode method_6_code 102 = .ok (.iload 7, 2) := by decide +kernel
theorem d_L_shift_104 : decode method_6_code 104 = .ok (.imul, 1) := by decide +kernel
theorem d_L_shift_105 : decode method_6_code 105 = .ok (.iload 8, 2) := by decide +kernel
theorem d_L_shift_107 : decode method_6_code 107 = .ok (.iadd, 1) := by decide +kernel
theorem d_L_shift_108 : decode method_6_code 108 = .ok (.aload_n 0, 1) := by decide +kernel
theorem d_L_shift_109 : decode method_6_code 109 = .ok (.iload 7, 2) := by decide +kernel
theorem d_L_shift_111 : decode method_6_code 111 = .ok (.iload 8, 2) := by decide +kernel
theorem d_L_shift_113 : decode method_6_code 113 = .ok (.aload_n 0, 1) := by decide +kernel
theorem d_L_shift_114 : decode method_6_code 114 = .ok (.iload 7, 2) := by decide +kernel
theorem d_L_shift_116 : decode method_6_code 116 = .ok (.iconst 0, 1) := by decide +kernel
theorem d_L_shift_117 : decode method_6_code 117 = .ok (.invokevirtual 47, 3) := by decide +kernel
theorem d_L_shift_120 : decode method_6_code 120 = .ok (.idiv, 1) := by decide +kernel
theorem d_L_shift_121 : decode method_6_code 121 = .ok (.iload 8, 2) := by decide +kernel
theorem d_L_shift_123 : decode method_6_code 123 = .ok (.aload_n 0, 1) := by decide +kernel
theorem d_L_shift_124 : decode method_6_code 124 = .ok (.iload 7, 2) := by decide +kernel
theorem d_L_shift_126 : decode method_6_code 126 = .ok (.iconst 0, 1) := by decide +kernel
theorem d_L_shift_127 : decode method_6_code 127 = .ok (.invokevirtual 47, 3) := by decide +kernel
theorem d_L_shift_130 : decode method_6_code 130 = .ok (.irem, 1) := by decide +kernel
theorem d_L_shift_131 : decode method_6_code 131 = .ok (.iconst 1, 1) := by decide +kernel
theorem d_L_shift_132 : decode method_6_code 132 = .ok (.invokevirtual 50, 3) := by decide +kernel
theorem d_L_shift_135 : decode method_6_code 135 = .ok (.iastore, 1) := by decide +kernel
theorem d_L_shift_136 : decode method_6_code 136 = .ok (.iinc 8 1, 3) := by decide +kernel
theorem d_L_shift_139 : decode method_6_code 139 = .ok (.goto (-92), 3) := by decide +kernel
theorem d_L_shift_142 : decode method_6_code 142 = .ok (.iinc 7 1, 3) := by decide +kernel
theorem d_L_shift_145 : decode method_6_code 145 = .ok (.goto (-107), 3) := by decide +kernel
theorem d_L_shift_148 : decode method_6_code 148 = .ok (.aload_n 0, 1) := by decide +kernel
theorem d_L_shift_149 : decode method_6_code 149 = .ok (.iconst 2, 1) := by decide +kernel
theorem d_L_shift_150 : decode method_6_code 150 = .ok (.invokevirtual 44, 3) := by decide +kernel
theorem d_L_shift_153 : decode method_6_code 153 = .ok (.istore 7, 2) := by decide +kernel
theorem d_L_shift_155 : decode method_6_code 155 = .ok (.aload_n 0, 1) := by decide +kernel
theorem d_L_shift_156 : decode method_6_code 156 = .ok (.iconst 3, 1) := by decide +kernel
theorem d_L_shift_157 : decode method_6_code 157 = .ok (.invokevirtual 44, 3) := by decide +kernel
theorem d_L_shift_160 : decode method_6_code 160 = .ok (.istore 8, 2) := by decide +kernel
theorem d_L_shift_162 : decode method_6_code 162 = .ok (.aload_n 0, 1) := by decide +kernel
theorem d_L_shift_163 : decode method_6_code 163 = .ok (.iconst 4, 1) := by decide +kernel
theorem d_L_shift_164 : decode method_6_code 164 = .ok (.invokevirtual 44, 3) := by decide +kernel
theorem d_L_shift_167 : decode method_6_code 167 = .ok (.istore 9, 2) := by decide +kernel
theorem d_L_shift_169 : decode method_6_code 169 = .ok (.aload_n 0, 1) := by decide +kernel
theorem d_L_shift_170 : decode method_6_code 170 = .ok (.iconst 5, 1) := by decide +kernel
theorem d_L_shift_171 : decode method_6_code 171 = .ok (.invokevirtual 44, 3) := by decide +kernel
