theorem d_L_town_107 : decode method_4_code 107 = .ok (.imul, 1) := by decide +kernel
theorem d_L_town_108 : decode method_4_code 108 = .ok (.iload 8, 2) := by decide +kernel
theorem d_L_town_110 : decode method_4_code 110 = .ok (.bipush 6, 2) := by decide +kernel
theorem d_L_town_112 : decode method_4_code 112 = .ok (.idiv, 1) := by decide +kernel
theorem d_L_town_113 : decode method_4_code 113 = .ok (.iadd, 1) := by decide +kernel
theorem d_L_town_114 : decode method_4_code 114 = .ok (.ishr, 1) := by decide +kernel
theorem d_L_town_115 : decode method_4_code 115 = .ok (.istore 9, 2) := by decide +kernel
theorem d_L_town_117 : decode method_4_code 117 = .ok (.iload 9, 2) := by decide +kernel
theorem d_L_town_119 : decode method_4_code 119 = .ok (.iload 9, 2) := by decide +kernel
theorem d_L_town_121 : decode method_4_code 121 = .ok (.bipush 9, 2) := by decide +kernel
theorem d_L_town_123 : decode method_4_code 123 = .ok (.ishr, 1) := by decide +kernel
theorem d_L_town_124 : decode method_4_code 124 = .ok (.iconst 3, 1) := by decide +kernel
theorem d_L_town_125 : decode method_4_code 125 = .ok (.invokestatic 16, 3) := by decide +kernel
theorem d_L_town_128 : decode method_4_code 128 = .ok (.ifCond .ne 8, 3) := by decide +kernel
theorem d_L_town_131 : decode method_4_code 131 = .ok (.bipush 100, 2) := by decide +kernel
theorem d_L_town_133 : decode method_4_code 133 = .ok (.goto 5, 3) := by decide +kernel
theorem d_L_town_136 : decode method_4_code 136 = .ok (.bipush 40, 2) := by decide +kernel
theorem d_L_town_138 : decode method_4_code 138 = .ok (.invokestatic 16, 3) := by decide +kernel
theorem d_L_town_141 : decode method_4_code 141 = .ok (.istore 10, 2) := by decide +kernel
theorem d_L_town_143 : decode method_4_code 143 = .ok (.aload_n 0, 1) := by decide +kernel
theorem d_L_town_144 : decode method_4_code 144 = .ok (.iload 5, 2) := by decide +kernel
theorem d_L_town_146 : decode method_4_code 146 = .ok (.iload 8, 2) := by decide +kernel
theorem d_L_town_148 : decode method_4_code 148 = .ok (.iload 7, 2) := by decide +kernel
theorem d_L_town_150 : decode method_4_code 150 = .ok (.idiv, 1) := by decide +kernel
theorem d_L_town_151 : decode method_4_code 151 = .ok (.iload 8, 2) := by decide +kernel
theorem d_L_town_153 : decode method_4_code 153 = .ok (.iload 7, 2) := by decide +kernel
theorem d_L_town_155 : decode method_4_code 155 = .ok (.irem, 1) := by decide +kernel
theorem d_L_town_156 : decode method_4_code 156 = .ok (.iload 10, 2) := by decide +kernel
theorem d_L_town_158 : decode method_4_code 158 = .ok (.invokevirtual 26, 3) := by decide +kernel
theorem d_L_town_161 : decode method_4_code 161 = .ok (.ifCond .ne 35, 3) := by decide +kernel
theorem d_L_town_164 : decode method_4_code 164 = .ok (.iload 9, 2) := by decide +kernel
theorem d_L_town_166 : decode method_4_code 166 = .ok (.bipush 12, 2) := by decide +kernel
theorem d_L_town_168 : decode method_4_code 168 = .ok (.ishr, 1) := by decide +kernel
theorem d_L_town_169 : decode method_4_code 169 = .ok (.iconst 5, 1) := by decide +kernel
theorem d_L_town_170 : decode method_4_code 170 = .ok (.invokestatic 16, 3) := by decide +kernel
theorem d_L_town_173 : decode method_4_code 173 = .ok (.ifCond .ne 25, 3) := by decide +kernel
theorem d_L_town_176 : decode method_4_code 176 = .ok (.aload_n 0, 1) := by decide +kernel
theorem d_L_town_177 : decode method_4_code 177 = .ok (.iload 5, 2) := by decide +kernel
theorem d_L_town_179 : decode method_4_code 179 = .ok (.iload 8, 2) := by decide +kernel
theorem d_L_town_181 : decode method_4_code 181 = .ok (.iload 7, 2) := by decide +kernel
theorem d_L_town_183 : decode method_4_code 183 = .ok (.idiv, 1) := by decide +kernel
theorem d_L_town_184 : decode method_4_code 184 = .ok (.iload 8, 2) := by decide +kernel
theorem d_L_town_186 : decode method_4_code 186 = .ok (.iload 7, 2) := by decide +kernel
theorem d_L_town_188 : decode method_4_code 188 = .ok (.irem, 1) := by decide +kernel
theorem d_L_town_189 : decode method_4_code 189 = .ok (.iconst 1, 1) := by decide +kernel
theorem d_L_town_190 : decode method_4_code 190 = .ok (.invokevirtual 30, 3) := by decide +kernel
theorem d_L_town_193 : decode method_4_code 193 = .ok (.ifCond .eq 5, 3) := by decide +kernel
theorem d_L_town_196 : decode method_4_code 196 = .ok (.iconst 0, 1) := by decide +kernel
theorem d_L_town_197 : decode method_4_code 197 = .ok (.ireturn, 1) := by decide +kernel
theorem d_L_town_198 : decode method_4_code 198 = .ok (.iinc 8 1, 3) := by decide +kernel
theorem d_L_town_201 : decode method_4_code 201 = .ok (.goto (-119), 3) := by decide +kernel
theorem d_L_town_204 : decode method_4_code 204 = .ok (.iinc 5 1, 3) := by decide +kernel
theorem d_L_town_207 : decode method_4_code 207 = .ok (.goto (-204), 3) := by decide +kernel
theorem d_L_town_210 : decode method_4_code 210 = .ok (.aload_n 1, 1) := by decide +kernel
theorem d_L_town_211 : decode method_4_code 211 = .ok (.iload_n 2, 1) := by decide +kernel
theorem d_L_town_212 : decode method_4_code 212 = .ok (.bipush 9, 2) := by decide +kernel
theorem d_L_town_214 : decode method_4_code 214 = .ok (.iadd, 1) := by decide +kernel
theorem d_L_town_215 : decode method_4_code 215 = .ok (.invokestatic 10, 3) := by decide +kernel
theorem d_L_town_218 : decode method_4_code 218 = .ok (.istore 5, 2) := by decide +kernel
theorem d_L_town_220 : decode method_4_code 220 = .ok (.iconst 0, 1) := by decide +kernel
