theorem d_9_mix_0 : decode prog_1_method_29_code 0 = .ok (.ldc2_w 315, 3) := by decide +kernel
theorem d_9_mix_3 : decode prog_1_method_29_code 3 = .ok (.lload_n 0, 1) := by decide +kernel
theorem d_9_mix_4 : decode prog_1_method_29_code 4 = .ok (.lmul, 1) := by decide +kernel
theorem d_9_mix_5 : decode prog_1_method_29_code 5 = .ok (.iload_n 2, 1) := by decide +kernel
theorem d_9_mix_6 : decode prog_1_method_29_code 6 = .ok (.i2l, 1) := by decide +kernel
theorem d_9_mix_7 : decode prog_1_method_29_code 7 = .ok (.ladd, 1) := by decide +kernel
theorem d_9_mix_8 : decode prog_1_method_29_code 8 = .ok (.lreturn, 1) := by decide +kernel
def m_9_mix (z0 : Int64) (x2 : Int32) (Q : Int64 → St → Prop) (σ : St) : Prop :=
  Q (((31 : Int64) * z0) + (x2).toInt64) σ
theorem d_9_mixStreet_0 : decode prog_1_method_28_code 0 = .ok (.lload_n 1, 1) := by decide +kernel
theorem d_9_mixStreet_1 : decode prog_1_method_28_code 1 = .ok (.lstore 4, 2) := by decide +kernel
theorem d_9_mixStreet_3 : decode prog_1_method_28_code 3 = .ok (.iconst 0, 1) := by decide +kernel
theorem d_9_mixStreet_4 : decode prog_1_method_28_code 4 = .ok (.istore 6, 2) := by decide +kernel
theorem d_9_mixStreet_6 : decode prog_1_method_28_code 6 = .ok (.iload 6, 2) := by decide +kernel
theorem d_9_mixStreet_8 : decode prog_1_method_28_code 8 = .ok (.bipush 7, 2) := by decide +kernel
theorem d_9_mixStreet_10 : decode prog_1_method_28_code 10 = .ok (.if_icmp .gt 23, 3) := by decide +kernel
theorem d_9_mixStreet_13 : decode prog_1_method_28_code 13 = .ok (.lload 4, 2) := by decide +kernel
theorem d_9_mixStreet_15 : decode prog_1_method_28_code 15 = .ok (.aload_n 0, 1) := by decide +kernel
theorem d_9_mixStreet_16 : decode prog_1_method_28_code 16 = .ok (.iload_n 3, 1) := by decide +kernel
theorem d_9_mixStreet_17 : decode prog_1_method_28_code 17 = .ok (.iload 6, 2) := by decide +kernel
theorem d_9_mixStreet_19 : decode prog_1_method_28_code 19 = .ok (.invokevirtual 309, 3) := by decide +kernel
theorem d_9_mixStreet_22 : decode prog_1_method_28_code 22 = .ok (.invokestatic 288, 3) := by decide +kernel
theorem d_9_mixStreet_25 : decode prog_1_method_28_code 25 = .ok (.lstore 4, 2) := by decide +kernel
theorem d_9_mixStreet_27 : decode prog_1_method_28_code 27 = .ok (.iinc 6 1, 3) := by decide +kernel
theorem d_9_mixStreet_30 : decode prog_1_method_28_code 30 = .ok (.goto (-24), 3) := by decide +kernel
theorem d_9_mixStreet_33 : decode prog_1_method_28_code 33 = .ok (.aload_n 0, 1) := by decide +kernel
theorem d_9_mixStreet_34 : decode prog_1_method_28_code 34 = .ok (.getfield 26, 3) := by decide +kernel
theorem d_9_mixStreet_37 : decode prog_1_method_28_code 37 = .ok (.getfield 122, 3) := by decide +kernel
theorem d_9_mixStreet_40 : decode prog_1_method_28_code 40 = .ok (.iload_n 3, 1) := by decide +kernel
theorem d_9_mixStreet_41 : decode prog_1_method_28_code 41 = .ok (.aaload, 1) := by decide +kernel
theorem d_9_mixStreet_42 : decode prog_1_method_28_code 42 = .ok (.getfield 91, 3) := by decide +kernel
theorem d_9_mixStreet_45 : decode prog_1_method_28_code 45 = .ok (.istore 6, 2) := by decide +kernel
theorem d_9_mixStreet_47 : decode prog_1_method_28_code 47 = .ok (.iconst 0, 1) := by decide +kernel
theorem d_9_mixStreet_48 : decode prog_1_method_28_code 48 = .ok (.istore 7, 2) := by decide +kernel
theorem d_9_mixStreet_50 : decode prog_1_method_28_code 50 = .ok (.iload 7, 2) := by decide +kernel
theorem d_9_mixStreet_52 : decode prog_1_method_28_code 52 = .ok (.iconst 2, 1) := by decide +kernel
theorem d_9_mixStreet_53 : decode prog_1_method_28_code 53 = .ok (.if_icmp .ge 58, 3) := by decide +kernel
theorem d_9_mixStreet_56 : decode prog_1_method_28_code 56 = .ok (.iconst 0, 1) := by decide +kernel
theorem d_9_mixStreet_57 : decode prog_1_method_28_code 57 = .ok (.istore 8, 2) := by decide +kernel
theorem d_9_mixStreet_59 : decode prog_1_method_28_code 59 = .ok (.iload 8, 2) := by decide +kernel
theorem d_9_mixStreet_61 : decode prog_1_method_28_code 61 = .ok (.iload 6, 2) := by decide +kernel
theorem d_9_mixStreet_63 : decode prog_1_method_28_code 63 = .ok (.if_icmp .ge 42, 3) := by decide +kernel
theorem d_9_mixStreet_66 : decode prog_1_method_28_code 66 = .ok (.iconst 0, 1) := by decide +kernel
theorem d_9_mixStreet_67 : decode prog_1_method_28_code 67 = .ok (.istore 9, 2) := by decide +kernel
theorem d_9_mixStreet_69 : decode prog_1_method_28_code 69 = .ok (.iload 9, 2) := by decide +kernel
theorem d_9_mixStreet_71 : decode prog_1_method_28_code 71 = .ok (.iconst 2, 1) := by decide +kernel
theorem d_9_mixStreet_72 : decode prog_1_method_28_code 72 = .ok (.if_icmp .gt 27, 3) := by decide +kernel
theorem d_9_mixStreet_75 : decode prog_1_method_28_code 75 = .ok (.lload 4, 2) := by decide +kernel
theorem d_9_mixStreet_77 : decode prog_1_method_28_code 77 = .ok (.aload_n 0, 1) := by decide +kernel
theorem d_9_mixStreet_78 : decode prog_1_method_28_code 78 = .ok (.iload_n 3, 1) := by decide +kernel
theorem d_9_mixStreet_79 : decode prog_1_method_28_code 79 = .ok (.iload 7, 2) := by decide +kernel
theorem d_9_mixStreet_81 : decode prog_1_method_28_code 81 = .ok (.iload 8, 2) := by decide +kernel
theorem d_9_mixStreet_83 : decode prog_1_method_28_code 83 = .ok (.iload 9, 2) := by decide +kernel
theorem d_9_mixStreet_85 : decode prog_1_method_28_code 85 = .ok (.invokevirtual 311, 3) := by decide +kernel
theorem d_9_mixStreet_88 : decode prog_1_method_28_code 88 = .ok (.invokestatic 288, 3) := by decide +kernel
theorem d_9_mixStreet_91 : decode prog_1_method_28_code 91 = .ok (.lstore 4, 2) := by decide +kernel
theorem d_9_mixStreet_93 : decode prog_1_method_28_code 93 = .ok (.iinc 9 1, 3) := by decide +kernel
theorem d_9_mixStreet_96 : decode prog_1_method_28_code 96 = .ok (.goto (-27), 3) := by decide +kernel
theorem d_9_mixStreet_99 : decode prog_1_method_28_code 99 = .ok (.iinc 8 1, 3) := by decide +kernel
theorem d_9_mixStreet_102 : decode prog_1_method_28_code 102 = .ok (.goto (-43), 3) := by decide +kernel
theorem d_9_mixStreet_105 : decode prog_1_method_28_code 105 = .ok (.iinc 7 1, 3) := by decide +kernel
theorem d_9_mixStreet_108 : decode prog_1_method_28_code 108 = .ok (.goto (-58), 3) := by decide +kernel
theorem d_9_mixStreet_111 : decode prog_1_method_28_code 111 = .ok (.lload 4, 2) := by decide +kernel
theorem d_9_mixStreet_113 : decode prog_1_method_28_code 113 = .ok (.lreturn, 1) := by decide +kernel
def m_9_mixStreet_69 (r0 : Nat) (x3 : Int32) (x6 : Int32) (x7 : Int32) (x8 : Int32) (B50 : Int64 → Int32 → St → Prop) (B59 : Int64 → Int32 → St → Prop) (Q : Int64 → St → Prop) (B69 : Int64 → Int32 → St → Prop) (z4 : Int64) (x9 : Int32) (σ : St) : Prop :=
  (((2 : Int32) < x9 → ∀ x8_1 : Int32, x8_1 = x8 + 1 → B59 z4 x8_1 σ) ∧ (¬ (2 : Int32) < x9 → m_9_cell r0 x3 x7 x8 x9 (fun (v_3 : Int32) (σ_2 : St) => m_9_mix z4 v_3 (fun (v_5 : Int64) (σ_4 : St) => ∀ x9_6 : Int32, x9_6 = x9 + 1 → B69 v_5 x9_6 σ_4) σ_2) σ))
def m_9_mixStreet_59 (r0 : Nat) (x3 : Int32) (x6 : Int32) (x7 : Int32) (B50 : Int64 → Int32 → St → Prop) (Q : Int64 → St → Prop) (B59 : Int64 → Int32 → St → Prop) (z4 : Int64) (x8 : Int32) (σ : St) : Prop :=
  ((x6 ≤ x8 → ∀ x7_1 : Int32, x7_1 = x7 + 1 → B50 z4 x7_1 σ) ∧ (¬ x6 ≤ x8 → itN (m_9_mixStreet_69 r0 x3 x6 x7 x8 B50 B59 Q) (fun _ _ _ => False) FU z4 (0 : Int32) σ))
def m_9_mixStreet_50 (r0 : Nat) (x3 : Int32) (x6 : Int32) (Q : Int64 → St → Prop) (B50 : Int64 → Int32 → St → Prop) (z4 : Int64) (x7 : Int32) (σ : St) : Prop :=
  (((2 : Int32) ≤ x7 → Q z4 σ) ∧ (¬ (2 : Int32) ≤ x7 → itN (m_9_mixStreet_59 r0 x3 x6 x7 B50 Q) (fun _ _ _ => False) FU z4 (0 : Int32) σ))
def m_9_mixStreet_6 (r0 : Nat) (x3 : Int32) (Q : Int64 → St → Prop) (B6 : Int64 → Int32 → St → Prop) (z4 : Int64) (x6 : Int32) (σ : St) : Prop :=
  (((7 : Int32) < x6 → vp_in x3 6 ∧ ∀ x6_2 : Int32, x6_2 = (σ.1 (((r0 + 7) + 1) + 5 + 3 * (x3).toNatClampNeg) 0) → itN (m_9_mixStreet_50 r0 x3 x6_2 Q) (fun _ _ _ => False) FU z4 (0 : Int32) σ) ∧ (¬ (7 : Int32) < x6 → m_9_street r0 x3 x6 (fun (v_4 : Int32) (σ_3 : St) => m_9_mix z4 v_4 (fun (v_6 : Int64) (σ_5 : St) => ∀ x6_7 : Int32, x6_7 = x6 + 1 → B6 v_6 x6_7 σ_5) σ_3) σ))
def m_9_mixStreet (r0 : Nat) (z1 : Int64) (x3 : Int32) (Q : Int64 → St → Prop) (σ : St) : Prop :=
  itN (m_9_mixStreet_6 r0 x3 Q) (fun _ _ _ => False) FU z1 (0 : Int32) σ
theorem d_9_digest_0 : decode prog_1_method_27_code 0 = .ok (.ldc2_w 283, 3) := by decide +kernel
theorem d_9_digest_3 : decode prog_1_method_27_code 3 = .ok (.lstore_n 1, 1) := by decide +kernel
theorem d_9_digest_4 : decode prog_1_method_27_code 4 = .ok (.iconst 0, 1) := by decide +kernel
theorem d_9_digest_5 : decode prog_1_method_27_code 5 = .ok (.istore_n 3, 1) := by decide +kernel
theorem d_9_digest_6 : decode prog_1_method_27_code 6 = .ok (.iload_n 3, 1) := by decide +kernel
theorem d_9_digest_7 : decode prog_1_method_27_code 7 = .ok (.bipush 15, 2) := by decide +kernel
theorem d_9_digest_9 : decode prog_1_method_27_code 9 = .ok (.if_icmp .ge 19, 3) := by decide +kernel
theorem d_9_digest_12 : decode prog_1_method_27_code 12 = .ok (.lload_n 1, 1) := by decide +kernel
theorem d_9_digest_13 : decode prog_1_method_27_code 13 = .ok (.aload_n 0, 1) := by decide +kernel
theorem d_9_digest_14 : decode prog_1_method_27_code 14 = .ok (.iload_n 3, 1) := by decide +kernel
theorem d_9_digest_15 : decode prog_1_method_27_code 15 = .ok (.invokevirtual 285, 3) := by decide +kernel
theorem d_9_digest_18 : decode prog_1_method_27_code 18 = .ok (.invokestatic 288, 3) := by decide +kernel
theorem d_9_digest_21 : decode prog_1_method_27_code 21 = .ok (.lstore_n 1, 1) := by decide +kernel
theorem d_9_digest_22 : decode prog_1_method_27_code 22 = .ok (.iinc 3 1, 3) := by decide +kernel
theorem d_9_digest_25 : decode prog_1_method_27_code 25 = .ok (.goto (-19), 3) := by decide +kernel
theorem d_9_digest_28 : decode prog_1_method_27_code 28 = .ok (.iconst 0, 1) := by decide +kernel
theorem d_9_digest_29 : decode prog_1_method_27_code 29 = .ok (.istore_n 3, 1) := by decide +kernel
theorem d_9_digest_30 : decode prog_1_method_27_code 30 = .ok (.iload_n 3, 1) := by decide +kernel
theorem d_9_digest_31 : decode prog_1_method_27_code 31 = .ok (.aload_n 0, 1) := by decide +kernel
theorem d_9_digest_32 : decode prog_1_method_27_code 32 = .ok (.getfield 26, 3) := by decide +kernel
theorem d_9_digest_35 : decode prog_1_method_27_code 35 = .ok (.getfield 70, 3) := by decide +kernel
theorem d_9_digest_38 : decode prog_1_method_27_code 38 = .ok (.if_icmp .ge 16, 3) := by decide +kernel
theorem d_9_digest_41 : decode prog_1_method_27_code 41 = .ok (.aload_n 0, 1) := by decide +kernel
theorem d_9_digest_42 : decode prog_1_method_27_code 42 = .ok (.lload_n 1, 1) := by decide +kernel
theorem d_9_digest_43 : decode prog_1_method_27_code 43 = .ok (.iload_n 3, 1) := by decide +kernel
theorem d_9_digest_44 : decode prog_1_method_27_code 44 = .ok (.invokevirtual 292, 3) := by decide +kernel
theorem d_9_digest_47 : decode prog_1_method_27_code 47 = .ok (.lstore_n 1, 1) := by decide +kernel
theorem d_9_digest_48 : decode prog_1_method_27_code 48 = .ok (.iinc 3 1, 3) := by decide +kernel
theorem d_9_digest_51 : decode prog_1_method_27_code 51 = .ok (.goto (-21), 3) := by decide +kernel
theorem d_9_digest_54 : decode prog_1_method_27_code 54 = .ok (.iconst 0, 1) := by decide +kernel
theorem d_9_digest_55 : decode prog_1_method_27_code 55 = .ok (.istore_n 3, 1) := by decide +kernel
theorem d_9_digest_56 : decode prog_1_method_27_code 56 = .ok (.iload_n 3, 1) := by decide +kernel
theorem d_9_digest_57 : decode prog_1_method_27_code 57 = .ok (.aload_n 0, 1) := by decide +kernel
theorem d_9_digest_58 : decode prog_1_method_27_code 58 = .ok (.getfield 26, 3) := by decide +kernel
theorem d_9_digest_61 : decode prog_1_method_27_code 61 = .ok (.getfield 108, 3) := by decide +kernel
theorem d_9_digest_64 : decode prog_1_method_27_code 64 = .ok (.if_icmp .ge 36, 3) := by decide +kernel
theorem d_9_digest_67 : decode prog_1_method_27_code 67 = .ok (.iconst 0, 1) := by decide +kernel
theorem d_9_digest_68 : decode prog_1_method_27_code 68 = .ok (.istore 4, 2) := by decide +kernel
theorem d_9_digest_70 : decode prog_1_method_27_code 70 = .ok (.iload 4, 2) := by decide +kernel
theorem d_9_digest_72 : decode prog_1_method_27_code 72 = .ok (.iconst 3, 1) := by decide +kernel
theorem d_9_digest_73 : decode prog_1_method_27_code 73 = .ok (.if_icmp .gt 21, 3) := by decide +kernel
theorem d_9_digest_76 : decode prog_1_method_27_code 76 = .ok (.lload_n 1, 1) := by decide +kernel
theorem d_9_digest_77 : decode prog_1_method_27_code 77 = .ok (.aload_n 0, 1) := by decide +kernel
theorem d_9_digest_78 : decode prog_1_method_27_code 78 = .ok (.iload_n 3, 1) := by decide +kernel
theorem d_9_digest_79 : decode prog_1_method_27_code 79 = .ok (.iload 4, 2) := by decide +kernel
theorem d_9_digest_81 : decode prog_1_method_27_code 81 = .ok (.invokevirtual 295, 3) := by decide +kernel
theorem d_9_digest_84 : decode prog_1_method_27_code 84 = .ok (.invokestatic 288, 3) := by decide +kernel
theorem d_9_digest_87 : decode prog_1_method_27_code 87 = .ok (.lstore_n 1, 1) := by decide +kernel
theorem d_9_digest_88 : decode prog_1_method_27_code 88 = .ok (.iinc 4 1, 3) := by decide +kernel
theorem d_9_digest_91 : decode prog_1_method_27_code 91 = .ok (.goto (-21), 3) := by decide +kernel
theorem d_9_digest_94 : decode prog_1_method_27_code 94 = .ok (.iinc 3 1, 3) := by decide +kernel
theorem d_9_digest_97 : decode prog_1_method_27_code 97 = .ok (.goto (-41), 3) := by decide +kernel
theorem d_9_digest_100 : decode prog_1_method_27_code 100 = .ok (.iconst 0, 1) := by decide +kernel
theorem d_9_digest_101 : decode prog_1_method_27_code 101 = .ok (.istore_n 3, 1) := by decide +kernel
theorem d_9_digest_102 : decode prog_1_method_27_code 102 = .ok (.iload_n 3, 1) := by decide +kernel
theorem d_9_digest_103 : decode prog_1_method_27_code 103 = .ok (.iconst 5, 1) := by decide +kernel
theorem d_9_digest_104 : decode prog_1_method_27_code 104 = .ok (.if_icmp .gt 19, 3) := by decide +kernel
theorem d_9_digest_107 : decode prog_1_method_27_code 107 = .ok (.lload_n 1, 1) := by decide +kernel
theorem d_9_digest_108 : decode prog_1_method_27_code 108 = .ok (.aload_n 0, 1) := by decide +kernel
theorem d_9_digest_109 : decode prog_1_method_27_code 109 = .ok (.iload_n 3, 1) := by decide +kernel
theorem d_9_digest_110 : decode prog_1_method_27_code 110 = .ok (.invokevirtual 297, 3) := by decide +kernel
theorem d_9_digest_113 : decode prog_1_method_27_code 113 = .ok (.invokestatic 288, 3) := by decide +kernel
theorem d_9_digest_116 : decode prog_1_method_27_code 116 = .ok (.lstore_n 1, 1) := by decide +kernel
theorem d_9_digest_117 : decode prog_1_method_27_code 117 = .ok (.iinc 3 1, 3) := by decide +kernel
theorem d_9_digest_120 : decode prog_1_method_27_code 120 = .ok (.goto (-18), 3) := by decide +kernel
theorem d_9_digest_123 : decode prog_1_method_27_code 123 = .ok (.iconst 0, 1) := by decide +kernel
theorem d_9_digest_124 : decode prog_1_method_27_code 124 = .ok (.istore_n 3, 1) := by decide +kernel
theorem d_9_digest_125 : decode prog_1_method_27_code 125 = .ok (.iload_n 3, 1) := by decide +kernel
theorem d_9_digest_126 : decode prog_1_method_27_code 126 = .ok (.bipush 6, 2) := by decide +kernel
theorem d_9_digest_128 : decode prog_1_method_27_code 128 = .ok (.if_icmp .gt 19, 3) := by decide +kernel
theorem d_9_digest_131 : decode prog_1_method_27_code 131 = .ok (.lload_n 1, 1) := by decide +kernel
theorem d_9_digest_132 : decode prog_1_method_27_code 132 = .ok (.aload_n 0, 1) := by decide +kernel
theorem d_9_digest_133 : decode prog_1_method_27_code 133 = .ok (.iload_n 3, 1) := by decide +kernel
theorem d_9_digest_134 : decode prog_1_method_27_code 134 = .ok (.invokevirtual 300, 3) := by decide +kernel
theorem d_9_digest_137 : decode prog_1_method_27_code 137 = .ok (.invokestatic 288, 3) := by decide +kernel
theorem d_9_digest_140 : decode prog_1_method_27_code 140 = .ok (.lstore_n 1, 1) := by decide +kernel
theorem d_9_digest_141 : decode prog_1_method_27_code 141 = .ok (.iinc 3 1, 3) := by decide +kernel
theorem d_9_digest_144 : decode prog_1_method_27_code 144 = .ok (.goto (-19), 3) := by decide +kernel
theorem d_9_digest_147 : decode prog_1_method_27_code 147 = .ok (.iconst 1, 1) := by decide +kernel
theorem d_9_digest_148 : decode prog_1_method_27_code 148 = .ok (.istore_n 3, 1) := by decide +kernel
theorem d_9_digest_149 : decode prog_1_method_27_code 149 = .ok (.iload_n 3, 1) := by decide +kernel
theorem d_9_digest_150 : decode prog_1_method_27_code 150 = .ok (.iconst 4, 1) := by decide +kernel
theorem d_9_digest_151 : decode prog_1_method_27_code 151 = .ok (.if_icmp .gt 19, 3) := by decide +kernel
theorem d_9_digest_154 : decode prog_1_method_27_code 154 = .ok (.lload_n 1, 1) := by decide +kernel
theorem d_9_digest_155 : decode prog_1_method_27_code 155 = .ok (.aload_n 0, 1) := by decide +kernel
theorem d_9_digest_156 : decode prog_1_method_27_code 156 = .ok (.iload_n 3, 1) := by decide +kernel
theorem d_9_digest_157 : decode prog_1_method_27_code 157 = .ok (.invokevirtual 303, 3) := by decide +kernel
theorem d_9_digest_160 : decode prog_1_method_27_code 160 = .ok (.invokestatic 288, 3) := by decide +kernel
theorem d_9_digest_163 : decode prog_1_method_27_code 163 = .ok (.lstore_n 1, 1) := by decide +kernel
theorem d_9_digest_164 : decode prog_1_method_27_code 164 = .ok (.iinc 3 1, 3) := by decide +kernel
theorem d_9_digest_167 : decode prog_1_method_27_code 167 = .ok (.goto (-18), 3) := by decide +kernel
theorem d_9_digest_170 : decode prog_1_method_27_code 170 = .ok (.lload_n 1, 1) := by decide +kernel
theorem d_9_digest_171 : decode prog_1_method_27_code 171 = .ok (.aload_n 0, 1) := by decide +kernel
theorem d_9_digest_172 : decode prog_1_method_27_code 172 = .ok (.invokevirtual 306, 3) := by decide +kernel
theorem d_9_digest_175 : decode prog_1_method_27_code 175 = .ok (.invokestatic 288, 3) := by decide +kernel
theorem d_9_digest_178 : decode prog_1_method_27_code 178 = .ok (.lreturn, 1) := by decide +kernel
def m_9_digest_149 (r0 : Nat) (Q : Int64 → St → Prop) (B149 : Int64 → Int32 → St → Prop) (z1 : Int64) (x3 : Int32) (σ : St) : Prop :=
  (((4 : Int32) < x3 → m_9_bestSpeed r0 (fun (v_2 : Int32) (σ_1 : St) => m_9_mix z1 v_2 (fun (v_4 : Int64) (σ_3 : St) => Q v_4 σ_3) σ_1) σ) ∧ (¬ (4 : Int32) < x3 → m_9_ifSpeed r0 x3 (fun (v_6 : Int32) (σ_5 : St) => m_9_mix z1 v_6 (fun (v_8 : Int64) (σ_7 : St) => ∀ x3_9 : Int32, x3_9 = x3 + 1 → B149 v_8 x3_9 σ_7) σ_5) σ))
def m_9_digest_125 (r0 : Nat) (Q : Int64 → St → Prop) (B125 : Int64 → Int32 → St → Prop) (z1 : Int64) (x3 : Int32) (σ : St) : Prop :=
  (((6 : Int32) < x3 → itN (m_9_digest_149 r0 Q) (fun _ _ _ => False) FU z1 (1 : Int32) σ) ∧ (¬ (6 : Int32) < x3 → m_9_account r0 x3 (fun (v_2 : Int32) (σ_1 : St) => m_9_mix z1 v_2 (fun (v_4 : Int64) (σ_3 : St) => ∀ x3_5 : Int32, x3_5 = x3 + 1 → B125 v_4 x3_5 σ_3) σ_1) σ))
def m_9_digest_102 (r0 : Nat) (Q : Int64 → St → Prop) (B102 : Int64 → Int32 → St → Prop) (z1 : Int64) (x3 : Int32) (σ : St) : Prop :=
  (((5 : Int32) < x3 → itN (m_9_digest_125 r0 Q) (fun _ _ _ => False) FU z1 (0 : Int32) σ) ∧ (¬ (5 : Int32) < x3 → m_9_latest r0 x3 (fun (v_2 : Int32) (σ_1 : St) => m_9_mix z1 v_2 (fun (v_4 : Int64) (σ_3 : St) => ∀ x3_5 : Int32, x3_5 = x3 + 1 → B102 v_4 x3_5 σ_3) σ_1) σ))
def m_9_digest_70 (r0 : Nat) (x3 : Int32) (B56 : Int64 → Int32 → St → Prop) (Q : Int64 → St → Prop) (B70 : Int64 → Int32 → St → Prop) (z1 : Int64) (x4 : Int32) (σ : St) : Prop :=
  (((3 : Int32) < x4 → ∀ x3_1 : Int32, x3_1 = x3 + 1 → B56 z1 x3_1 σ) ∧ (¬ (3 : Int32) < x4 → m_9_leg r0 x3 x4 (fun (v_3 : Int32) (σ_2 : St) => m_9_mix z1 v_3 (fun (v_5 : Int64) (σ_4 : St) => ∀ x4_6 : Int32, x4_6 = x4 + 1 → B70 v_5 x4_6 σ_4) σ_2) σ))
def m_9_digest_56 (r0 : Nat) (Q : Int64 → St → Prop) (B56 : Int64 → Int32 → St → Prop) (z1 : Int64) (x3 : Int32) (σ : St) : Prop :=
  (((σ.1 (r0 + 7) 3) ≤ x3 → itN (m_9_digest_102 r0 Q) (fun _ _ _ => False) FU z1 (0 : Int32) σ) ∧ (¬ (σ.1 (r0 + 7) 3) ≤ x3 → itN (m_9_digest_70 r0 x3 B56 Q) (fun _ _ _ => False) FU z1 (0 : Int32) σ))
def m_9_digest_30 (r0 : Nat) (Q : Int64 → St → Prop) (B30 : Int64 → Int32 → St → Prop) (z1 : Int64) (x3 : Int32) (σ : St) : Prop :=
  (((σ.1 (r0 + 7) 1) ≤ x3 → itN (m_9_digest_56 r0 Q) (fun _ _ _ => False) FU z1 (0 : Int32) σ) ∧ (¬ (σ.1 (r0 + 7) 1) ≤ x3 → m_9_mixStreet r0 z1 x3 (fun (v_2 : Int64) (σ_1 : St) => ∀ x3_3 : Int32, x3_3 = x3 + 1 → B30 v_2 x3_3 σ_1) σ))
def m_9_digest_6 (r0 : Nat) (Q : Int64 → St → Prop) (B6 : Int64 → Int32 → St → Prop) (z1 : Int64) (x3 : Int32) (σ : St) : Prop :=
  (((15 : Int32) ≤ x3 → itN (m_9_digest_30 r0 Q) (fun _ _ _ => False) FU z1 (0 : Int32) σ) ∧ (¬ (15 : Int32) ≤ x3 → m_9_count r0 x3 (fun (v_2 : Int32) (σ_1 : St) => m_9_mix z1 v_2 (fun (v_4 : Int64) (σ_3 : St) => ∀ x3_5 : Int32, x3_5 = x3 + 1 → B6 v_4 x3_5 σ_3) σ_1) σ))
def m_9_digest (r0 : Nat) (Q : Int64 → St → Prop) (σ : St) : Prop :=
  itN (m_9_digest_6 r0 Q) (fun _ _ _ => False) FU (18926 : Int64) (0 : Int32) σ
theorem d_10_in_0 : decode prog_12_method_3_code 0 = .ok (.iload_n 0, 1) := by decide +kernel
theorem d_10_in_1 : decode prog_12_method_3_code 1 = .ok (.iload_n 1, 1) := by decide +kernel
theorem d_10_in_2 : decode prog_12_method_3_code 2 = .ok (.if_icmp .lt 12, 3) := by decide +kernel
theorem d_10_in_5 : decode prog_12_method_3_code 5 = .ok (.iload_n 0, 1) := by decide +kernel
theorem d_10_in_6 : decode prog_12_method_3_code 6 = .ok (.iload_n 2, 1) := by decide +kernel
theorem d_10_in_7 : decode prog_12_method_3_code 7 = .ok (.if_icmp .gt 7, 3) := by decide +kernel
theorem d_10_in_10 : decode prog_12_method_3_code 10 = .ok (.iconst 1, 1) := by decide +kernel
theorem d_10_in_11 : decode prog_12_method_3_code 11 = .ok (.goto 4, 3) := by decide +kernel
theorem d_10_in_14 : decode prog_12_method_3_code 14 = .ok (.iconst 0, 1) := by decide +kernel
theorem d_10_in_15 : decode prog_12_method_3_code 15 = .ok (.ireturn, 1) := by decide +kernel
def m_10_in (x0 : Int32) (x1 : Int32) (x2 : Int32) (Q : Int32 → St → Prop) (σ : St) : Prop :=
  ((x0 < x1 → Q (0 : Int32) σ) ∧ (¬ x0 < x1 → ((x2 < x0 → Q (0 : Int32) σ) ∧ (¬ x2 < x0 → Q (1 : Int32) σ))))
theorem d_10_copies_0 : decode prog_12_method_4_code 0 = .ok (.iconst 0, 1) := by decide +kernel
theorem d_10_copies_1 : decode prog_12_method_4_code 1 = .ok (.istore_n 3, 1) := by decide +kernel
theorem d_10_copies_2 : decode prog_12_method_4_code 2 = .ok (.iload_n 3, 1) := by decide +kernel
theorem d_10_copies_3 : decode prog_12_method_4_code 3 = .ok (.sipush 564, 3) := by decide +kernel
theorem d_10_copies_6 : decode prog_12_method_4_code 6 = .ok (.if_icmp .ge 33, 3) := by decide +kernel
theorem d_10_copies_9 : decode prog_12_method_4_code 9 = .ok (.aload_n 0, 1) := by decide +kernel
theorem d_10_copies_10 : decode prog_12_method_4_code 10 = .ok (.getfield 7, 3) := by decide +kernel
theorem d_10_copies_13 : decode prog_12_method_4_code 13 = .ok (.sipush 564, 3) := by decide +kernel
theorem d_10_copies_16 : decode prog_12_method_4_code 16 = .ok (.iload_n 2, 1) := by decide +kernel
theorem d_10_copies_17 : decode prog_12_method_4_code 17 = .ok (.imul, 1) := by decide +kernel
theorem d_10_copies_18 : decode prog_12_method_4_code 18 = .ok (.iload_n 3, 1) := by decide +kernel
theorem d_10_copies_19 : decode prog_12_method_4_code 19 = .ok (.iadd, 1) := by decide +kernel
theorem d_10_copies_20 : decode prog_12_method_4_code 20 = .ok (.aload_n 0, 1) := by decide +kernel
theorem d_10_copies_21 : decode prog_12_method_4_code 21 = .ok (.getfield 7, 3) := by decide +kernel
theorem d_10_copies_24 : decode prog_12_method_4_code 24 = .ok (.sipush 564, 3) := by decide +kernel
theorem d_10_copies_27 : decode prog_12_method_4_code 27 = .ok (.iload_n 1, 1) := by decide +kernel
theorem d_10_copies_28 : decode prog_12_method_4_code 28 = .ok (.imul, 1) := by decide +kernel
theorem d_10_copies_29 : decode prog_12_method_4_code 29 = .ok (.iload_n 3, 1) := by decide +kernel
theorem d_10_copies_30 : decode prog_12_method_4_code 30 = .ok (.iadd, 1) := by decide +kernel
theorem d_10_copies_31 : decode prog_12_method_4_code 31 = .ok (.iaload, 1) := by decide +kernel
theorem d_10_copies_32 : decode prog_12_method_4_code 32 = .ok (.iastore, 1) := by decide +kernel
theorem d_10_copies_33 : decode prog_12_method_4_code 33 = .ok (.iinc 3 1, 3) := by decide +kernel
theorem d_10_copies_36 : decode prog_12_method_4_code 36 = .ok (.goto (-34), 3) := by decide +kernel
theorem d_10_copies_39 : decode prog_12_method_4_code 39 = .ok (.return_, 1) := by decide +kernel
def m_10_copies_2 (r0 : Nat) (x1 : Int32) (x2 : Int32) (Q : St → Prop) (B2 : Int32 → St → Prop) (x3 : Int32) (σ : St) : Prop :=
  (((564 : Int32) ≤ x3 → Q σ) ∧ (¬ (564 : Int32) ≤ x3 → vp_in (((564 : Int32) * x1) + x3) 5640 ∧ vp_in (((564 : Int32) * x2) + x3) 5640 ∧ ∀ σ_1 : St, σ_1 = wr σ (r0 + 1) ((((564 : Int32) * x2) + x3)).toNatClampNeg (σ.1 (r0 + 1) ((((564 : Int32) * x1) + x3)).toNatClampNeg) → ∀ x3_2 : Int32, x3_2 = x3 + 1 → B2 x3_2 σ_1))
def m_10_copies (r0 : Nat) (x1 : Int32) (x2 : Int32) (Q : St → Prop) (σ : St) : Prop :=
  itN (m_10_copies_2 r0 x1 x2 Q) (fun _ _ => False) FU (0 : Int32) σ
theorem d_10_records_0 : decode prog_12_method_5_code 0 = .ok (.aload_n 0, 1) := by decide +kernel
theorem d_10_records_1 : decode prog_12_method_5_code 1 = .ok (.getfield 25, 3) := by decide +kernel
theorem d_10_records_4 : decode prog_12_method_5_code 4 = .ok (.bipush 8, 2) := by decide +kernel
theorem d_10_records_6 : decode prog_12_method_5_code 6 = .ok (.if_icmp .ne 35, 3) := by decide +kernel
theorem d_10_records_9 : decode prog_12_method_5_code 9 = .ok (.iconst 1, 1) := by decide +kernel
theorem d_10_records_10 : decode prog_12_method_5_code 10 = .ok (.istore_n 1, 1) := by decide +kernel
theorem d_10_records_11 : decode prog_12_method_5_code 11 = .ok (.iload_n 1, 1) := by decide +kernel
theorem d_10_records_12 : decode prog_12_method_5_code 12 = .ok (.bipush 8, 2) := by decide +kernel
theorem d_10_records_14 : decode prog_12_method_5_code 14 = .ok (.if_icmp .ge 17, 3) := by decide +kernel
theorem d_10_records_17 : decode prog_12_method_5_code 17 = .ok (.aload_n 0, 1) := by decide +kernel
theorem d_10_records_18 : decode prog_12_method_5_code 18 = .ok (.iload_n 1, 1) := by decide +kernel
theorem d_10_records_19 : decode prog_12_method_5_code 19 = .ok (.iconst 1, 1) := by decide +kernel
theorem d_10_records_20 : decode prog_12_method_5_code 20 = .ok (.iadd, 1) := by decide +kernel
theorem d_10_records_21 : decode prog_12_method_5_code 21 = .ok (.iload_n 1, 1) := by decide +kernel
theorem d_10_records_22 : decode prog_12_method_5_code 22 = .ok (.invokevirtual 29, 3) := by decide +kernel
theorem d_10_records_25 : decode prog_12_method_5_code 25 = .ok (.iinc 1 1, 3) := by decide +kernel
theorem d_10_records_28 : decode prog_12_method_5_code 28 = .ok (.goto (-17), 3) := by decide +kernel
theorem d_10_records_31 : decode prog_12_method_5_code 31 = .ok (.aload_n 0, 1) := by decide +kernel
theorem d_10_records_32 : decode prog_12_method_5_code 32 = .ok (.dup, 1) := by decide +kernel
theorem d_10_records_33 : decode prog_12_method_5_code 33 = .ok (.getfield 25, 3) := by decide +kernel
theorem d_10_records_36 : decode prog_12_method_5_code 36 = .ok (.iconst 1, 1) := by decide +kernel
theorem d_10_records_37 : decode prog_12_method_5_code 37 = .ok (.isub, 1) := by decide +kernel
theorem d_10_records_38 : decode prog_12_method_5_code 38 = .ok (.putfield 25, 3) := by decide +kernel
theorem d_10_records_41 : decode prog_12_method_5_code 41 = .ok (.aload_n 0, 1) := by decide +kernel
theorem d_10_records_42 : decode prog_12_method_5_code 42 = .ok (.dup, 1) := by decide +kernel
theorem d_10_records_43 : decode prog_12_method_5_code 43 = .ok (.getfield 25, 3) := by decide +kernel
theorem d_10_records_46 : decode prog_12_method_5_code 46 = .ok (.iconst 1, 1) := by decide +kernel
theorem d_10_records_47 : decode prog_12_method_5_code 47 = .ok (.iadd, 1) := by decide +kernel
theorem d_10_records_48 : decode prog_12_method_5_code 48 = .ok (.putfield 25, 3) := by decide +kernel
theorem d_10_records_51 : decode prog_12_method_5_code 51 = .ok (.aload_n 0, 1) := by decide +kernel
theorem d_10_records_52 : decode prog_12_method_5_code 52 = .ok (.iconst 0, 1) := by decide +kernel
theorem d_10_records_53 : decode prog_12_method_5_code 53 = .ok (.aload_n 0, 1) := by decide +kernel
theorem d_10_records_54 : decode prog_12_method_5_code 54 = .ok (.getfield 25, 3) := by decide +kernel
theorem d_10_records_57 : decode prog_12_method_5_code 57 = .ok (.invokevirtual 29, 3) := by decide +kernel
theorem d_10_records_60 : decode prog_12_method_5_code 60 = .ok (.return_, 1) := by decide +kernel
def m_10_records_41 (r0 : Nat) (Q : St → Prop) (σ : St) : Prop :=
  ∀ σ_1 : St, σ_1 = wr σ r0 1 ((σ.1 r0 1) + (1 : Int32)) → m_10_copies r0 (0 : Int32) (σ_1.1 r0 1) (fun (σ_2 : St) => Q σ_2) σ_1
def m_10_records_11 (r0 : Nat) (Q : St → Prop) (B11 : Int32 → St → Prop) (x1 : Int32) (σ : St) : Prop :=
  (((8 : Int32) ≤ x1 → ∀ σ_1 : St, σ_1 = wr σ r0 1 ((σ.1 r0 1) - (1 : Int32)) → m_10_records_41 r0 Q   σ_1) ∧ (¬ (8 : Int32) ≤ x1 → m_10_copies r0 (x1 + (1 : Int32)) x1 (fun (σ_2 : St) => ∀ x1_4 : Int32, x1_4 = x1 + 1 → B11 x1_4 σ_2) σ))
def m_10_records (r0 : Nat) (Q : St → Prop) (σ : St) : Prop :=
  ((¬ (σ.1 r0 1) = (8 : Int32) → m_10_records_41 r0 Q   σ) ∧ ((σ.1 r0 1) = (8 : Int32) → itN (m_10_records_11 r0 Q) (fun _ _ => False) FU (1 : Int32) σ))
theorem d_10_undo_0 : decode prog_12_method_6_code 0 = .ok (.aload_n 0, 1) := by decide +kernel
theorem d_10_undo_1 : decode prog_12_method_6_code 1 = .ok (.getfield 25, 3) := by decide +kernel
theorem d_10_undo_4 : decode prog_12_method_6_code 4 = .ok (.ifCond .ne 6, 3) := by decide +kernel
theorem d_10_undo_7 : decode prog_12_method_6_code 7 = .ok (.bipush (-2), 2) := by decide +kernel
theorem d_10_undo_9 : decode prog_12_method_6_code 9 = .ok (.ireturn, 1) := by decide +kernel
theorem d_10_undo_10 : decode prog_12_method_6_code 10 = .ok (.aload_n 0, 1) := by decide +kernel
theorem d_10_undo_11 : decode prog_12_method_6_code 11 = .ok (.aload_n 0, 1) := by decide +kernel
theorem d_10_undo_12 : decode prog_12_method_6_code 12 = .ok (.getfield 25, 3) := by decide +kernel
theorem d_10_undo_15 : decode prog_12_method_6_code 15 = .ok (.iconst 0, 1) := by decide +kernel
theorem d_10_undo_16 : decode prog_12_method_6_code 16 = .ok (.invokevirtual 29, 3) := by decide +kernel
theorem d_10_undo_19 : decode prog_12_method_6_code 19 = .ok (.aload_n 0, 1) := by decide +kernel
theorem d_10_undo_20 : decode prog_12_method_6_code 20 = .ok (.dup, 1) := by decide +kernel
theorem d_10_undo_21 : decode prog_12_method_6_code 21 = .ok (.getfield 25, 3) := by decide +kernel
theorem d_10_undo_24 : decode prog_12_method_6_code 24 = .ok (.iconst 1, 1) := by decide +kernel
theorem d_10_undo_25 : decode prog_12_method_6_code 25 = .ok (.isub, 1) := by decide +kernel
theorem d_10_undo_26 : decode prog_12_method_6_code 26 = .ok (.putfield 25, 3) := by decide +kernel
theorem d_10_undo_29 : decode prog_12_method_6_code 29 = .ok (.aload_n 0, 1) := by decide +kernel
theorem d_10_undo_30 : decode prog_12_method_6_code 30 = .ok (.getfield 25, 3) := by decide +kernel
theorem d_10_undo_33 : decode prog_12_method_6_code 33 = .ok (.ireturn, 1) := by decide +kernel
def m_10_undo (r0 : Nat) (Q : Int32 → St → Prop) (σ : St) : Prop :=
  ((¬ (σ.1 r0 1) = 0 → m_10_copies r0 (σ.1 r0 1) (0 : Int32) (fun (σ_1 : St) => ∀ σ_3 : St, σ_3 = wr σ_1 r0 1 ((σ_1.1 r0 1) - (1 : Int32)) → Q (σ_3.1 r0 1) σ_3) σ) ∧ ((σ.1 r0 1) = 0 → Q (-2 : Int32) σ))
theorem d_10_of_0 : decode prog_12_method_7_code 0 = .ok (.aload_n 0, 1) := by decide +kernel
theorem d_10_of_1 : decode prog_12_method_7_code 1 = .ok (.getfield 7, 3) := by decide +kernel
theorem d_10_of_4 : decode prog_12_method_7_code 4 = .ok (.iconst 1, 1) := by decide +kernel
theorem d_10_of_5 : decode prog_12_method_7_code 5 = .ok (.bipush 83, 2) := by decide +kernel
theorem d_10_of_7 : decode prog_12_method_7_code 7 = .ok (.iload_n 1, 1) := by decide +kernel
theorem d_10_of_8 : decode prog_12_method_7_code 8 = .ok (.imul, 1) := by decide +kernel
theorem d_10_of_9 : decode prog_12_method_7_code 9 = .ok (.iadd, 1) := by decide +kernel
theorem d_10_of_10 : decode prog_12_method_7_code 10 = .ok (.iload_n 2, 1) := by decide +kernel
theorem d_10_of_11 : decode prog_12_method_7_code 11 = .ok (.iadd, 1) := by decide +kernel
theorem d_10_of_12 : decode prog_12_method_7_code 12 = .ok (.iaload, 1) := by decide +kernel
theorem d_10_of_13 : decode prog_12_method_7_code 13 = .ok (.ireturn, 1) := by decide +kernel
def m_10_of (r0 : Nat) (x1 : Int32) (x2 : Int32) (Q : Int32 → St → Prop) (σ : St) : Prop :=
  vp_in (((1 : Int32) + ((83 : Int32) * x1)) + x2) 5640 ∧ Q (σ.1 (r0 + 1) ((((1 : Int32) + ((83 : Int32) * x1)) + x2)).toNatClampNeg) σ
theorem d_10_sets_0 : decode prog_12_method_8_code 0 = .ok (.aload_n 0, 1) := by decide +kernel
theorem d_10_sets_1 : decode prog_12_method_8_code 1 = .ok (.getfield 7, 3) := by decide +kernel
theorem d_10_sets_4 : decode prog_12_method_8_code 4 = .ok (.iconst 1, 1) := by decide +kernel
theorem d_10_sets_5 : decode prog_12_method_8_code 5 = .ok (.bipush 83, 2) := by decide +kernel
theorem d_10_sets_7 : decode prog_12_method_8_code 7 = .ok (.iload_n 1, 1) := by decide +kernel
theorem d_10_sets_8 : decode prog_12_method_8_code 8 = .ok (.imul, 1) := by decide +kernel
theorem d_10_sets_9 : decode prog_12_method_8_code 9 = .ok (.iadd, 1) := by decide +kernel
theorem d_10_sets_10 : decode prog_12_method_8_code 10 = .ok (.iload_n 2, 1) := by decide +kernel
theorem d_10_sets_11 : decode prog_12_method_8_code 11 = .ok (.iadd, 1) := by decide +kernel
theorem d_10_sets_12 : decode prog_12_method_8_code 12 = .ok (.iload_n 3, 1) := by decide +kernel
theorem d_10_sets_13 : decode prog_12_method_8_code 13 = .ok (.iastore, 1) := by decide +kernel
theorem d_10_sets_14 : decode prog_12_method_8_code 14 = .ok (.return_, 1) := by decide +kernel
def m_10_sets (r0 : Nat) (x1 : Int32) (x2 : Int32) (x3 : Int32) (Q : St → Prop) (σ : St) : Prop :=
  vp_in (((1 : Int32) + ((83 : Int32) * x1)) + x2) 5640 ∧ ∀ σ_1 : St, σ_1 = wr σ (r0 + 1) ((((1 : Int32) + ((83 : Int32) * x1)) + x2)).toNatClampNeg x3 → Q σ_1
theorem d_10_placeOf_0 : decode prog_12_method_9_code 0 = .ok (.bipush 20, 2) := by decide +kernel
theorem d_10_placeOf_2 : decode prog_12_method_9_code 2 = .ok (.iload_n 0, 1) := by decide +kernel
theorem d_10_placeOf_3 : decode prog_12_method_9_code 3 = .ok (.imul, 1) := by decide +kernel
theorem d_10_placeOf_4 : decode prog_12_method_9_code 4 = .ok (.iload_n 1, 1) := by decide +kernel
theorem d_10_placeOf_5 : decode prog_12_method_9_code 5 = .ok (.iadd, 1) := by decide +kernel
theorem d_10_placeOf_6 : decode prog_12_method_9_code 6 = .ok (.ireturn, 1) := by decide +kernel
def m_10_placeOf (x0 : Int32) (x1 : Int32) (Q : Int32 → St → Prop) (σ : St) : Prop :=
  Q (((20 : Int32) * x0) + x1) σ
theorem d_10_dirtOf_0 : decode prog_12_method_10_code 0 = .ok (.aload_n 0, 1) := by decide +kernel
theorem d_10_dirtOf_1 : decode prog_12_method_10_code 1 = .ok (.iload_n 1, 1) := by decide +kernel
theorem d_10_dirtOf_2 : decode prog_12_method_10_code 2 = .ok (.iconst 3, 1) := by decide +kernel
theorem d_10_dirtOf_3 : decode prog_12_method_10_code 3 = .ok (.iload_n 2, 1) := by decide +kernel
theorem d_10_dirtOf_4 : decode prog_12_method_10_code 4 = .ok (.iload_n 3, 1) := by decide +kernel
theorem d_10_dirtOf_5 : decode prog_12_method_10_code 5 = .ok (.invokestatic 33, 3) := by decide +kernel
theorem d_10_dirtOf_8 : decode prog_12_method_10_code 8 = .ok (.iadd, 1) := by decide +kernel
theorem d_10_dirtOf_9 : decode prog_12_method_10_code 9 = .ok (.invokevirtual 37, 3) := by decide +kernel
theorem d_10_dirtOf_12 : decode prog_12_method_10_code 12 = .ok (.ireturn, 1) := by decide +kernel
def m_10_dirtOf (r0 : Nat) (x1 : Int32) (x2 : Int32) (x3 : Int32) (Q : Int32 → St → Prop) (σ : St) : Prop :=
  m_10_placeOf x2 x3 (fun (v_2 : Int32) (σ_1 : St) => m_10_of r0 x1 ((3 : Int32) + v_2) (fun (v_4 : Int32) (σ_3 : St) => Q v_4 σ_3) σ_1) σ
theorem d_10_isParked_0 : decode prog_12_method_11_code 0 = .ok (.aload_n 0, 1) := by decide +kernel
theorem d_10_isParked_1 : decode prog_12_method_11_code 1 = .ok (.iload_n 1, 1) := by decide +kernel
theorem d_10_isParked_2 : decode prog_12_method_11_code 2 = .ok (.bipush 43, 2) := by decide +kernel
theorem d_10_isParked_4 : decode prog_12_method_11_code 4 = .ok (.iload_n 2, 1) := by decide +kernel
theorem d_10_isParked_5 : decode prog_12_method_11_code 5 = .ok (.iload_n 3, 1) := by decide +kernel
theorem d_10_isParked_6 : decode prog_12_method_11_code 6 = .ok (.invokestatic 33, 3) := by decide +kernel
theorem d_10_isParked_9 : decode prog_12_method_11_code 9 = .ok (.iadd, 1) := by decide +kernel
theorem d_10_isParked_10 : decode prog_12_method_11_code 10 = .ok (.invokevirtual 37, 3) := by decide +kernel
theorem d_10_isParked_13 : decode prog_12_method_11_code 13 = .ok (.iconst 1, 1) := by decide +kernel
theorem d_10_isParked_14 : decode prog_12_method_11_code 14 = .ok (.if_icmp .ne 7, 3) := by decide +kernel
theorem d_10_isParked_17 : decode prog_12_method_11_code 17 = .ok (.iconst 1, 1) := by decide +kernel
theorem d_10_isParked_18 : decode prog_12_method_11_code 18 = .ok (.goto 4, 3) := by decide +kernel
theorem d_10_isParked_21 : decode prog_12_method_11_code 21 = .ok (.iconst 0, 1) := by decide +kernel
theorem d_10_isParked_22 : decode prog_12_method_11_code 22 = .ok (.ireturn, 1) := by decide +kernel
def m_10_isParked (r0 : Nat) (x1 : Int32) (x2 : Int32) (x3 : Int32) (Q : Int32 → St → Prop) (σ : St) : Prop :=
  m_10_placeOf x2 x3 (fun (v_2 : Int32) (σ_1 : St) => m_10_of r0 x1 ((43 : Int32) + v_2) (fun (v_4 : Int32) (σ_3 : St) => ((¬ v_4 = (1 : Int32) → Q (0 : Int32) σ_3) ∧ (v_4 = (1 : Int32) → Q (1 : Int32) σ_3))) σ_1) σ
theorem d_10_isStreet_0 : decode prog_12_method_12_code 0 = .ok (.iload_n 1, 1) := by decide +kernel
theorem d_10_isStreet_1 : decode prog_12_method_12_code 1 = .ok (.iconst 0, 1) := by decide +kernel
theorem d_10_isStreet_2 : decode prog_12_method_12_code 2 = .ok (.aload_n 0, 1) := by decide +kernel
theorem d_10_isStreet_3 : decode prog_12_method_12_code 3 = .ok (.getfield 7, 3) := by decide +kernel
theorem d_10_isStreet_6 : decode prog_12_method_12_code 6 = .ok (.iconst 0, 1) := by decide +kernel
theorem d_10_isStreet_7 : decode prog_12_method_12_code 7 = .ok (.iaload, 1) := by decide +kernel
theorem d_10_isStreet_8 : decode prog_12_method_12_code 8 = .ok (.iconst 1, 1) := by decide +kernel
theorem d_10_isStreet_9 : decode prog_12_method_12_code 9 = .ok (.isub, 1) := by decide +kernel
theorem d_10_isStreet_10 : decode prog_12_method_12_code 10 = .ok (.invokestatic 40, 3) := by decide +kernel
theorem d_10_isStreet_13 : decode prog_12_method_12_code 13 = .ok (.ireturn, 1) := by decide +kernel
def m_10_isStreet (r0 : Nat) (x1 : Int32) (Q : Int32 → St → Prop) (σ : St) : Prop :=
  vp_in (0 : Int32) 5640 ∧ m_10_in x1 (0 : Int32) ((σ.1 (r0 + 1) ((0 : Int32)).toNatClampNeg) - (1 : Int32)) (fun (v_2 : Int32) (σ_1 : St) => (isB v_2 ∧ Q v_2 σ_1)) σ
theorem d_10_isCell_0 : decode prog_12_method_13_code 0 = .ok (.aload_n 0, 1) := by decide +kernel
theorem d_10_isCell_1 : decode prog_12_method_13_code 1 = .ok (.iload_n 1, 1) := by decide +kernel
theorem d_10_isCell_2 : decode prog_12_method_13_code 2 = .ok (.invokevirtual 44, 3) := by decide +kernel
theorem d_10_isCell_5 : decode prog_12_method_13_code 5 = .ok (.ifCond .eq 32, 3) := by decide +kernel
theorem d_10_isCell_8 : decode prog_12_method_13_code 8 = .ok (.iload_n 2, 1) := by decide +kernel
theorem d_10_isCell_9 : decode prog_12_method_13_code 9 = .ok (.iconst 0, 1) := by decide +kernel
theorem d_10_isCell_10 : decode prog_12_method_13_code 10 = .ok (.iconst 1, 1) := by decide +kernel
theorem d_10_isCell_11 : decode prog_12_method_13_code 11 = .ok (.invokestatic 40, 3) := by decide +kernel
theorem d_10_isCell_14 : decode prog_12_method_13_code 14 = .ok (.ifCond .eq 23, 3) := by decide +kernel
theorem d_10_isCell_17 : decode prog_12_method_13_code 17 = .ok (.iload_n 3, 1) := by decide +kernel
theorem d_10_isCell_18 : decode prog_12_method_13_code 18 = .ok (.iconst 0, 1) := by decide +kernel
theorem d_10_isCell_19 : decode prog_12_method_13_code 19 = .ok (.aload_n 0, 1) := by decide +kernel
theorem d_10_isCell_20 : decode prog_12_method_13_code 20 = .ok (.iload_n 1, 1) := by decide +kernel
theorem d_10_isCell_21 : decode prog_12_method_13_code 21 = .ok (.iconst 0, 1) := by decide +kernel
theorem d_10_isCell_22 : decode prog_12_method_13_code 22 = .ok (.invokevirtual 37, 3) := by decide +kernel
theorem d_10_isCell_25 : decode prog_12_method_13_code 25 = .ok (.iconst 1, 1) := by decide +kernel
theorem d_10_isCell_26 : decode prog_12_method_13_code 26 = .ok (.isub, 1) := by decide +kernel
theorem d_10_isCell_27 : decode prog_12_method_13_code 27 = .ok (.invokestatic 40, 3) := by decide +kernel
theorem d_10_isCell_30 : decode prog_12_method_13_code 30 = .ok (.ifCond .eq 7, 3) := by decide +kernel
theorem d_10_isCell_33 : decode prog_12_method_13_code 33 = .ok (.iconst 1, 1) := by decide +kernel
theorem d_10_isCell_34 : decode prog_12_method_13_code 34 = .ok (.goto 4, 3) := by decide +kernel
theorem d_10_isCell_37 : decode prog_12_method_13_code 37 = .ok (.iconst 0, 1) := by decide +kernel
theorem d_10_isCell_38 : decode prog_12_method_13_code 38 = .ok (.ireturn, 1) := by decide +kernel
def m_10_isCell (r0 : Nat) (x1 : Int32) (x2 : Int32) (x3 : Int32) (Q : Int32 → St → Prop) (σ : St) : Prop :=
  m_10_isStreet r0 x1 (fun (v_2 : Int32) (σ_1 : St) => ((v_2 = 0 → Q (0 : Int32) σ_1) ∧ (¬ v_2 = 0 → m_10_in x2 (0 : Int32) (1 : Int32) (fun (v_4 : Int32) (σ_3 : St) => ((v_4 = 0 → Q (0 : Int32) σ_3) ∧ (¬ v_4 = 0 → m_10_of r0 x1 (0 : Int32) (fun (v_6 : Int32) (σ_5 : St) => m_10_in x3 (0 : Int32) (v_6 - (1 : Int32)) (fun (v_8 : Int32) (σ_7 : St) => ((v_8 = 0 → Q (0 : Int32) σ_7) ∧ (¬ v_8 = 0 → Q (1 : Int32) σ_7))) σ_5) σ_3))) σ_1))) σ
theorem d_10_sideSum_0 : decode prog_12_method_14_code 0 = .ok (.iconst 0, 1) := by decide +kernel
theorem d_10_sideSum_1 : decode prog_12_method_14_code 1 = .ok (.istore_n 3, 1) := by decide +kernel
theorem d_10_sideSum_2 : decode prog_12_method_14_code 2 = .ok (.iconst 0, 1) := by decide +kernel
theorem d_10_sideSum_3 : decode prog_12_method_14_code 3 = .ok (.istore 4, 2) := by decide +kernel
theorem d_10_sideSum_5 : decode prog_12_method_14_code 5 = .ok (.iload 4, 2) := by decide +kernel
theorem d_10_sideSum_7 : decode prog_12_method_14_code 7 = .ok (.aload_n 0, 1) := by decide +kernel
theorem d_10_sideSum_8 : decode prog_12_method_14_code 8 = .ok (.iload_n 1, 1) := by decide +kernel
theorem d_10_sideSum_9 : decode prog_12_method_14_code 9 = .ok (.iconst 0, 1) := by decide +kernel
theorem d_10_sideSum_10 : decode prog_12_method_14_code 10 = .ok (.invokevirtual 37, 3) := by decide +kernel
theorem d_10_sideSum_13 : decode prog_12_method_14_code 13 = .ok (.if_icmp .ge 20, 3) := by decide +kernel
theorem d_10_sideSum_16 : decode prog_12_method_14_code 16 = .ok (.iload_n 3, 1) := by decide +kernel
theorem d_10_sideSum_17 : decode prog_12_method_14_code 17 = .ok (.aload_n 0, 1) := by decide +kernel
theorem d_10_sideSum_18 : decode prog_12_method_14_code 18 = .ok (.iload_n 1, 1) := by decide +kernel
theorem d_10_sideSum_19 : decode prog_12_method_14_code 19 = .ok (.iload_n 2, 1) := by decide +kernel
theorem d_10_sideSum_20 : decode prog_12_method_14_code 20 = .ok (.iload 4, 2) := by decide +kernel
theorem d_10_sideSum_22 : decode prog_12_method_14_code 22 = .ok (.invokevirtual 48, 3) := by decide +kernel
theorem d_10_sideSum_25 : decode prog_12_method_14_code 25 = .ok (.iadd, 1) := by decide +kernel
theorem d_10_sideSum_26 : decode prog_12_method_14_code 26 = .ok (.istore_n 3, 1) := by decide +kernel
theorem d_10_sideSum_27 : decode prog_12_method_14_code 27 = .ok (.iinc 4 1, 3) := by decide +kernel
theorem d_10_sideSum_30 : decode prog_12_method_14_code 30 = .ok (.goto (-25), 3) := by decide +kernel
theorem d_10_sideSum_33 : decode prog_12_method_14_code 33 = .ok (.iload_n 3, 1) := by decide +kernel
theorem d_10_sideSum_34 : decode prog_12_method_14_code 34 = .ok (.ireturn, 1) := by decide +kernel
def m_10_sideSum_5 (r0 : Nat) (x1 : Int32) (x2 : Int32) (Q : Int32 → St → Prop) (B5 : Int32 → Int32 → St → Prop) (x3 : Int32) (x4 : Int32) (σ : St) : Prop :=
  m_10_of r0 x1 (0 : Int32) (fun (v_2 : Int32) (σ_1 : St) => ((v_2 ≤ x4 → Q x3 σ_1) ∧ (¬ v_2 ≤ x4 → m_10_dirtOf r0 x1 x2 x4 (fun (v_4 : Int32) (σ_3 : St) => ∀ x3_5 : Int32, x3_5 = (x3 + v_4) → ∀ x4_6 : Int32, x4_6 = x4 + 1 → B5 x3_5 x4_6 σ_3) σ_1))) σ
def m_10_sideSum (r0 : Nat) (x1 : Int32) (x2 : Int32) (Q : Int32 → St → Prop) (σ : St) : Prop :=
  itN (m_10_sideSum_5 r0 x1 x2 Q) (fun _ _ _ => False) FU (0 : Int32) (0 : Int32) σ
theorem d_10_books_0 : decode prog_12_method_15_code 0 = .ok (.aload_n 0, 1) := by decide +kernel
theorem d_10_books_1 : decode prog_12_method_15_code 1 = .ok (.getfield 7, 3) := by decide +kernel
theorem d_10_books_4 : decode prog_12_method_15_code 4 = .ok (.sipush 556, 3) := by decide +kernel
theorem d_10_books_7 : decode prog_12_method_15_code 7 = .ok (.iload_n 1, 1) := by decide +kernel
theorem d_10_books_8 : decode prog_12_method_15_code 8 = .ok (.iadd, 1) := by decide +kernel
theorem d_10_books_9 : decode prog_12_method_15_code 9 = .ok (.dup2, 1) := by decide +kernel
theorem d_10_books_10 : decode prog_12_method_15_code 10 = .ok (.iaload, 1) := by decide +kernel
theorem d_10_books_11 : decode prog_12_method_15_code 11 = .ok (.iload_n 2, 1) := by decide +kernel
theorem d_10_books_12 : decode prog_12_method_15_code 12 = .ok (.iadd, 1) := by decide +kernel
theorem d_10_books_13 : decode prog_12_method_15_code 13 = .ok (.iastore, 1) := by decide +kernel
theorem d_10_books_14 : decode prog_12_method_15_code 14 = .ok (.return_, 1) := by decide +kernel
def m_10_books (r0 : Nat) (x1 : Int32) (x2 : Int32) (Q : St → Prop) (σ : St) : Prop :=
  vp_in ((556 : Int32) + x1) 5640 ∧ vp_in ((556 : Int32) + x1) 5640 ∧ ∀ σ_1 : St, σ_1 = wr σ (r0 + 1) (((556 : Int32) + x1)).toNatClampNeg ((σ.1 (r0 + 1) (((556 : Int32) + x1)).toNatClampNeg) + x2) → Q σ_1
theorem d_10_empties_0 : decode prog_12_method_16_code 0 = .ok (.iconst 0, 1) := by decide +kernel
theorem d_10_empties_1 : decode prog_12_method_16_code 1 = .ok (.istore 5, 2) := by decide +kernel
theorem d_10_empties_3 : decode prog_12_method_16_code 3 = .ok (.iload 5, 2) := by decide +kernel
theorem d_10_empties_5 : decode prog_12_method_16_code 5 = .ok (.bipush 83, 2) := by decide +kernel
theorem d_10_empties_7 : decode prog_12_method_16_code 7 = .ok (.if_icmp .ge 17, 3) := by decide +kernel
theorem d_10_empties_10 : decode prog_12_method_16_code 10 = .ok (.aload_n 0, 1) := by decide +kernel
theorem d_10_empties_11 : decode prog_12_method_16_code 11 = .ok (.iload_n 1, 1) := by decide +kernel
theorem d_10_empties_12 : decode prog_12_method_16_code 12 = .ok (.iload 5, 2) := by decide +kernel
theorem d_10_empties_14 : decode prog_12_method_16_code 14 = .ok (.iconst 0, 1) := by decide +kernel
theorem d_10_empties_15 : decode prog_12_method_16_code 15 = .ok (.invokevirtual 52, 3) := by decide +kernel
theorem d_10_empties_18 : decode prog_12_method_16_code 18 = .ok (.iinc 5 1, 3) := by decide +kernel
theorem d_10_empties_21 : decode prog_12_method_16_code 21 = .ok (.goto (-18), 3) := by decide +kernel
theorem d_10_empties_24 : decode prog_12_method_16_code 24 = .ok (.aload_n 0, 1) := by decide +kernel
theorem d_10_empties_25 : decode prog_12_method_16_code 25 = .ok (.iload_n 1, 1) := by decide +kernel
theorem d_10_empties_26 : decode prog_12_method_16_code 26 = .ok (.iconst 0, 1) := by decide +kernel
theorem d_10_empties_27 : decode prog_12_method_16_code 27 = .ok (.iload_n 2, 1) := by decide +kernel
theorem d_10_empties_28 : decode prog_12_method_16_code 28 = .ok (.invokevirtual 52, 3) := by decide +kernel
theorem d_10_empties_31 : decode prog_12_method_16_code 31 = .ok (.aload_n 0, 1) := by decide +kernel
theorem d_10_empties_32 : decode prog_12_method_16_code 32 = .ok (.iload_n 1, 1) := by decide +kernel
theorem d_10_empties_33 : decode prog_12_method_16_code 33 = .ok (.iconst 1, 1) := by decide +kernel
theorem d_10_empties_34 : decode prog_12_method_16_code 34 = .ok (.iload_n 3, 1) := by decide +kernel
theorem d_10_empties_35 : decode prog_12_method_16_code 35 = .ok (.invokevirtual 52, 3) := by decide +kernel
theorem d_10_empties_38 : decode prog_12_method_16_code 38 = .ok (.aload_n 0, 1) := by decide +kernel
theorem d_10_empties_39 : decode prog_12_method_16_code 39 = .ok (.iload_n 1, 1) := by decide +kernel
theorem d_10_empties_40 : decode prog_12_method_16_code 40 = .ok (.iconst 2, 1) := by decide +kernel
theorem d_10_empties_41 : decode prog_12_method_16_code 41 = .ok (.iload 4, 2) := by decide +kernel
theorem d_10_empties_43 : decode prog_12_method_16_code 43 = .ok (.invokevirtual 52, 3) := by decide +kernel
theorem d_10_empties_46 : decode prog_12_method_16_code 46 = .ok (.return_, 1) := by decide +kernel
def m_10_empties_3 (r0 : Nat) (x1 : Int32) (x2 : Int32) (x3 : Int32) (x4 : Int32) (Q : St → Prop) (B3 : Int32 → St → Prop) (x5 : Int32) (σ : St) : Prop :=
  (((83 : Int32) ≤ x5 → m_10_sets r0 x1 (0 : Int32) x2 (fun (σ_1 : St) => m_10_sets r0 x1 (1 : Int32) x3 (fun (σ_3 : St) => m_10_sets r0 x1 (2 : Int32) x4 (fun (σ_5 : St) => Q σ_5) σ_3) σ_1) σ) ∧ (¬ (83 : Int32) ≤ x5 → m_10_sets r0 x1 x5 (0 : Int32) (fun (σ_7 : St) => ∀ x5_9 : Int32, x5_9 = x5 + 1 → B3 x5_9 σ_7) σ))
def m_10_empties (r0 : Nat) (x1 : Int32) (x2 : Int32) (x3 : Int32) (x4 : Int32) (Q : St → Prop) (σ : St) : Prop :=
  itN (m_10_empties_3 r0 x1 x2 x3 x4 Q) (fun _ _ => False) FU (0 : Int32) σ
theorem d_10_addStreet_0 : decode prog_12_method_17_code 0 = .ok (.iload_n 1, 1) := by decide +kernel
theorem d_10_addStreet_1 : decode prog_12_method_17_code 1 = .ok (.iconst 1, 1) := by decide +kernel
theorem d_10_addStreet_2 : decode prog_12_method_17_code 2 = .ok (.bipush 20, 2) := by decide +kernel
theorem d_10_addStreet_4 : decode prog_12_method_17_code 4 = .ok (.invokestatic 40, 3) := by decide +kernel
theorem d_10_addStreet_7 : decode prog_12_method_17_code 7 = .ok (.ifCond .eq 23, 3) := by decide +kernel
theorem d_10_addStreet_10 : decode prog_12_method_17_code 10 = .ok (.iload_n 2, 1) := by decide +kernel
theorem d_10_addStreet_11 : decode prog_12_method_17_code 11 = .ok (.iconst 0, 1) := by decide +kernel
theorem d_10_addStreet_12 : decode prog_12_method_17_code 12 = .ok (.bipush 60, 2) := by decide +kernel
theorem d_10_addStreet_14 : decode prog_12_method_17_code 14 = .ok (.invokestatic 40, 3) := by decide +kernel
theorem d_10_addStreet_17 : decode prog_12_method_17_code 17 = .ok (.ifCond .eq 13, 3) := by decide +kernel
theorem d_10_addStreet_20 : decode prog_12_method_17_code 20 = .ok (.iload_n 3, 1) := by decide +kernel
theorem d_10_addStreet_21 : decode prog_12_method_17_code 21 = .ok (.iconst 0, 1) := by decide +kernel
theorem d_10_addStreet_22 : decode prog_12_method_17_code 22 = .ok (.bipush 9, 2) := by decide +kernel
theorem d_10_addStreet_24 : decode prog_12_method_17_code 24 = .ok (.invokestatic 40, 3) := by decide +kernel
theorem d_10_addStreet_27 : decode prog_12_method_17_code 27 = .ok (.ifCond .ne 5, 3) := by decide +kernel
theorem d_10_addStreet_30 : decode prog_12_method_17_code 30 = .ok (.iconst (-1), 1) := by decide +kernel
theorem d_10_addStreet_31 : decode prog_12_method_17_code 31 = .ok (.ireturn, 1) := by decide +kernel
theorem d_10_addStreet_32 : decode prog_12_method_17_code 32 = .ok (.aload_n 0, 1) := by decide +kernel
theorem d_10_addStreet_33 : decode prog_12_method_17_code 33 = .ok (.getfield 7, 3) := by decide +kernel
theorem d_10_addStreet_36 : decode prog_12_method_17_code 36 = .ok (.iconst 0, 1) := by decide +kernel
theorem d_10_addStreet_37 : decode prog_12_method_17_code 37 = .ok (.iaload, 1) := by decide +kernel
theorem d_10_addStreet_38 : decode prog_12_method_17_code 38 = .ok (.bipush 6, 2) := by decide +kernel
theorem d_10_addStreet_40 : decode prog_12_method_17_code 40 = .ok (.if_icmp .ne 6, 3) := by decide +kernel
theorem d_10_addStreet_43 : decode prog_12_method_17_code 43 = .ok (.bipush (-3), 2) := by decide +kernel
theorem d_10_addStreet_45 : decode prog_12_method_17_code 45 = .ok (.ireturn, 1) := by decide +kernel
theorem d_10_addStreet_46 : decode prog_12_method_17_code 46 = .ok (.aload_n 0, 1) := by decide +kernel
theorem d_10_addStreet_47 : decode prog_12_method_17_code 47 = .ok (.invokevirtual 56, 3) := by decide +kernel
theorem d_10_addStreet_50 : decode prog_12_method_17_code 50 = .ok (.aload_n 0, 1) := by decide +kernel
theorem d_10_addStreet_51 : decode prog_12_method_17_code 51 = .ok (.getfield 7, 3) := by decide +kernel
theorem d_10_addStreet_54 : decode prog_12_method_17_code 54 = .ok (.sipush 548, 3) := by decide +kernel
theorem d_10_addStreet_57 : decode prog_12_method_17_code 57 = .ok (.iconst 0, 1) := by decide +kernel
theorem d_10_addStreet_58 : decode prog_12_method_17_code 58 = .ok (.iastore, 1) := by decide +kernel
theorem d_10_addStreet_59 : decode prog_12_method_17_code 59 = .ok (.aload_n 0, 1) := by decide +kernel
theorem d_10_addStreet_60 : decode prog_12_method_17_code 60 = .ok (.aload_n 0, 1) := by decide +kernel
theorem d_10_addStreet_61 : decode prog_12_method_17_code 61 = .ok (.getfield 7, 3) := by decide +kernel
theorem d_10_addStreet_64 : decode prog_12_method_17_code 64 = .ok (.iconst 0, 1) := by decide +kernel
theorem d_10_addStreet_65 : decode prog_12_method_17_code 65 = .ok (.iaload, 1) := by decide +kernel
theorem d_10_addStreet_66 : decode prog_12_method_17_code 66 = .ok (.iload_n 1, 1) := by decide +kernel
theorem d_10_addStreet_67 : decode prog_12_method_17_code 67 = .ok (.iload_n 2, 1) := by decide +kernel
theorem d_10_addStreet_68 : decode prog_12_method_17_code 68 = .ok (.iload_n 3, 1) := by decide +kernel
theorem d_10_addStreet_69 : decode prog_12_method_17_code 69 = .ok (.invokevirtual 59, 3) := by decide +kernel
theorem d_10_addStreet_72 : decode prog_12_method_17_code 72 = .ok (.aload_n 0, 1) := by decide +kernel
theorem d_10_addStreet_73 : decode prog_12_method_17_code 73 = .ok (.getfield 7, 3) := by decide +kernel
theorem d_10_addStreet_76 : decode prog_12_method_17_code 76 = .ok (.iconst 0, 1) := by decide +kernel
theorem d_10_addStreet_77 : decode prog_12_method_17_code 77 = .ok (.dup2, 1) := by decide +kernel
theorem d_10_addStreet_78 : decode prog_12_method_17_code 78 = .ok (.iaload, 1) := by decide +kernel
theorem d_10_addStreet_79 : decode prog_12_method_17_code 79 = .ok (.iconst 1, 1) := by decide +kernel
theorem d_10_addStreet_80 : decode prog_12_method_17_code 80 = .ok (.iadd, 1) := by decide +kernel
theorem d_10_addStreet_81 : decode prog_12_method_17_code 81 = .ok (.iastore, 1) := by decide +kernel
theorem d_10_addStreet_82 : decode prog_12_method_17_code 82 = .ok (.aload_n 0, 1) := by decide +kernel
theorem d_10_addStreet_83 : decode prog_12_method_17_code 83 = .ok (.getfield 7, 3) := by decide +kernel
theorem d_10_addStreet_86 : decode prog_12_method_17_code 86 = .ok (.iconst 0, 1) := by decide +kernel
theorem d_10_addStreet_87 : decode prog_12_method_17_code 87 = .ok (.iaload, 1) := by decide +kernel
theorem d_10_addStreet_88 : decode prog_12_method_17_code 88 = .ok (.iconst 1, 1) := by decide +kernel
theorem d_10_addStreet_89 : decode prog_12_method_17_code 89 = .ok (.isub, 1) := by decide +kernel
theorem d_10_addStreet_90 : decode prog_12_method_17_code 90 = .ok (.ireturn, 1) := by decide +kernel
def m_10_addStreet (r0 : Nat) (x1 : Int32) (x2 : Int32) (x3 : Int32) (Q : Int32 → St → Prop) (σ : St) : Prop :=
  m_10_in x1 (1 : Int32) (20 : Int32) (fun (v_2 : Int32) (σ_1 : St) => ((v_2 = 0 → Q (-1 : Int32) σ_1) ∧ (¬ v_2 = 0 → m_10_in x2 (0 : Int32) (60 : Int32) (fun (v_4 : Int32) (σ_3 : St) => ((v_4 = 0 → Q (-1 : Int32) σ_3) ∧ (¬ v_4 = 0 → m_10_in x3 (0 : Int32) (9 : Int32) (fun (v_6 : Int32) (σ_5 : St) => ((¬ v_6 = 0 → vp_in (0 : Int32) 5640 ∧ ((¬ (σ_5.1 (r0 + 1) ((0 : Int32)).toNatClampNeg) = (6 : Int32) → m_10_records r0 (fun (σ_7 : St) => vp_in (548 : Int32) 5640 ∧ ∀ σ_9 : St, σ_9 = wr σ_7 (r0 + 1) ((548 : Int32)).toNatClampNeg (0 : Int32) → vp_in (0 : Int32) 5640 ∧ m_10_empties r0 (σ_9.1 (r0 + 1) ((0 : Int32)).toNatClampNeg) x1 x2 x3 (fun (σ_10 : St) => vp_in (0 : Int32) 5640 ∧ vp_in (0 : Int32) 5640 ∧ ∀ σ_12 : St, σ_12 = wr σ_10 (r0 + 1) ((0 : Int32)).toNatClampNeg ((σ_10.1 (r0 + 1) ((0 : Int32)).toNatClampNeg) + (1 : Int32)) → vp_in (0 : Int32) 5640 ∧ Q ((σ_12.1 (r0 + 1) ((0 : Int32)).toNatClampNeg) - (1 : Int32)) σ_12) σ_9) σ_5) ∧ ((σ_5.1 (r0 + 1) ((0 : Int32)).toNatClampNeg) = (6 : Int32) → Q (-3 : Int32) σ_5))) ∧ (v_6 = 0 → Q (-1 : Int32) σ_5))) σ_3))) σ_1))) σ
theorem d_10_legOf_0 : decode prog_12_method_18_code 0 = .ok (.aload_n 0, 1) := by decide +kernel
theorem d_10_legOf_1 : decode prog_12_method_18_code 1 = .ok (.getfield 7, 3) := by decide +kernel
theorem d_10_legOf_4 : decode prog_12_method_18_code 4 = .ok (.sipush 508, 3) := by decide +kernel
theorem d_10_legOf_7 : decode prog_12_method_18_code 7 = .ok (.iconst 4, 1) := by decide +kernel
theorem d_10_legOf_8 : decode prog_12_method_18_code 8 = .ok (.iload_n 1, 1) := by decide +kernel
theorem d_10_legOf_9 : decode prog_12_method_18_code 9 = .ok (.imul, 1) := by decide +kernel
theorem d_10_legOf_10 : decode prog_12_method_18_code 10 = .ok (.iadd, 1) := by decide +kernel
theorem d_10_legOf_11 : decode prog_12_method_18_code 11 = .ok (.iload_n 2, 1) := by decide +kernel
theorem d_10_legOf_12 : decode prog_12_method_18_code 12 = .ok (.iadd, 1) := by decide +kernel
theorem d_10_legOf_13 : decode prog_12_method_18_code 13 = .ok (.iaload, 1) := by decide +kernel
theorem d_10_legOf_14 : decode prog_12_method_18_code 14 = .ok (.ireturn, 1) := by decide +kernel
def m_10_legOf (r0 : Nat) (x1 : Int32) (x2 : Int32) (Q : Int32 → St → Prop) (σ : St) : Prop :=
  vp_in (((508 : Int32) + ((4 : Int32) * x1)) + x2) 5640 ∧ Q (σ.1 (r0 + 1) ((((508 : Int32) + ((4 : Int32) * x1)) + x2)).toNatClampNeg) σ
theorem d_10_dropStreet_0 : decode prog_12_method_19_code 0 = .ok (.aload_n 0, 1) := by decide +kernel
theorem d_10_dropStreet_1 : decode prog_12_method_19_code 1 = .ok (.iload_n 1, 1) := by decide +kernel
theorem d_10_dropStreet_2 : decode prog_12_method_19_code 2 = .ok (.invokevirtual 44, 3) := by decide +kernel
theorem d_10_dropStreet_5 : decode prog_12_method_19_code 5 = .ok (.ifCond .ne 5, 3) := by decide +kernel
theorem d_10_dropStreet_8 : decode prog_12_method_19_code 8 = .ok (.iconst (-1), 1) := by decide +kernel
theorem d_10_dropStreet_9 : decode prog_12_method_19_code 9 = .ok (.ireturn, 1) := by decide +kernel
theorem d_10_dropStreet_10 : decode prog_12_method_19_code 10 = .ok (.aload_n 0, 1) := by decide +kernel
theorem d_10_dropStreet_11 : decode prog_12_method_19_code 11 = .ok (.invokevirtual 56, 3) := by decide +kernel
theorem d_10_dropStreet_14 : decode prog_12_method_19_code 14 = .ok (.aload_n 0, 1) := by decide +kernel
theorem d_10_dropStreet_15 : decode prog_12_method_19_code 15 = .ok (.getfield 7, 3) := by decide +kernel
theorem d_10_dropStreet_18 : decode prog_12_method_19_code 18 = .ok (.sipush 548, 3) := by decide +kernel
theorem d_10_dropStreet_21 : decode prog_12_method_19_code 21 = .ok (.iconst 0, 1) := by decide +kernel
theorem d_10_dropStreet_22 : decode prog_12_method_19_code 22 = .ok (.iastore, 1) := by decide +kernel
theorem d_10_dropStreet_23 : decode prog_12_method_19_code 23 = .ok (.aload_n 0, 1) := by decide +kernel
theorem d_10_dropStreet_24 : decode prog_12_method_19_code 24 = .ok (.iconst 2, 1) := by decide +kernel
theorem d_10_dropStreet_25 : decode prog_12_method_19_code 25 = .ok (.aload_n 0, 1) := by decide +kernel
theorem d_10_dropStreet_26 : decode prog_12_method_19_code 26 = .ok (.iload_n 1, 1) := by decide +kernel
theorem d_10_dropStreet_27 : decode prog_12_method_19_code 27 = .ok (.iconst 0, 1) := by decide +kernel
theorem d_10_dropStreet_28 : decode prog_12_method_19_code 28 = .ok (.invokevirtual 63, 3) := by decide +kernel
theorem d_10_dropStreet_31 : decode prog_12_method_19_code 31 = .ok (.aload_n 0, 1) := by decide +kernel
theorem d_10_dropStreet_32 : decode prog_12_method_19_code 32 = .ok (.iload_n 1, 1) := by decide +kernel
theorem d_10_dropStreet_33 : decode prog_12_method_19_code 33 = .ok (.iconst 1, 1) := by decide +kernel
theorem d_10_dropStreet_34 : decode prog_12_method_19_code 34 = .ok (.invokevirtual 63, 3) := by decide +kernel
theorem d_10_dropStreet_37 : decode prog_12_method_19_code 37 = .ok (.iadd, 1) := by decide +kernel
theorem d_10_dropStreet_38 : decode prog_12_method_19_code 38 = .ok (.invokevirtual 66, 3) := by decide +kernel
theorem d_10_dropStreet_41 : decode prog_12_method_19_code 41 = .ok (.aload_n 0, 1) := by decide +kernel
theorem d_10_dropStreet_42 : decode prog_12_method_19_code 42 = .ok (.getfield 7, 3) := by decide +kernel
theorem d_10_dropStreet_45 : decode prog_12_method_19_code 45 = .ok (.iconst 0, 1) := by decide +kernel
theorem d_10_dropStreet_46 : decode prog_12_method_19_code 46 = .ok (.dup2, 1) := by decide +kernel
theorem d_10_dropStreet_47 : decode prog_12_method_19_code 47 = .ok (.iaload, 1) := by decide +kernel
theorem d_10_dropStreet_48 : decode prog_12_method_19_code 48 = .ok (.iconst 1, 1) := by decide +kernel
theorem d_10_dropStreet_49 : decode prog_12_method_19_code 49 = .ok (.isub, 1) := by decide +kernel
theorem d_10_dropStreet_50 : decode prog_12_method_19_code 50 = .ok (.iastore, 1) := by decide +kernel
theorem d_10_dropStreet_51 : decode prog_12_method_19_code 51 = .ok (.iconst 1, 1) := by decide +kernel
theorem d_10_dropStreet_52 : decode prog_12_method_19_code 52 = .ok (.bipush 83, 2) := by decide +kernel
theorem d_10_dropStreet_54 : decode prog_12_method_19_code 54 = .ok (.iload_n 1, 1) := by decide +kernel
theorem d_10_dropStreet_55 : decode prog_12_method_19_code 55 = .ok (.imul, 1) := by decide +kernel
theorem d_10_dropStreet_56 : decode prog_12_method_19_code 56 = .ok (.iadd, 1) := by decide +kernel
theorem d_10_dropStreet_57 : decode prog_12_method_19_code 57 = .ok (.istore_n 2, 1) := by decide +kernel
theorem d_10_dropStreet_58 : decode prog_12_method_19_code 58 = .ok (.iload_n 2, 1) := by decide +kernel
theorem d_10_dropStreet_59 : decode prog_12_method_19_code 59 = .ok (.iconst 1, 1) := by decide +kernel
theorem d_10_dropStreet_60 : decode prog_12_method_19_code 60 = .ok (.bipush 83, 2) := by decide +kernel
theorem d_10_dropStreet_62 : decode prog_12_method_19_code 62 = .ok (.aload_n 0, 1) := by decide +kernel
theorem d_10_dropStreet_63 : decode prog_12_method_19_code 63 = .ok (.getfield 7, 3) := by decide +kernel
theorem d_10_dropStreet_66 : decode prog_12_method_19_code 66 = .ok (.iconst 0, 1) := by decide +kernel
theorem d_10_dropStreet_67 : decode prog_12_method_19_code 67 = .ok (.iaload, 1) := by decide +kernel
theorem d_10_dropStreet_68 : decode prog_12_method_19_code 68 = .ok (.imul, 1) := by decide +kernel
theorem d_10_dropStreet_69 : decode prog_12_method_19_code 69 = .ok (.iadd, 1) := by decide +kernel
theorem d_10_dropStreet_70 : decode prog_12_method_19_code 70 = .ok (.if_icmp .ge 24, 3) := by decide +kernel
theorem d_10_dropStreet_73 : decode prog_12_method_19_code 73 = .ok (.aload_n 0, 1) := by decide +kernel
theorem d_10_dropStreet_74 : decode prog_12_method_19_code 74 = .ok (.getfield 7, 3) := by decide +kernel
theorem d_10_dropStreet_77 : decode prog_12_method_19_code 77 = .ok (.iload_n 2, 1) := by decide +kernel
theorem d_10_dropStreet_78 : decode prog_12_method_19_code 78 = .ok (.aload_n 0, 1) := by decide +kernel
theorem d_10_dropStreet_79 : decode prog_12_method_19_code 79 = .ok (.getfield 7, 3) := by decide +kernel
theorem d_10_dropStreet_82 : decode prog_12_method_19_code 82 = .ok (.iload_n 2, 1) := by decide +kernel
theorem d_10_dropStreet_83 : decode prog_12_method_19_code 83 = .ok (.bipush 83, 2) := by decide +kernel
theorem d_10_dropStreet_85 : decode prog_12_method_19_code 85 = .ok (.iadd, 1) := by decide +kernel
theorem d_10_dropStreet_86 : decode prog_12_method_19_code 86 = .ok (.iaload, 1) := by decide +kernel
theorem d_10_dropStreet_87 : decode prog_12_method_19_code 87 = .ok (.iastore, 1) := by decide +kernel
theorem d_10_dropStreet_88 : decode prog_12_method_19_code 88 = .ok (.iinc 2 1, 3) := by decide +kernel
theorem d_10_dropStreet_91 : decode prog_12_method_19_code 91 = .ok (.goto (-33), 3) := by decide +kernel
theorem d_10_dropStreet_94 : decode prog_12_method_19_code 94 = .ok (.iconst 0, 1) := by decide +kernel
theorem d_10_dropStreet_95 : decode prog_12_method_19_code 95 = .ok (.istore_n 2, 1) := by decide +kernel
theorem d_10_dropStreet_96 : decode prog_12_method_19_code 96 = .ok (.iconst 0, 1) := by decide +kernel
theorem d_10_dropStreet_97 : decode prog_12_method_19_code 97 = .ok (.istore_n 3, 1) := by decide +kernel
theorem d_10_dropStreet_98 : decode prog_12_method_19_code 98 = .ok (.iload_n 3, 1) := by decide +kernel
theorem d_10_dropStreet_99 : decode prog_12_method_19_code 99 = .ok (.aload_n 0, 1) := by decide +kernel
theorem d_10_dropStreet_100 : decode prog_12_method_19_code 100 = .ok (.getfield 7, 3) := by decide +kernel
theorem d_10_dropStreet_103 : decode prog_12_method_19_code 103 = .ok (.sipush 507, 3) := by decide +kernel
theorem d_10_dropStreet_106 : decode prog_12_method_19_code 106 = .ok (.iaload, 1) := by decide +kernel
theorem d_10_dropStreet_107 : decode prog_12_method_19_code 107 = .ok (.if_icmp .ge 77, 3) := by decide +kernel
theorem d_10_dropStreet_110 : decode prog_12_method_19_code 110 = .ok (.aload_n 0, 1) := by decide +kernel
theorem d_10_dropStreet_111 : decode prog_12_method_19_code 111 = .ok (.iload_n 3, 1) := by decide +kernel
theorem d_10_dropStreet_112 : decode prog_12_method_19_code 112 = .ok (.iconst 0, 1) := by decide +kernel
theorem d_10_dropStreet_113 : decode prog_12_method_19_code 113 = .ok (.invokevirtual 69, 3) := by decide +kernel
theorem d_10_dropStreet_116 : decode prog_12_method_19_code 116 = .ok (.iload_n 1, 1) := by decide +kernel
theorem d_10_dropStreet_117 : decode prog_12_method_19_code 117 = .ok (.if_icmp .eq 61, 3) := by decide +kernel
theorem d_10_dropStreet_120 : decode prog_12_method_19_code 120 = .ok (.aload_n 0, 1) := by decide +kernel
theorem d_10_dropStreet_121 : decode prog_12_method_19_code 121 = .ok (.iload_n 3, 1) := by decide +kernel
theorem d_10_dropStreet_122 : decode prog_12_method_19_code 122 = .ok (.iconst 0, 1) := by decide +kernel
theorem d_10_dropStreet_123 : decode prog_12_method_19_code 123 = .ok (.invokevirtual 69, 3) := by decide +kernel
theorem d_10_dropStreet_126 : decode prog_12_method_19_code 126 = .ok (.istore 4, 2) := by decide +kernel
theorem d_10_dropStreet_128 : decode prog_12_method_19_code 128 = .ok (.aload_n 0, 1) := by decide +kernel
theorem d_10_dropStreet_129 : decode prog_12_method_19_code 129 = .ok (.getfield 7, 3) := by decide +kernel
theorem d_10_dropStreet_132 : decode prog_12_method_19_code 132 = .ok (.sipush 508, 3) := by decide +kernel
theorem d_10_dropStreet_135 : decode prog_12_method_19_code 135 = .ok (.iconst 4, 1) := by decide +kernel
theorem d_10_dropStreet_136 : decode prog_12_method_19_code 136 = .ok (.iload_n 2, 1) := by decide +kernel
theorem d_10_dropStreet_137 : decode prog_12_method_19_code 137 = .ok (.imul, 1) := by decide +kernel
theorem d_10_dropStreet_138 : decode prog_12_method_19_code 138 = .ok (.iadd, 1) := by decide +kernel
theorem d_10_dropStreet_139 : decode prog_12_method_19_code 139 = .ok (.iload 4, 2) := by decide +kernel
theorem d_10_dropStreet_141 : decode prog_12_method_19_code 141 = .ok (.iload_n 1, 1) := by decide +kernel
theorem d_10_dropStreet_142 : decode prog_12_method_19_code 142 = .ok (.if_icmp .le 10, 3) := by decide +kernel
theorem d_10_dropStreet_145 : decode prog_12_method_19_code 145 = .ok (.iload 4, 2) := by decide +kernel
theorem d_10_dropStreet_147 : decode prog_12_method_19_code 147 = .ok (.iconst 1, 1) := by decide +kernel
theorem d_10_dropStreet_148 : decode prog_12_method_19_code 148 = .ok (.isub, 1) := by decide +kernel
theorem d_10_dropStreet_149 : decode prog_12_method_19_code 149 = .ok (.goto 5, 3) := by decide +kernel
theorem d_10_dropStreet_152 : decode prog_12_method_19_code 152 = .ok (.iload 4, 2) := by decide +kernel
theorem d_10_dropStreet_154 : decode prog_12_method_19_code 154 = .ok (.iastore, 1) := by decide +kernel
theorem d_10_dropStreet_155 : decode prog_12_method_19_code 155 = .ok (.aload_n 0, 1) := by decide +kernel
theorem d_10_dropStreet_156 : decode prog_12_method_19_code 156 = .ok (.getfield 7, 3) := by decide +kernel
theorem d_10_dropStreet_159 : decode prog_12_method_19_code 159 = .ok (.sipush 508, 3) := by decide +kernel
theorem d_10_dropStreet_162 : decode prog_12_method_19_code 162 = .ok (.iconst 4, 1) := by decide +kernel
theorem d_10_dropStreet_163 : decode prog_12_method_19_code 163 = .ok (.iload_n 2, 1) := by decide +kernel
theorem d_10_dropStreet_164 : decode prog_12_method_19_code 164 = .ok (.imul, 1) := by decide +kernel
theorem d_10_dropStreet_165 : decode prog_12_method_19_code 165 = .ok (.iadd, 1) := by decide +kernel
theorem d_10_dropStreet_166 : decode prog_12_method_19_code 166 = .ok (.iconst 1, 1) := by decide +kernel
theorem d_10_dropStreet_167 : decode prog_12_method_19_code 167 = .ok (.iadd, 1) := by decide +kernel
theorem d_10_dropStreet_168 : decode prog_12_method_19_code 168 = .ok (.aload_n 0, 1) := by decide +kernel
theorem d_10_dropStreet_169 : decode prog_12_method_19_code 169 = .ok (.iload_n 3, 1) := by decide +kernel
theorem d_10_dropStreet_170 : decode prog_12_method_19_code 170 = .ok (.iconst 1, 1) := by decide +kernel
theorem d_10_dropStreet_171 : decode prog_12_method_19_code 171 = .ok (.invokevirtual 69, 3) := by decide +kernel
theorem d_10_dropStreet_174 : decode prog_12_method_19_code 174 = .ok (.iastore, 1) := by decide +kernel
theorem d_10_dropStreet_175 : decode prog_12_method_19_code 175 = .ok (.iinc 2 1, 3) := by decide +kernel
theorem d_10_dropStreet_178 : decode prog_12_method_19_code 178 = .ok (.iinc 3 1, 3) := by decide +kernel
theorem d_10_dropStreet_181 : decode prog_12_method_19_code 181 = .ok (.goto (-83), 3) := by decide +kernel
theorem d_10_dropStreet_184 : decode prog_12_method_19_code 184 = .ok (.aload_n 0, 1) := by decide +kernel
theorem d_10_dropStreet_185 : decode prog_12_method_19_code 185 = .ok (.getfield 7, 3) := by decide +kernel
theorem d_10_dropStreet_188 : decode prog_12_method_19_code 188 = .ok (.sipush 507, 3) := by decide +kernel
theorem d_10_dropStreet_191 : decode prog_12_method_19_code 191 = .ok (.iload_n 2, 1) := by decide +kernel
theorem d_10_dropStreet_192 : decode prog_12_method_19_code 192 = .ok (.iastore, 1) := by decide +kernel
theorem d_10_dropStreet_193 : decode prog_12_method_19_code 193 = .ok (.iload_n 2, 1) := by decide +kernel
theorem d_10_dropStreet_194 : decode prog_12_method_19_code 194 = .ok (.ireturn, 1) := by decide +kernel
def m_10_dropStreet_154 (r0 : Nat) (x1 : Int32) (x2 : Int32) (x3 : Int32) (B98 : Int32 → Int32 → St → Prop) (Q : Int32 → St → Prop) (t0 : Int32) (t1 : Int32) (t2 : Nat) (σ : St) : Prop :=
  vp_in t1 5640 ∧ ∀ σ_1 : St, σ_1 = wr σ t2 (t1).toNatClampNeg t0 → m_10_legOf r0 x3 (1 : Int32) (fun (v_3 : Int32) (σ_2 : St) => vp_in (((508 : Int32) + ((4 : Int32) * x2)) + (1 : Int32)) 5640 ∧ ∀ σ_4 : St, σ_4 = wr σ_2 (r0 + 1) ((((508 : Int32) + ((4 : Int32) * x2)) + (1 : Int32))).toNatClampNeg v_3 → ∀ x2_5 : Int32, x2_5 = x2 + 1 → ∀ x3_6 : Int32, x3_6 = x3 + 1 → B98 x2_5 x3_6 σ_4) σ_1
def m_10_dropStreet_98 (r0 : Nat) (x1 : Int32) (Q : Int32 → St → Prop) (B98 : Int32 → Int32 → St → Prop) (x2 : Int32) (x3 : Int32) (σ : St) : Prop :=
  vp_in (507 : Int32) 5640 ∧ (((σ.1 (r0 + 1) ((507 : Int32)).toNatClampNeg) ≤ x3 → vp_in (507 : Int32) 5640 ∧ ∀ σ_1 : St, σ_1 = wr σ (r0 + 1) ((507 : Int32)).toNatClampNeg x2 → Q x2 σ_1) ∧ (¬ (σ.1 (r0 + 1) ((507 : Int32)).toNatClampNeg) ≤ x3 → m_10_legOf r0 x3 (0 : Int32) (fun (v_3 : Int32) (σ_2 : St) => ((v_3 = x1 → ∀ x3_4 : Int32, x3_4 = x3 + 1 → B98 x2 x3_4 σ_2) ∧ (¬ v_3 = x1 → m_10_legOf r0 x3 (0 : Int32) (fun (v_6 : Int32) (σ_5 : St) => ((v_6 ≤ x1 → m_10_dropStreet_154 r0 x1 x2 x3 B98 Q  v_6 ((508 : Int32) + ((4 : Int32) * x2)) (r0 + 1) σ_5) ∧ (¬ v_6 ≤ x1 → m_10_dropStreet_154 r0 x1 x2 x3 B98 Q  (v_6 - (1 : Int32)) ((508 : Int32) + ((4 : Int32) * x2)) (r0 + 1) σ_5))) σ_2))) σ))
def m_10_dropStreet_58 (r0 : Nat) (x1 : Int32) (Q : Int32 → St → Prop) (B58 : Int32 → St → Prop) (x2 : Int32) (σ : St) : Prop :=
  vp_in (0 : Int32) 5640 ∧ ((((1 : Int32) + ((83 : Int32) * (σ.1 (r0 + 1) ((0 : Int32)).toNatClampNeg))) ≤ x2 → itN (m_10_dropStreet_98 r0 x1 Q) (fun _ _ _ => False) FU (0 : Int32) (0 : Int32) σ) ∧ (¬ ((1 : Int32) + ((83 : Int32) * (σ.1 (r0 + 1) ((0 : Int32)).toNatClampNeg))) ≤ x2 → vp_in (x2 + (83 : Int32)) 5640 ∧ vp_in x2 5640 ∧ ∀ σ_1 : St, σ_1 = wr σ (r0 + 1) (x2).toNatClampNeg (σ.1 (r0 + 1) ((x2 + (83 : Int32))).toNatClampNeg) → ∀ x2_2 : Int32, x2_2 = x2 + 1 → B58 x2_2 σ_1))
def m_10_dropStreet (r0 : Nat) (x1 : Int32) (Q : Int32 → St → Prop) (σ : St) : Prop :=
  m_10_isStreet r0 x1 (fun (v_2 : Int32) (σ_1 : St) => ((¬ v_2 = 0 → m_10_records r0 (fun (σ_3 : St) => vp_in (548 : Int32) 5640 ∧ ∀ σ_5 : St, σ_5 = wr σ_3 (r0 + 1) ((548 : Int32)).toNatClampNeg (0 : Int32) → m_10_sideSum r0 x1 (0 : Int32) (fun (v_7 : Int32) (σ_6 : St) => m_10_sideSum r0 x1 (1 : Int32) (fun (v_9 : Int32) (σ_8 : St) => m_10_books r0 (2 : Int32) (v_7 + v_9) (fun (σ_10 : St) => vp_in (0 : Int32) 5640 ∧ vp_in (0 : Int32) 5640 ∧ ∀ σ_12 : St, σ_12 = wr σ_10 (r0 + 1) ((0 : Int32)).toNatClampNeg ((σ_10.1 (r0 + 1) ((0 : Int32)).toNatClampNeg) - (1 : Int32)) → ∀ x2_13 : Int32, x2_13 = ((1 : Int32) + ((83 : Int32) * x1)) → itN (m_10_dropStreet_58 r0 x1 Q) (fun _ _ => False) FU x2_13 σ_12) σ_8) σ_6) σ_5) σ_1) ∧ (v_2 = 0 → Q (-1 : Int32) σ_1))) σ
theorem d_10_lay_0 : decode prog_12_method_20_code 0 = .ok (.aload_n 0, 1) := by decide +kernel
theorem d_10_lay_1 : decode prog_12_method_20_code 1 = .ok (.iload_n 1, 1) := by decide +kernel
theorem d_10_lay_2 : decode prog_12_method_20_code 2 = .ok (.iload_n 2, 1) := by decide +kernel
theorem d_10_lay_3 : decode prog_12_method_20_code 3 = .ok (.iload_n 3, 1) := by decide +kernel
theorem d_10_lay_4 : decode prog_12_method_20_code 4 = .ok (.invokevirtual 72, 3) := by decide +kernel
theorem d_10_lay_7 : decode prog_12_method_20_code 7 = .ok (.ifCond .eq 14, 3) := by decide +kernel
theorem d_10_lay_10 : decode prog_12_method_20_code 10 = .ok (.iload 4, 2) := by decide +kernel
theorem d_10_lay_12 : decode prog_12_method_20_code 12 = .ok (.iconst 0, 1) := by decide +kernel
theorem d_10_lay_13 : decode prog_12_method_20_code 13 = .ok (.bipush 99, 2) := by decide +kernel
theorem d_10_lay_15 : decode prog_12_method_20_code 15 = .ok (.invokestatic 40, 3) := by decide +kernel
theorem d_10_lay_18 : decode prog_12_method_20_code 18 = .ok (.ifCond .ne 5, 3) := by decide +kernel
theorem d_10_lay_21 : decode prog_12_method_20_code 21 = .ok (.iconst (-1), 1) := by decide +kernel
theorem d_10_lay_22 : decode prog_12_method_20_code 22 = .ok (.ireturn, 1) := by decide +kernel
theorem d_10_lay_23 : decode prog_12_method_20_code 23 = .ok (.aload_n 0, 1) := by decide +kernel
theorem d_10_lay_24 : decode prog_12_method_20_code 24 = .ok (.invokevirtual 56, 3) := by decide +kernel
theorem d_10_lay_27 : decode prog_12_method_20_code 27 = .ok (.aload_n 0, 1) := by decide +kernel
theorem d_10_lay_28 : decode prog_12_method_20_code 28 = .ok (.iload_n 1, 1) := by decide +kernel
theorem d_10_lay_29 : decode prog_12_method_20_code 29 = .ok (.iload_n 2, 1) := by decide +kernel
theorem d_10_lay_30 : decode prog_12_method_20_code 30 = .ok (.iload_n 3, 1) := by decide +kernel
theorem d_10_lay_31 : decode prog_12_method_20_code 31 = .ok (.invokevirtual 48, 3) := by decide +kernel
theorem d_10_lay_34 : decode prog_12_method_20_code 34 = .ok (.istore 5, 2) := by decide +kernel
theorem d_10_lay_36 : decode prog_12_method_20_code 36 = .ok (.aload_n 0, 1) := by decide +kernel
theorem d_10_lay_37 : decode prog_12_method_20_code 37 = .ok (.iload_n 1, 1) := by decide +kernel
theorem d_10_lay_38 : decode prog_12_method_20_code 38 = .ok (.iconst 3, 1) := by decide +kernel
theorem d_10_lay_39 : decode prog_12_method_20_code 39 = .ok (.iload_n 2, 1) := by decide +kernel
theorem d_10_lay_40 : decode prog_12_method_20_code 40 = .ok (.iload_n 3, 1) := by decide +kernel
theorem d_10_lay_41 : decode prog_12_method_20_code 41 = .ok (.invokestatic 33, 3) := by decide +kernel
theorem d_10_lay_44 : decode prog_12_method_20_code 44 = .ok (.iadd, 1) := by decide +kernel
theorem d_10_lay_45 : decode prog_12_method_20_code 45 = .ok (.iload 4, 2) := by decide +kernel
theorem d_10_lay_47 : decode prog_12_method_20_code 47 = .ok (.invokevirtual 52, 3) := by decide +kernel
theorem d_10_lay_50 : decode prog_12_method_20_code 50 = .ok (.aload_n 0, 1) := by decide +kernel
theorem d_10_lay_51 : decode prog_12_method_20_code 51 = .ok (.iload 4, 2) := by decide +kernel
theorem d_10_lay_53 : decode prog_12_method_20_code 53 = .ok (.iload 5, 2) := by decide +kernel
theorem d_10_lay_55 : decode prog_12_method_20_code 55 = .ok (.if_icmp .le 7, 3) := by decide +kernel
theorem d_10_lay_58 : decode prog_12_method_20_code 58 = .ok (.iconst 0, 1) := by decide +kernel
theorem d_10_lay_59 : decode prog_12_method_20_code 59 = .ok (.goto 4, 3) := by decide +kernel
theorem d_10_lay_62 : decode prog_12_method_20_code 62 = .ok (.iconst 2, 1) := by decide +kernel
theorem d_10_lay_63 : decode prog_12_method_20_code 63 = .ok (.iload 4, 2) := by decide +kernel
theorem d_10_lay_65 : decode prog_12_method_20_code 65 = .ok (.iload 5, 2) := by decide +kernel
theorem d_10_lay_67 : decode prog_12_method_20_code 67 = .ok (.if_icmp .le 11, 3) := by decide +kernel
theorem d_10_lay_70 : decode prog_12_method_20_code 70 = .ok (.iload 4, 2) := by decide +kernel
theorem d_10_lay_72 : decode prog_12_method_20_code 72 = .ok (.iload 5, 2) := by decide +kernel
theorem d_10_lay_74 : decode prog_12_method_20_code 74 = .ok (.isub, 1) := by decide +kernel
theorem d_10_lay_75 : decode prog_12_method_20_code 75 = .ok (.goto 8, 3) := by decide +kernel
theorem d_10_lay_78 : decode prog_12_method_20_code 78 = .ok (.iload 5, 2) := by decide +kernel
theorem d_10_lay_80 : decode prog_12_method_20_code 80 = .ok (.iload 4, 2) := by decide +kernel
theorem d_10_lay_82 : decode prog_12_method_20_code 82 = .ok (.isub, 1) := by decide +kernel
theorem d_10_lay_83 : decode prog_12_method_20_code 83 = .ok (.invokevirtual 66, 3) := by decide +kernel
theorem d_10_lay_86 : decode prog_12_method_20_code 86 = .ok (.iload 5, 2) := by decide +kernel
theorem d_10_lay_88 : decode prog_12_method_20_code 88 = .ok (.ireturn, 1) := by decide +kernel
def m_10_lay_83 (x5 : Int32) (Q : Int32 → St → Prop) (t0 : Int32) (t1 : Int32) (t2 : Nat) (σ : St) : Prop :=
  m_10_books t2 t1 t0 (fun (σ_1 : St) => Q x5 σ_1) σ
def m_10_lay_63 (x4 : Int32) (x5 : Int32) (Q : Int32 → St → Prop) (t0 : Int32) (t1 : Nat) (σ : St) : Prop :=
  ((x4 ≤ x5 → m_10_lay_83 x5 Q  (x5 - x4) t0 t1 σ) ∧ (¬ x4 ≤ x5 → m_10_lay_83 x5 Q  (x4 - x5) t0 t1 σ))
def m_10_lay (r0 : Nat) (x1 : Int32) (x2 : Int32) (x3 : Int32) (x4 : Int32) (Q : Int32 → St → Prop) (σ : St) : Prop :=
  m_10_isCell r0 x1 x2 x3 (fun (v_2 : Int32) (σ_1 : St) => ((v_2 = 0 → Q (-1 : Int32) σ_1) ∧ (¬ v_2 = 0 → m_10_in x4 (0 : Int32) (99 : Int32) (fun (v_4 : Int32) (σ_3 : St) => ((¬ v_4 = 0 → m_10_records r0 (fun (σ_5 : St) => m_10_dirtOf r0 x1 x2 x3 (fun (v_8 : Int32) (σ_7 : St) => m_10_placeOf x2 x3 (fun (v_10 : Int32) (σ_9 : St) => m_10_sets r0 x1 ((3 : Int32) + v_10) x4 (fun (σ_11 : St) => ((x4 ≤ v_8 → m_10_lay_63 x4 v_8 Q  (2 : Int32) r0 σ_11) ∧ (¬ x4 ≤ v_8 → m_10_lay_63 x4 v_8 Q  (0 : Int32) r0 σ_11))) σ_9) σ_7) σ_5) σ_3) ∧ (v_4 = 0 → Q (-1 : Int32) σ_3))) σ_1))) σ
theorem d_10_park_0 : decode prog_12_method_21_code 0 = .ok (.aload_n 0, 1) := by decide +kernel
theorem d_10_park_1 : decode prog_12_method_21_code 1 = .ok (.iload_n 1, 1) := by decide +kernel
theorem d_10_park_2 : decode prog_12_method_21_code 2 = .ok (.iload_n 2, 1) := by decide +kernel
theorem d_10_park_3 : decode prog_12_method_21_code 3 = .ok (.iload_n 3, 1) := by decide +kernel
theorem d_10_park_4 : decode prog_12_method_21_code 4 = .ok (.invokevirtual 72, 3) := by decide +kernel
theorem d_10_park_7 : decode prog_12_method_21_code 7 = .ok (.ifCond .ne 5, 3) := by decide +kernel
theorem d_10_park_10 : decode prog_12_method_21_code 10 = .ok (.iconst (-1), 1) := by decide +kernel
theorem d_10_park_11 : decode prog_12_method_21_code 11 = .ok (.ireturn, 1) := by decide +kernel
theorem d_10_park_12 : decode prog_12_method_21_code 12 = .ok (.aload_n 0, 1) := by decide +kernel
theorem d_10_park_13 : decode prog_12_method_21_code 13 = .ok (.invokevirtual 56, 3) := by decide +kernel
theorem d_10_park_16 : decode prog_12_method_21_code 16 = .ok (.aload_n 0, 1) := by decide +kernel
theorem d_10_park_17 : decode prog_12_method_21_code 17 = .ok (.iload_n 1, 1) := by decide +kernel
theorem d_10_park_18 : decode prog_12_method_21_code 18 = .ok (.bipush 43, 2) := by decide +kernel
theorem d_10_park_20 : decode prog_12_method_21_code 20 = .ok (.iload_n 2, 1) := by decide +kernel
theorem d_10_park_21 : decode prog_12_method_21_code 21 = .ok (.iload_n 3, 1) := by decide +kernel
theorem d_10_park_22 : decode prog_12_method_21_code 22 = .ok (.invokestatic 33, 3) := by decide +kernel
theorem d_10_park_25 : decode prog_12_method_21_code 25 = .ok (.iadd, 1) := by decide +kernel
theorem d_10_park_26 : decode prog_12_method_21_code 26 = .ok (.invokevirtual 37, 3) := by decide +kernel
theorem d_10_park_29 : decode prog_12_method_21_code 29 = .ok (.istore 5, 2) := by decide +kernel
theorem d_10_park_31 : decode prog_12_method_21_code 31 = .ok (.aload_n 0, 1) := by decide +kernel
theorem d_10_park_32 : decode prog_12_method_21_code 32 = .ok (.iload_n 1, 1) := by decide +kernel
theorem d_10_park_33 : decode prog_12_method_21_code 33 = .ok (.bipush 43, 2) := by decide +kernel
theorem d_10_park_35 : decode prog_12_method_21_code 35 = .ok (.iload_n 2, 1) := by decide +kernel
theorem d_10_park_36 : decode prog_12_method_21_code 36 = .ok (.iload_n 3, 1) := by decide +kernel
theorem d_10_park_37 : decode prog_12_method_21_code 37 = .ok (.invokestatic 33, 3) := by decide +kernel
theorem d_10_park_40 : decode prog_12_method_21_code 40 = .ok (.iadd, 1) := by decide +kernel
theorem d_10_park_41 : decode prog_12_method_21_code 41 = .ok (.iload 4, 2) := by decide +kernel
theorem d_10_park_43 : decode prog_12_method_21_code 43 = .ok (.ifCond .eq 7, 3) := by decide +kernel
theorem d_10_park_46 : decode prog_12_method_21_code 46 = .ok (.iconst 1, 1) := by decide +kernel
theorem d_10_park_47 : decode prog_12_method_21_code 47 = .ok (.goto 4, 3) := by decide +kernel
theorem d_10_park_50 : decode prog_12_method_21_code 50 = .ok (.iconst 0, 1) := by decide +kernel
theorem d_10_park_51 : decode prog_12_method_21_code 51 = .ok (.invokevirtual 52, 3) := by decide +kernel
theorem d_10_park_54 : decode prog_12_method_21_code 54 = .ok (.iload 5, 2) := by decide +kernel
theorem d_10_park_56 : decode prog_12_method_21_code 56 = .ok (.ireturn, 1) := by decide +kernel
def m_10_park_51 (x5 : Int32) (Q : Int32 → St → Prop) (t0 : Int32) (t1 : Int32) (t2 : Int32) (t3 : Nat) (σ : St) : Prop :=
  m_10_sets t3 t2 t1 t0 (fun (σ_1 : St) => Q x5 σ_1) σ
def m_10_park (r0 : Nat) (x1 : Int32) (x2 : Int32) (x3 : Int32) (x4 : Int32) (Q : Int32 → St → Prop) (σ : St) : Prop :=
  m_10_isCell r0 x1 x2 x3 (fun (v_2 : Int32) (σ_1 : St) => ((¬ v_2 = 0 → m_10_records r0 (fun (σ_3 : St) => m_10_placeOf x2 x3 (fun (v_6 : Int32) (σ_5 : St) => m_10_of r0 x1 ((43 : Int32) + v_6) (fun (v_8 : Int32) (σ_7 : St) => m_10_placeOf x2 x3 (fun (v_10 : Int32) (σ_9 : St) => ((x4 = 0 → m_10_park_51 v_8 Q  (0 : Int32) ((43 : Int32) + v_10) x1 r0 σ_9) ∧ (¬ x4 = 0 → m_10_park_51 v_8 Q  (1 : Int32) ((43 : Int32) + v_10) x1 r0 σ_9))) σ_7) σ_5) σ_3) σ_1) ∧ (v_2 = 0 → Q (-1 : Int32) σ_1))) σ
section MB
variable {p : Program} {l : Launch} {e : Env} {R : Room} {s : State} {m : MethodId} {args : Array Value} {below : List Frame} {meth : Method} {c : Code} {cells slots : Nat} {QW : State → Prop}
variable {D : va_G} {ac : Nat → ClassId} {ad st : Nat → Nat} {A : Nat → Prop}
set_option maxHeartbeats 4000000 in
set_option maxRecDepth 100000 in
theorem w_9_mix_0 {z0 : Int64} {x2 : Int32} {Q : Int64 → St → Prop} {σ : St} {H : Heap} {locs : List Loc} {ls : Array Slot} (S : SC A D ac st p m c prog_1_method_29_code 3 s args "SweeperRounds" R cells slots 0 0) (hR : RtL A D ac ad p l e R s m args below meth c prog_1_method_29_code cells slots QW Q) (hG : DG A D ac ad s σ H locs) (hl : lv_has ls 3 [(0, .long z0), (2, .int x2)]) (hf : m_9_mix z0 x2 Q σ) : W p l e R s m args below meth c H locs cells slots QW (F0 m 0 ls []) := by
  have hx := S.1.1
  have hb := S.1.2.1
  unfold m_9_mix at hf
  refine lv_ldc2 (v := 31) hx hb S.1.2.2.2.1 (S.1.2.2.2.2 _ wm_772) d_9_mix_0 ?_
  refine lv_lload_n hx hb d_9_mix_3 rfl (lv_at hl 0 rfl) ?_
  refine lv_lmul hx hb d_9_mix_4 ?_
  refine lv_iload_n hx hb d_9_mix_5 rfl (lv_at hl 1 rfl) ?_
  refine lv_i2l hx hb d_9_mix_6 rfl ?_
  refine lv_ladd hx hb d_9_mix_7 ?_
  exact hR _ _ _ _ _ _ hG hf d_9_mix_8
theorem c_9_mix (l : Launch) {D : va_G} {ac : Nat → ClassId} {ad st : Nat → Nat} {A : Nat → Prop} {σ : St} {z0 : Int64} {x2 : Int32} {Q : Int64 → St → Prop} (hf : m_9_mix z0 x2 Q σ) : Met l y_9_mix (Cond.code y_9_mix prog_1_method_29_code 3 (some .long) :: wA) { frames := 0, cells := 0, slots := 0, locals := 0 } (va_Pc [.long z0, .int x2] (GSt A D ac ad st σ)) (va_Ql Q (GSt A D ac ad st) A) 0 0 A :=
  mkL l (by decide +kernel) rfl [.long z0, .int x2] (Nat.le_of_ble_eq_true rfl) (fun p e s m args below meth c ls QW S hR hG hl => w_9_mix_0 S hR hG hl hf)
set_option maxHeartbeats 4000000 in
set_option maxRecDepth 100000 in
theorem w_9_mixStreet_69 {r0 : Nat} {x3 : Int32} {x6 : Int32} {x7 : Int32} {x8 : Int32} {B50 : Int64 → Int32 → St → Prop} {B59 : Int64 → Int32 → St → Prop} {Q : Int64 → St → Prop} {B69 : Int64 → Int32 → St → Prop} {z4 : Int64} {x9 : Int32} {σ : St} {H : Heap} {locs : List Loc} {ls : Array Slot} (S : SC A D ac st p m c prog_1_method_28_code 10 s args "SweeperRounds" R cells slots 3 70) (hR : RtL A D ac ad p l e R s m args below meth c prog_1_method_28_code cells slots QW Q) (hk_r0 : kd r0 = 9) (hB50 : ∀ (z4 : Int64) (x7 : Int32) (σ : St) (H : Heap) (locs : List Loc) (ls : Array Slot), DG A D ac ad s σ H locs → lv_has ls 10 [(0, .ref (ad r0)), (3, .int x3), (4, .long z4), (6, .int x6), (7, .int x7)] → B50 z4 x7 σ → W p l e R s m args below meth c H locs cells slots QW (F0 m 50 ls [])) (hB59 : ∀ (z4 : Int64) (x8 : Int32) (σ : St) (H : Heap) (locs : List Loc) (ls : Array Slot), DG A D ac ad s σ H locs → lv_has ls 10 [(0, .ref (ad r0)), (3, .int x3), (4, .long z4), (6, .int x6), (7, .int x7), (8, .int x8)] → B59 z4 x8 σ → W p l e R s m args below meth c H locs cells slots QW (F0 m 59 ls [])) (hB69 : ∀ (z4 : Int64) (x9 : Int32) (σ : St) (H : Heap) (locs : List Loc) (ls : Array Slot), DG A D ac ad s σ H locs → lv_has ls 10 [(0, .ref (ad r0)), (3, .int x3), (4, .long z4), (6, .int x6), (7, .int x7), (8, .int x8), (9, .int x9)] → B69 z4 x9 σ → W p l e R s m args below meth c H locs cells slots QW (F0 m 69 ls [])) (hG : DG A D ac ad s σ H locs) (hl : lv_has ls 10 [(0, .ref (ad r0)), (3, .int x3), (4, .long z4), (6, .int x6), (7, .int x7), (8, .int x8), (9, .int x9)]) (hf : m_9_mixStreet_69 r0 x3 x6 x7 x8 B50 B59 Q B69 z4 x9 σ) : W p l e R s m args below meth c H locs cells slots QW (F0 m 69 ls []) := by
  have hx := S.1.1
  have hb := S.1.2.1
  unfold m_9_mixStreet_69 at hf
  refine lv_iload hx hb d_9_mixStreet_69 (lv_at hl 6 rfl) ?_
  refine lv_iconst (v := (2 : Int32)) hx hb d_9_mixStreet_71 (by decide) ?_
  refine lv_icmp_gt (tgt := 99) hx hb d_9_mixStreet_72 (by decide) (fun hc => ?_) (fun hc => ?_)
  · have hf := hf.1 hc
    obtain ⟨x8_1, ex8_1⟩ : ∃ y : Int32, y = x8 + 1 := ⟨_, rfl⟩
    have hf := hf x8_1 ex8_1
    refine lv_iinc (v := x8_1) (lv' := [(8, .int x8_1), (0, .ref (ad r0)), (3, .int x3), (4, .long z4), (6, .int x6), (7, .int x7), (9, .int x9)]) hx hb d_9_mixStreet_99 hl (k := 5) rfl (by rw [ex8_1]; rfl) (by decide) rfl (fun ls hl => ?_)
    refine lv_goto (tgt := 59) hx hb d_9_mixStreet_102 (by decide) ?_
    exact hB59 _ _ _ _ _ _  hG (lv_sub hl [1, 2, 3, 4, 5, 0] rfl) hf
  · have hf := hf.2 hc
    refine lv_lload hx hb d_9_mixStreet_75 (lv_at hl 2 rfl) ?_
    refine lv_aload_n hx hb d_9_mixStreet_77 rfl (lv_at hl 0 rfl) ?_
    refine lv_iload_n hx hb d_9_mixStreet_78 rfl (lv_at hl 1 rfl) ?_
    refine lv_iload hx hb d_9_mixStreet_79 (lv_at hl 4 rfl) ?_
    refine lv_iload hx hb d_9_mixStreet_81 (lv_at hl 5 rfl) ?_
    refine lv_iload hx hb d_9_mixStreet_83 (lv_at hl 6 rfl) ?_
    refine iv_9_311 S hl.1 hG hk_r0 (c_9_cell l hk_r0 hf) ⟨Nat.le_of_ble_eq_true rfl, Nat.le_of_ble_eq_true rfl⟩ (Nat.le_of_ble_eq_true rfl) d_9_mixStreet_85 (fun v_3 σ_2 hf H locs hG => ?_)
    refine iv_9_288 S hl.1 hG  (c_9_mix l  hf) ⟨Nat.le_of_ble_eq_true rfl, Nat.le_of_ble_eq_true rfl⟩ (Nat.le_of_ble_eq_true rfl) d_9_mixStreet_88 (fun v_5 σ_4 hf H locs hG => ?_)
    refine lv_lstore (lv' := [(4, .long v_5), (0, .ref (ad r0)), (3, .int x3), (6, .int x6), (7, .int x7), (8, .int x8), (9, .int x9)]) hx hb d_9_mixStreet_91 hl (by decide) rfl (fun ls hl => ?_)
    obtain ⟨x9_6, ex9_6⟩ : ∃ y : Int32, y = x9 + 1 := ⟨_, rfl⟩
    have hf := hf x9_6 ex9_6
    refine lv_iinc (v := x9_6) (lv' := [(9, .int x9_6), (4, .long v_5), (0, .ref (ad r0)), (3, .int x3), (6, .int x6), (7, .int x7), (8, .int x8)]) hx hb d_9_mixStreet_93 hl (k := 6) rfl (by rw [ex9_6]; rfl) (by decide) rfl (fun ls hl => ?_)
    refine lv_goto (tgt := 69) hx hb d_9_mixStreet_96 (by decide) ?_
    exact hB69 _ _ _ _ _ _  hG (lv_sub hl [2, 3, 1, 4, 5, 6, 0] rfl) hf
set_option maxHeartbeats 4000000 in
set_option maxRecDepth 100000 in
theorem lp_9_mixStreet_69 {r0 : Nat} {x3 : Int32} {x6 : Int32} {x7 : Int32} {x8 : Int32} {B50 : Int64 → Int32 → St → Prop} {B59 : Int64 → Int32 → St → Prop} {Q : Int64 → St → Prop} (S : SC A D ac st p m c prog_1_method_28_code 10 s args "SweeperRounds" R cells slots 3 70) (hR : RtL A D ac ad p l e R s m args below meth c prog_1_method_28_code cells slots QW Q) (hk_r0 : kd r0 = 9) (hB50 : ∀ (z4 : Int64) (x7 : Int32) (σ : St) (H : Heap) (locs : List Loc) (ls : Array Slot), DG A D ac ad s σ H locs → lv_has ls 10 [(0, .ref (ad r0)), (3, .int x3), (4, .long z4), (6, .int x6), (7, .int x7)] → B50 z4 x7 σ → W p l e R s m args below meth c H locs cells slots QW (F0 m 50 ls [])) (hB59 : ∀ (z4 : Int64) (x8 : Int32) (σ : St) (H : Heap) (locs : List Loc) (ls : Array Slot), DG A D ac ad s σ H locs → lv_has ls 10 [(0, .ref (ad r0)), (3, .int x3), (4, .long z4), (6, .int x6), (7, .int x7), (8, .int x8)] → B59 z4 x8 σ → W p l e R s m args below meth c H locs cells slots QW (F0 m 59 ls [])) : ∀ (n : Nat) (z4 : Int64) (x9 : Int32) (σ : St) (H : Heap) (locs : List Loc) (ls : Array Slot), DG A D ac ad s σ H locs → lv_has ls 10 [(0, .ref (ad r0)), (3, .int x3), (4, .long z4), (6, .int x6), (7, .int x7), (8, .int x8), (9, .int x9)] → itN (m_9_mixStreet_69 r0 x3 x6 x7 x8 B50 B59 Q) (fun _ _ _ => False) n z4 x9 σ → W p l e R s m args below meth c H locs cells slots QW (F0 m 69 ls []) := by
  intro n
  induction n with
  | zero =>
    intro z4 x9 σ H locs ls  hG hl hf
    exact hf.elim
  | succ n ih =>
    intro z4 x9 σ H locs ls  hG hl hf
    exact w_9_mixStreet_69 S hR hk_r0 hB50 hB59 ih hG hl hf
set_option maxHeartbeats 4000000 in
set_option maxRecDepth 100000 in
theorem w_9_mixStreet_59 {r0 : Nat} {x3 : Int32} {x6 : Int32} {x7 : Int32} {B50 : Int64 → Int32 → St → Prop} {Q : Int64 → St → Prop} {B59 : Int64 → Int32 → St → Prop} {z4 : Int64} {x8 : Int32} {σ : St} {H : Heap} {locs : List Loc} {ls : Array Slot} (S : SC A D ac st p m c prog_1_method_28_code 10 s args "SweeperRounds" R cells slots 3 70) (hR : RtL A D ac ad p l e R s m args below meth c prog_1_method_28_code cells slots QW Q) (hk_r0 : kd r0 = 9) (hB50 : ∀ (z4 : Int64) (x7 : Int32) (σ : St) (H : Heap) (locs : List Loc) (ls : Array Slot), DG A D ac ad s σ H locs → lv_has ls 10 [(0, .ref (ad r0)), (3, .int x3), (4, .long z4), (6, .int x6), (7, .int x7)] → B50 z4 x7 σ → W p l e R s m args below meth c H locs cells slots QW (F0 m 50 ls [])) (hB59 : ∀ (z4 : Int64) (x8 : Int32) (σ : St) (H : Heap) (locs : List Loc) (ls : Array Slot), DG A D ac ad s σ H locs → lv_has ls 10 [(0, .ref (ad r0)), (3, .int x3), (4, .long z4), (6, .int x6), (7, .int x7), (8, .int x8)] → B59 z4 x8 σ → W p l e R s m args below meth c H locs cells slots QW (F0 m 59 ls [])) (hG : DG A D ac ad s σ H locs) (hl : lv_has ls 10 [(0, .ref (ad r0)), (3, .int x3), (4, .long z4), (6, .int x6), (7, .int x7), (8, .int x8)]) (hf : m_9_mixStreet_59 r0 x3 x6 x7 B50 Q B59 z4 x8 σ) : W p l e R s m args below meth c H locs cells slots QW (F0 m 59 ls []) := by
  have hx := S.1.1
  have hb := S.1.2.1
  unfold m_9_mixStreet_59 at hf
  refine lv_iload hx hb d_9_mixStreet_59 (lv_at hl 5 rfl) ?_
  refine lv_iload hx hb d_9_mixStreet_61 (lv_at hl 3 rfl) ?_
  refine lv_icmp_ge (tgt := 105) hx hb d_9_mixStreet_63 (by decide) (fun hc => ?_) (fun hc => ?_)
  · have hf := hf.1 hc
    obtain ⟨x7_1, ex7_1⟩ : ∃ y : Int32, y = x7 + 1 := ⟨_, rfl⟩
    have hf := hf x7_1 ex7_1
    refine lv_iinc (v := x7_1) (lv' := [(7, .int x7_1), (0, .ref (ad r0)), (3, .int x3), (4, .long z4), (6, .int x6), (8, .int x8)]) hx hb d_9_mixStreet_105 hl (k := 4) rfl (by rw [ex7_1]; rfl) (by decide) rfl (fun ls hl => ?_)
    refine lv_goto (tgt := 50) hx hb d_9_mixStreet_108 (by decide) ?_
    exact hB50 _ _ _ _ _ _  hG (lv_sub hl [1, 2, 3, 4, 0] rfl) hf
  · have hf := hf.2 hc
    refine lv_iconst (v := (0 : Int32)) hx hb d_9_mixStreet_66 (by decide) ?_
    refine lv_istore (lv' := [(9, .int (0 : Int32)), (0, .ref (ad r0)), (3, .int x3), (4, .long z4), (6, .int x6), (7, .int x7), (8, .int x8)]) hx hb d_9_mixStreet_67 hl (by decide) rfl (fun ls hl => ?_)
    exact lp_9_mixStreet_69 S hR hk_r0 hB50 hB59 FU _ _ _ _ _ _  hG (lv_sub hl [1, 2, 3, 4, 5, 6, 0] rfl) hf
set_option maxHeartbeats 4000000 in
set_option maxRecDepth 100000 in
theorem lp_9_mixStreet_59 {r0 : Nat} {x3 : Int32} {x6 : Int32} {x7 : Int32} {B50 : Int64 → Int32 → St → Prop} {Q : Int64 → St → Prop} (S : SC A D ac st p m c prog_1_method_28_code 10 s args "SweeperRounds" R cells slots 3 70) (hR : RtL A D ac ad p l e R s m args below meth c prog_1_method_28_code cells slots QW Q) (hk_r0 : kd r0 = 9) (hB50 : ∀ (z4 : Int64) (x7 : Int32) (σ : St) (H : Heap) (locs : List Loc) (ls : Array Slot), DG A D ac ad s σ H locs → lv_has ls 10 [(0, .ref (ad r0)), (3, .int x3), (4, .long z4), (6, .int x6), (7, .int x7)] → B50 z4 x7 σ → W p l e R s m args below meth c H locs cells slots QW (F0 m 50 ls [])) : ∀ (n : Nat) (z4 : Int64) (x8 : Int32) (σ : St) (H : Heap) (locs : List Loc) (ls : Array Slot), DG A D ac ad s σ H locs → lv_has ls 10 [(0, .ref (ad r0)), (3, .int x3), (4, .long z4), (6, .int x6), (7, .int x7), (8, .int x8)] → itN (m_9_mixStreet_59 r0 x3 x6 x7 B50 Q) (fun _ _ _ => False) n z4 x8 σ → W p l e R s m args below meth c H locs cells slots QW (F0 m 59 ls []) := by
  intro n
  induction n with
  | zero =>
    intro z4 x8 σ H locs ls  hG hl hf
    exact hf.elim
  | succ n ih =>
    intro z4 x8 σ H locs ls  hG hl hf
    exact w_9_mixStreet_59 S hR hk_r0 hB50 ih hG hl hf
set_option maxHeartbeats 4000000 in
set_option maxRecDepth 100000 in
theorem w_9_mixStreet_50 {r0 : Nat} {x3 : Int32} {x6 : Int32} {Q : Int64 → St → Prop} {B50 : Int64 → Int32 → St → Prop} {z4 : Int64} {x7 : Int32} {σ : St} {H : Heap} {locs : List Loc} {ls : Array Slot} (S : SC A D ac st p m c prog_1_method_28_code 10 s args "SweeperRounds" R cells slots 3 70) (hR : RtL A D ac ad p l e R s m args below meth c prog_1_method_28_code cells slots QW Q) (hk_r0 : kd r0 = 9) (hB50 : ∀ (z4 : Int64) (x7 : Int32) (σ : St) (H : Heap) (locs : List Loc) (ls : Array Slot), DG A D ac ad s σ H locs → lv_has ls 10 [(0, .ref (ad r0)), (3, .int x3), (4, .long z4), (6, .int x6), (7, .int x7)] → B50 z4 x7 σ → W p l e R s m args below meth c H locs cells slots QW (F0 m 50 ls [])) (hG : DG A D ac ad s σ H locs) (hl : lv_has ls 10 [(0, .ref (ad r0)), (3, .int x3), (4, .long z4), (6, .int x6), (7, .int x7)]) (hf : m_9_mixStreet_50 r0 x3 x6 Q B50 z4 x7 σ) : W p l e R s m args below meth c H locs cells slots QW (F0 m 50 ls []) := by
  have hx := S.1.1
  have hb := S.1.2.1
  unfold m_9_mixStreet_50 at hf
  refine lv_iload hx hb d_9_mixStreet_50 (lv_at hl 4 rfl) ?_
  refine lv_iconst (v := (2 : Int32)) hx hb d_9_mixStreet_52 (by decide) ?_
  refine lv_icmp_ge (tgt := 111) hx hb d_9_mixStreet_53 (by decide) (fun hc => ?_) (fun hc => ?_)
  · have hf := hf.1 hc
    refine lv_lload hx hb d_9_mixStreet_111 (lv_at hl 2 rfl) ?_
    exact hR _ _ _ _ _ _ hG hf d_9_mixStreet_113
  · have hf := hf.2 hc
    refine lv_iconst (v := (0 : Int32)) hx hb d_9_mixStreet_56 (by decide) ?_
    refine lv_istore (lv' := [(8, .int (0 : Int32)), (0, .ref (ad r0)), (3, .int x3), (4, .long z4), (6, .int x6), (7, .int x7)]) hx hb d_9_mixStreet_57 hl (by decide) rfl (fun ls hl => ?_)
    exact lp_9_mixStreet_59 S hR hk_r0 hB50 FU _ _ _ _ _ _  hG (lv_sub hl [1, 2, 3, 4, 5, 0] rfl) hf
set_option maxHeartbeats 4000000 in
set_option maxRecDepth 100000 in
theorem lp_9_mixStreet_50 {r0 : Nat} {x3 : Int32} {x6 : Int32} {Q : Int64 → St → Prop} (S : SC A D ac st p m c prog_1_method_28_code 10 s args "SweeperRounds" R cells slots 3 70) (hR : RtL A D ac ad p l e R s m args below meth c prog_1_method_28_code cells slots QW Q) (hk_r0 : kd r0 = 9) : ∀ (n : Nat) (z4 : Int64) (x7 : Int32) (σ : St) (H : Heap) (locs : List Loc) (ls : Array Slot), DG A D ac ad s σ H locs → lv_has ls 10 [(0, .ref (ad r0)), (3, .int x3), (4, .long z4), (6, .int x6), (7, .int x7)] → itN (m_9_mixStreet_50 r0 x3 x6 Q) (fun _ _ _ => False) n z4 x7 σ → W p l e R s m args below meth c H locs cells slots QW (F0 m 50 ls []) := by
  intro n
  induction n with
  | zero =>
    intro z4 x7 σ H locs ls  hG hl hf
    exact hf.elim
  | succ n ih =>
    intro z4 x7 σ H locs ls  hG hl hf
    exact w_9_mixStreet_50 S hR hk_r0  ih hG hl hf
set_option maxHeartbeats 4000000 in
set_option maxRecDepth 100000 in
theorem w_9_mixStreet_6 {r0 : Nat} {x3 : Int32} {Q : Int64 → St → Prop} {B6 : Int64 → Int32 → St → Prop} {z4 : Int64} {x6 : Int32} {σ : St} {H : Heap} {locs : List Loc} {ls : Array Slot} (S : SC A D ac st p m c prog_1_method_28_code 10 s args "SweeperRounds" R cells slots 3 70) (hR : RtL A D ac ad p l e R s m args below meth c prog_1_method_28_code cells slots QW Q) (hk_r0 : kd r0 = 9) (hB6 : ∀ (z4 : Int64) (x6 : Int32) (σ : St) (H : Heap) (locs : List Loc) (ls : Array Slot), DG A D ac ad s σ H locs → lv_has ls 10 [(0, .ref (ad r0)), (3, .int x3), (4, .long z4), (6, .int x6)] → B6 z4 x6 σ → W p l e R s m args below meth c H locs cells slots QW (F0 m 6 ls [])) (hG : DG A D ac ad s σ H locs) (hl : lv_has ls 10 [(0, .ref (ad r0)), (3, .int x3), (4, .long z4), (6, .int x6)]) (hf : m_9_mixStreet_6 r0 x3 Q B6 z4 x6 σ) : W p l e R s m args below meth c H locs cells slots QW (F0 m 6 ls []) := by
  have hx := S.1.1
  have hb := S.1.2.1
  unfold m_9_mixStreet_6 at hf
  refine lv_iload hx hb d_9_mixStreet_6 (lv_at hl 3 rfl) ?_
  refine lv_bipush (v := (7 : Int32)) hx hb d_9_mixStreet_8 (by decide) ?_
  refine lv_icmp_gt (tgt := 33) hx hb d_9_mixStreet_10 (by decide) (fun hc => ?_) (fun hc => ?_)
  · have hf := hf.1 hc
    refine lv_aload_n hx hb d_9_mixStreet_33 rfl (lv_at hl 0 rfl) ?_
    refine gf_9_26 S hG hk_r0 d_9_mixStreet_34 ?_
    refine gf_9_122 S hG (kr_9_2 hk_r0) d_9_mixStreet_37 ?_
    refine lv_iload_n hx hb d_9_mixStreet_40 rfl (lv_at hl 1 rfl) ?_
    refine mq3 S hG (kr_8_0 (kr_9_2 hk_r0)) hf.1 d_9_mixStreet_41 ?_
    have hi_1 := vin_lt hf.1
    have hf := hf.2
    refine gf_9_91 S hG (ke_23 (kr_8_0 (kr_9_2 hk_r0)) hi_1) d_9_mixStreet_42 ?_
    refine lv_topi (fun x6_2 ex6_2 => ?_)
    have hf := hf x6_2 ex6_2
    refine lv_istore (lv' := [(6, .int x6_2), (0, .ref (ad r0)), (3, .int x3), (4, .long z4)]) hx hb d_9_mixStreet_45 hl (by decide) rfl (fun ls hl => ?_)
    refine lv_iconst (v := (0 : Int32)) hx hb d_9_mixStreet_47 (by decide) ?_
    refine lv_istore (lv' := [(7, .int (0 : Int32)), (6, .int x6_2), (0, .ref (ad r0)), (3, .int x3), (4, .long z4)]) hx hb d_9_mixStreet_48 hl (by decide) rfl (fun ls hl => ?_)
    exact lp_9_mixStreet_50 S hR hk_r0  FU _ _ _ _ _ _  hG (lv_sub hl [2, 3, 4, 1, 0] rfl) hf
  · have hf := hf.2 hc
    refine lv_lload hx hb d_9_mixStreet_13 (lv_at hl 2 rfl) ?_
    refine lv_aload_n hx hb d_9_mixStreet_15 rfl (lv_at hl 0 rfl) ?_
    refine lv_iload_n hx hb d_9_mixStreet_16 rfl (lv_at hl 1 rfl) ?_
    refine lv_iload hx hb d_9_mixStreet_17 (lv_at hl 3 rfl) ?_
    refine iv_9_309 S hl.1 hG hk_r0 (c_9_street l hk_r0 hf) ⟨Nat.le_of_ble_eq_true rfl, Nat.le_of_ble_eq_true rfl⟩ (Nat.le_of_ble_eq_true rfl) d_9_mixStreet_19 (fun v_4 σ_3 hf H locs hG => ?_)
    refine iv_9_288 S hl.1 hG  (c_9_mix l  hf) ⟨Nat.le_of_ble_eq_true rfl, Nat.le_of_ble_eq_true rfl⟩ (Nat.le_of_ble_eq_true rfl) d_9_mixStreet_22 (fun v_6 σ_5 hf H locs hG => ?_)
    refine lv_lstore (lv' := [(4, .long v_6), (0, .ref (ad r0)), (3, .int x3), (6, .int x6)]) hx hb d_9_mixStreet_25 hl (by decide) rfl (fun ls hl => ?_)
    obtain ⟨x6_7, ex6_7⟩ : ∃ y : Int32, y = x6 + 1 := ⟨_, rfl⟩
    have hf := hf x6_7 ex6_7
    refine lv_iinc (v := x6_7) (lv' := [(6, .int x6_7), (4, .long v_6), (0, .ref (ad r0)), (3, .int x3)]) hx hb d_9_mixStreet_27 hl (k := 3) rfl (by rw [ex6_7]; rfl) (by decide) rfl (fun ls hl => ?_)
    refine lv_goto (tgt := 6) hx hb d_9_mixStreet_30 (by decide) ?_
    exact hB6 _ _ _ _ _ _  hG (lv_sub hl [2, 3, 1, 0] rfl) hf
set_option maxHeartbeats 4000000 in
set_option maxRecDepth 100000 in
theorem lp_9_mixStreet_6 {r0 : Nat} {x3 : Int32} {Q : Int64 → St → Prop} (S : SC A D ac st p m c prog_1_method_28_code 10 s args "SweeperRounds" R cells slots 3 70) (hR : RtL A D ac ad p l e R s m args below meth c prog_1_method_28_code cells slots QW Q) (hk_r0 : kd r0 = 9) : ∀ (n : Nat) (z4 : Int64) (x6 : Int32) (σ : St) (H : Heap) (locs : List Loc) (ls : Array Slot), DG A D ac ad s σ H locs → lv_has ls 10 [(0, .ref (ad r0)), (3, .int x3), (4, .long z4), (6, .int x6)] → itN (m_9_mixStreet_6 r0 x3 Q) (fun _ _ _ => False) n z4 x6 σ → W p l e R s m args below meth c H locs cells slots QW (F0 m 6 ls []) := by
  intro n
  induction n with
  | zero =>
    intro z4 x6 σ H locs ls  hG hl hf
    exact hf.elim
  | succ n ih =>
    intro z4 x6 σ H locs ls  hG hl hf
    exact w_9_mixStreet_6 S hR hk_r0  ih hG hl hf
set_option maxHeartbeats 4000000 in
set_option maxRecDepth 100000 in
theorem w_9_mixStreet_0 {r0 : Nat} {z1 : Int64} {x3 : Int32} {Q : Int64 → St → Prop} {σ : St} {H : Heap} {locs : List Loc} {ls : Array Slot} (S : SC A D ac st p m c prog_1_method_28_code 10 s args "SweeperRounds" R cells slots 3 70) (hR : RtL A D ac ad p l e R s m args below meth c prog_1_method_28_code cells slots QW Q) (hk_r0 : kd r0 = 9) (hG : DG A D ac ad s σ H locs) (hl : lv_has ls 10 [(0, .ref (ad r0)), (1, .long z1), (3, .int x3)]) (hf : m_9_mixStreet r0 z1 x3 Q σ) : W p l e R s m args below meth c H locs cells slots QW (F0 m 0 ls []) := by
  have hx := S.1.1
  have hb := S.1.2.1
  unfold m_9_mixStreet at hf
  refine lv_lload_n hx hb d_9_mixStreet_0 rfl (lv_at hl 1 rfl) ?_
  refine lv_lstore (lv' := [(4, .long z1), (0, .ref (ad r0)), (1, .long z1), (3, .int x3)]) hx hb d_9_mixStreet_1 hl (by decide) rfl (fun ls hl => ?_)
  refine lv_iconst (v := (0 : Int32)) hx hb d_9_mixStreet_3 (by decide) ?_
  refine lv_istore (lv' := [(6, .int (0 : Int32)), (4, .long z1), (0, .ref (ad r0)), (1, .long z1), (3, .int x3)]) hx hb d_9_mixStreet_4 hl (by decide) rfl (fun ls hl => ?_)
  exact lp_9_mixStreet_6 S hR hk_r0  FU _ _ _ _ _ _  hG (lv_sub hl [2, 4, 1, 0] rfl) hf
theorem c_9_mixStreet (l : Launch) {D : va_G} {ac : Nat → ClassId} {ad st : Nat → Nat} {A : Nat → Prop} {σ : St} {r0 : Nat} {z1 : Int64} {x3 : Int32} {Q : Int64 → St → Prop} (hk_r0 : kd r0 = 9) (hf : m_9_mixStreet r0 z1 x3 Q σ) : Met l y_9_mixStreet (Cond.code y_9_mixStreet prog_1_method_28_code 10 (some .long) :: wA) { frames := 3, cells := 0, slots := 0, locals := 70 } (va_Pc [.ref (ad r0), .long z1, .int x3] (GSt A D ac ad st σ)) (va_Ql Q (GSt A D ac ad st) A) 0 0 A :=
  mkL l (by decide +kernel) rfl [.ref (ad r0), .long z1, .int x3] (Nat.le_of_ble_eq_true rfl) (fun p e s m args below meth c ls QW S hR hG hl => w_9_mixStreet_0 S hR hk_r0 hG hl hf)
set_option maxHeartbeats 4000000 in
set_option maxRecDepth 100000 in
theorem w_9_digest_149 {r0 : Nat} {Q : Int64 → St → Prop} {B149 : Int64 → Int32 → St → Prop} {z1 : Int64} {x3 : Int32} {σ : St} {H : Heap} {locs : List Loc} {ls : Array Slot} (S : SC A D ac st p m c prog_1_method_27_code 5 s args "SweeperRounds" R cells slots 6 147) (hR : RtL A D ac ad p l e R s m args below meth c prog_1_method_27_code cells slots QW Q) (hk_r0 : kd r0 = 9) (hB149 : ∀ (z1 : Int64) (x3 : Int32) (σ : St) (H : Heap) (locs : List Loc) (ls : Array Slot), DG A D ac ad s σ H locs → lv_has ls 5 [(0, .ref (ad r0)), (1, .long z1), (3, .int x3)] → B149 z1 x3 σ → W p l e R s m args below meth c H locs cells slots QW (F0 m 149 ls [])) (hG : DG A D ac ad s σ H locs) (hl : lv_has ls 5 [(0, .ref (ad r0)), (1, .long z1), (3, .int x3)]) (hf : m_9_digest_149 r0 Q B149 z1 x3 σ) : W p l e R s m args below meth c H locs cells slots QW (F0 m 149 ls []) := by
  have hx := S.1.1
  have hb := S.1.2.1
  unfold m_9_digest_149 at hf
  refine lv_iload_n hx hb d_9_digest_149 rfl (lv_at hl 2 rfl) ?_
  refine lv_iconst (v := (4 : Int32)) hx hb d_9_digest_150 (by decide) ?_
  refine lv_icmp_gt (tgt := 170) hx hb d_9_digest_151 (by decide) (fun hc => ?_) (fun hc => ?_)
  · have hf := hf.1 hc
    refine lv_lload_n hx hb d_9_digest_170 rfl (lv_at hl 1 rfl) ?_
    refine lv_aload_n hx hb d_9_digest_171 rfl (lv_at hl 0 rfl) ?_
    refine iv_9_306 S hl.1 hG hk_r0 (c_9_bestSpeed l hk_r0 hf) ⟨Nat.le_of_ble_eq_true rfl, Nat.le_of_ble_eq_true rfl⟩ (Nat.le_of_ble_eq_true rfl) d_9_digest_172 (fun v_2 σ_1 hf H locs hG => ?_)
    refine iv_9_288 S hl.1 hG  (c_9_mix l  hf) ⟨Nat.le_of_ble_eq_true rfl, Nat.le_of_ble_eq_true rfl⟩ (Nat.le_of_ble_eq_true rfl) d_9_digest_175 (fun v_4 σ_3 hf H locs hG => ?_)
    exact hR _ _ _ _ _ _ hG hf d_9_digest_178
  · have hf := hf.2 hc
    refine lv_lload_n hx hb d_9_digest_154 rfl (lv_at hl 1 rfl) ?_
    refine lv_aload_n hx hb d_9_digest_155 rfl (lv_at hl 0 rfl) ?_
    refine lv_iload_n hx hb d_9_digest_156 rfl (lv_at hl 2 rfl) ?_
    refine iv_9_303 S hl.1 hG hk_r0 (c_9_ifSpeed l hk_r0 hf) ⟨Nat.le_of_ble_eq_true rfl, Nat.le_of_ble_eq_true rfl⟩ (Nat.le_of_ble_eq_true rfl) d_9_digest_157 (fun v_6 σ_5 hf H locs hG => ?_)
    refine iv_9_288 S hl.1 hG  (c_9_mix l  hf) ⟨Nat.le_of_ble_eq_true rfl, Nat.le_of_ble_eq_true rfl⟩ (Nat.le_of_ble_eq_true rfl) d_9_digest_160 (fun v_8 σ_7 hf H locs hG => ?_)
    refine lv_lstore_n (lv' := [(1, .long v_8), (0, .ref (ad r0)), (3, .int x3)]) hx hb d_9_digest_163 rfl hl (by decide) rfl (fun ls hl => ?_)
    obtain ⟨x3_9, ex3_9⟩ : ∃ y : Int32, y = x3 + 1 := ⟨_, rfl⟩
    have hf := hf x3_9 ex3_9
    refine lv_iinc (v := x3_9) (lv' := [(3, .int x3_9), (1, .long v_8), (0, .ref (ad r0))]) hx hb d_9_digest_164 hl (k := 2) rfl (by rw [ex3_9]; rfl) (by decide) rfl (fun ls hl => ?_)
    refine lv_goto (tgt := 149) hx hb d_9_digest_167 (by decide) ?_
    exact hB149 _ _ _ _ _ _  hG (lv_sub hl [2, 1, 0] rfl) hf
set_option maxHeartbeats 4000000 in
set_option maxRecDepth 100000 in
theorem lp_9_digest_149 {r0 : Nat} {Q : Int64 → St → Prop} (S : SC A D ac st p m c prog_1_method_27_code 5 s args "SweeperRounds" R cells slots 6 147) (hR : RtL A D ac ad p l e R s m args below meth c prog_1_method_27_code cells slots QW Q) (hk_r0 : kd r0 = 9) : ∀ (n : Nat) (z1 : Int64) (x3 : Int32) (σ : St) (H : Heap) (locs : List Loc) (ls : Array Slot), DG A D ac ad s σ H locs → lv_has ls 5 [(0, .ref (ad r0)), (1, .long z1), (3, .int x3)] → itN (m_9_digest_149 r0 Q) (fun _ _ _ => False) n z1 x3 σ → W p l e R s m args below meth c H locs cells slots QW (F0 m 149 ls []) := by
  intro n
  induction n with
  | zero =>
    intro z1 x3 σ H locs ls  hG hl hf
    exact hf.elim
  | succ n ih =>
    intro z1 x3 σ H locs ls  hG hl hf
    exact w_9_digest_149 S hR hk_r0  ih hG hl hf
set_option maxHeartbeats 4000000 in
set_option maxRecDepth 100000 in
theorem w_9_digest_125 {r0 : Nat} {Q : Int64 → St → Prop} {B125 : Int64 → Int32 → St → Prop} {z1 : Int64} {x3 : Int32} {σ : St} {H : Heap} {locs : List Loc} {ls : Array Slot} (S : SC A D ac st p m c prog_1_method_27_code 5 s args "SweeperRounds" R cells slots 6 147) (hR : RtL A D ac ad p l e R s m args below meth c prog_1_method_27_code cells slots QW Q) (hk_r0 : kd r0 = 9) (hB125 : ∀ (z1 : Int64) (x3 : Int32) (σ : St) (H : Heap) (locs : List Loc) (ls : Array Slot), DG A D ac ad s σ H locs → lv_has ls 5 [(0, .ref (ad r0)), (1, .long z1), (3, .int x3)] → B125 z1 x3 σ → W p l e R s m args below meth c H locs cells slots QW (F0 m 125 ls [])) (hG : DG A D ac ad s σ H locs) (hl : lv_has ls 5 [(0, .ref (ad r0)), (1, .long z1), (3, .int x3)]) (hf : m_9_digest_125 r0 Q B125 z1 x3 σ) : W p l e R s m args below meth c H locs cells slots QW (F0 m 125 ls []) := by
  have hx := S.1.1
  have hb := S.1.2.1
  unfold m_9_digest_125 at hf
  refine lv_iload_n hx hb d_9_digest_125 rfl (lv_at hl 2 rfl) ?_
  refine lv_bipush (v := (6 : Int32)) hx hb d_9_digest_126 (by decide) ?_
  refine lv_icmp_gt (tgt := 147) hx hb d_9_digest_128 (by decide) (fun hc => ?_) (fun hc => ?_)
  · have hf := hf.1 hc
    refine lv_iconst (v := (1 : Int32)) hx hb d_9_digest_147 (by decide) ?_
    refine lv_istore_n (lv' := [(3, .int (1 : Int32)), (0, .ref (ad r0)), (1, .long z1)]) hx hb d_9_digest_148 rfl hl (by decide) rfl (fun ls hl => ?_)
    exact lp_9_digest_149 S hR hk_r0  FU _ _ _ _ _ _  hG (lv_sub hl [1, 2, 0] rfl) hf
  · have hf := hf.2 hc
    refine lv_lload_n hx hb d_9_digest_131 rfl (lv_at hl 1 rfl) ?_
    refine lv_aload_n hx hb d_9_digest_132 rfl (lv_at hl 0 rfl) ?_
    refine lv_iload_n hx hb d_9_digest_133 rfl (lv_at hl 2 rfl) ?_
    refine iv_9_300 S hl.1 hG hk_r0 (c_9_account l hk_r0 hf) ⟨Nat.le_of_ble_eq_true rfl, Nat.le_of_ble_eq_true rfl⟩ (Nat.le_of_ble_eq_true rfl) d_9_digest_134 (fun v_2 σ_1 hf H locs hG => ?_)
    refine iv_9_288 S hl.1 hG  (c_9_mix l  hf) ⟨Nat.le_of_ble_eq_true rfl, Nat.le_of_ble_eq_true rfl⟩ (Nat.le_of_ble_eq_true rfl) d_9_digest_137 (fun v_4 σ_3 hf H locs hG => ?_)
    refine lv_lstore_n (lv' := [(1, .long v_4), (0, .ref (ad r0)), (3, .int x3)]) hx hb d_9_digest_140 rfl hl (by decide) rfl (fun ls hl => ?_)
    obtain ⟨x3_5, ex3_5⟩ : ∃ y : Int32, y = x3 + 1 := ⟨_, rfl⟩
    have hf := hf x3_5 ex3_5
    refine lv_iinc (v := x3_5) (lv' := [(3, .int x3_5), (1, .long v_4), (0, .ref (ad r0))]) hx hb d_9_digest_141 hl (k := 2) rfl (by rw [ex3_5]; rfl) (by decide) rfl (fun ls hl => ?_)
    refine lv_goto (tgt := 125) hx hb d_9_digest_144 (by decide) ?_
    exact hB125 _ _ _ _ _ _  hG (lv_sub hl [2, 1, 0] rfl) hf
set_option maxHeartbeats 4000000 in
set_option maxRecDepth 100000 in
theorem lp_9_digest_125 {r0 : Nat} {Q : Int64 → St → Prop} (S : SC A D ac st p m c prog_1_method_27_code 5 s args "SweeperRounds" R cells slots 6 147) (hR : RtL A D ac ad p l e R s m args below meth c prog_1_method_27_code cells slots QW Q) (hk_r0 : kd r0 = 9) : ∀ (n : Nat) (z1 : Int64) (x3 : Int32) (σ : St) (H : Heap) (locs : List Loc) (ls : Array Slot), DG A D ac ad s σ H locs → lv_has ls 5 [(0, .ref (ad r0)), (1, .long z1), (3, .int x3)] → itN (m_9_digest_125 r0 Q) (fun _ _ _ => False) n z1 x3 σ → W p l e R s m args below meth c H locs cells slots QW (F0 m 125 ls []) := by
  intro n
  induction n with
  | zero =>
    intro z1 x3 σ H locs ls  hG hl hf
    exact hf.elim
  | succ n ih =>
    intro z1 x3 σ H locs ls  hG hl hf
    exact w_9_digest_125 S hR hk_r0  ih hG hl hf
set_option maxHeartbeats 4000000 in
set_option maxRecDepth 100000 in
theorem w_9_digest_102 {r0 : Nat} {Q : Int64 → St → Prop} {B102 : Int64 → Int32 → St → Prop} {z1 : Int64} {x3 : Int32} {σ : St} {H : Heap} {locs : List Loc} {ls : Array Slot} (S : SC A D ac st p m c prog_1_method_27_code 5 s args "SweeperRounds" R cells slots 6 147) (hR : RtL A D ac ad p l e R s m args below meth c prog_1_method_27_code cells slots QW Q) (hk_r0 : kd r0 = 9) (hB102 : ∀ (z1 : Int64) (x3 : Int32) (σ : St) (H : Heap) (locs : List Loc) (ls : Array Slot), DG A D ac ad s σ H locs → lv_has ls 5 [(0, .ref (ad r0)), (1, .long z1), (3, .int x3)] → B102 z1 x3 σ → W p l e R s m args below meth c H locs cells slots QW (F0 m 102 ls [])) (hG : DG A D ac ad s σ H locs) (hl : lv_has ls 5 [(0, .ref (ad r0)), (1, .long z1), (3, .int x3)]) (hf : m_9_digest_102 r0 Q B102 z1 x3 σ) : W p l e R s m args below meth c H locs cells slots QW (F0 m 102 ls []) := by
  have hx := S.1.1
  have hb := S.1.2.1
  unfold m_9_digest_102 at hf
  refine lv_iload_n hx hb d_9_digest_102 rfl (lv_at hl 2 rfl) ?_
  refine lv_iconst (v := (5 : Int32)) hx hb d_9_digest_103 (by decide) ?_
  refine lv_icmp_gt (tgt := 123) hx hb d_9_digest_104 (by decide) (fun hc => ?_) (fun hc => ?_)
  · have hf := hf.1 hc
    refine lv_iconst (v := (0 : Int32)) hx hb d_9_digest_123 (by decide) ?_
    refine lv_istore_n (lv' := [(3, .int (0 : Int32)), (0, .ref (ad r0)), (1, .long z1)]) hx hb d_9_digest_124 rfl hl (by decide) rfl (fun ls hl => ?_)
    exact lp_9_digest_125 S hR hk_r0  FU _ _ _ _ _ _  hG (lv_sub hl [1, 2, 0] rfl) hf
  · have hf := hf.2 hc
    refine lv_lload_n hx hb d_9_digest_107 rfl (lv_at hl 1 rfl) ?_
    refine lv_aload_n hx hb d_9_digest_108 rfl (lv_at hl 0 rfl) ?_
    refine lv_iload_n hx hb d_9_digest_109 rfl (lv_at hl 2 rfl) ?_
    refine iv_9_297 S hl.1 hG hk_r0 (c_9_latest l hk_r0 hf) ⟨Nat.le_of_ble_eq_true rfl, Nat.le_of_ble_eq_true rfl⟩ (Nat.le_of_ble_eq_true rfl) d_9_digest_110 (fun v_2 σ_1 hf H locs hG => ?_)
    refine iv_9_288 S hl.1 hG  (c_9_mix l  hf) ⟨Nat.le_of_ble_eq_true rfl, Nat.le_of_ble_eq_true rfl⟩ (Nat.le_of_ble_eq_true rfl) d_9_digest_113 (fun v_4 σ_3 hf H locs hG => ?_)
    refine lv_lstore_n (lv' := [(1, .long v_4), (0, .ref (ad r0)), (3, .int x3)]) hx hb d_9_digest_116 rfl hl (by decide) rfl (fun ls hl => ?_)
    obtain ⟨x3_5, ex3_5⟩ : ∃ y : Int32, y = x3 + 1 := ⟨_, rfl⟩
    have hf := hf x3_5 ex3_5
    refine lv_iinc (v := x3_5) (lv' := [(3, .int x3_5), (1, .long v_4), (0, .ref (ad r0))]) hx hb d_9_digest_117 hl (k := 2) rfl (by rw [ex3_5]; rfl) (by decide) rfl (fun ls hl => ?_)
    refine lv_goto (tgt := 102) hx hb d_9_digest_120 (by decide) ?_
    exact hB102 _ _ _ _ _ _  hG (lv_sub hl [2, 1, 0] rfl) hf
set_option maxHeartbeats 4000000 in
set_option maxRecDepth 100000 in
theorem lp_9_digest_102 {r0 : Nat} {Q : Int64 → St → Prop} (S : SC A D ac st p m c prog_1_method_27_code 5 s args "SweeperRounds" R cells slots 6 147) (hR : RtL A D ac ad p l e R s m args below meth c prog_1_method_27_code cells slots QW Q) (hk_r0 : kd r0 = 9) : ∀ (n : Nat) (z1 : Int64) (x3 : Int32) (σ : St) (H : Heap) (locs : List Loc) (ls : Array Slot), DG A D ac ad s σ H locs → lv_has ls 5 [(0, .ref (ad r0)), (1, .long z1), (3, .int x3)] → itN (m_9_digest_102 r0 Q) (fun _ _ _ => False) n z1 x3 σ → W p l e R s m args below meth c H locs cells slots QW (F0 m 102 ls []) := by
  intro n
  induction n with
  | zero =>
    intro z1 x3 σ H locs ls  hG hl hf
    exact hf.elim
  | succ n ih =>
    intro z1 x3 σ H locs ls  hG hl hf
    exact w_9_digest_102 S hR hk_r0  ih hG hl hf
set_option maxHeartbeats 4000000 in
set_option maxRecDepth 100000 in
theorem w_9_digest_70 {r0 : Nat} {x3 : Int32} {B56 : Int64 → Int32 → St → Prop} {Q : Int64 → St → Prop} {B70 : Int64 → Int32 → St → Prop} {z1 : Int64} {x4 : Int32} {σ : St} {H : Heap} {locs : List Loc} {ls : Array Slot} (S : SC A D ac st p m c prog_1_method_27_code 5 s args "SweeperRounds" R cells slots 6 147) (hR : RtL A D ac ad p l e R s m args below meth c prog_1_method_27_code cells slots QW Q) (hk_r0 : kd r0 = 9) (hB56 : ∀ (z1 : Int64) (x3 : Int32) (σ : St) (H : Heap) (locs : List Loc) (ls : Array Slot), DG A D ac ad s σ H locs → lv_has ls 5 [(0, .ref (ad r0)), (1, .long z1), (3, .int x3)] → B56 z1 x3 σ → W p l e R s m args below meth c H locs cells slots QW (F0 m 56 ls [])) (hB70 : ∀ (z1 : Int64) (x4 : Int32) (σ : St) (H : Heap) (locs : List Loc) (ls : Array Slot), DG A D ac ad s σ H locs → lv_has ls 5 [(0, .ref (ad r0)), (1, .long z1), (3, .int x3), (4, .int x4)] → B70 z1 x4 σ → W p l e R s m args below meth c H locs cells slots QW (F0 m 70 ls [])) (hG : DG A D ac ad s σ H locs) (hl : lv_has ls 5 [(0, .ref (ad r0)), (1, .long z1), (3, .int x3), (4, .int x4)]) (hf : m_9_digest_70 r0 x3 B56 Q B70 z1 x4 σ) : W p l e R s m args below meth c H locs cells slots QW (F0 m 70 ls []) := by
  have hx := S.1.1
  have hb := S.1.2.1
  unfold m_9_digest_70 at hf
  refine lv_iload hx hb d_9_digest_70 (lv_at hl 3 rfl) ?_
  refine lv_iconst (v := (3 : Int32)) hx hb d_9_digest_72 (by decide) ?_
  refine lv_icmp_gt (tgt := 94) hx hb d_9_digest_73 (by decide) (fun hc => ?_) (fun hc => ?_)
  · have hf := hf.1 hc
    obtain ⟨x3_1, ex3_1⟩ : ∃ y : Int32, y = x3 + 1 := ⟨_, rfl⟩
    have hf := hf x3_1 ex3_1
    refine lv_iinc (v := x3_1) (lv' := [(3, .int x3_1), (0, .ref (ad r0)), (1, .long z1), (4, .int x4)]) hx hb d_9_digest_94 hl (k := 2) rfl (by rw [ex3_1]; rfl) (by decide) rfl (fun ls hl => ?_)
    refine lv_goto (tgt := 56) hx hb d_9_digest_97 (by decide) ?_
    exact hB56 _ _ _ _ _ _  hG (lv_sub hl [1, 2, 0] rfl) hf
  · have hf := hf.2 hc
    refine lv_lload_n hx hb d_9_digest_76 rfl (lv_at hl 1 rfl) ?_
    refine lv_aload_n hx hb d_9_digest_77 rfl (lv_at hl 0 rfl) ?_
    refine lv_iload_n hx hb d_9_digest_78 rfl (lv_at hl 2 rfl) ?_
    refine lv_iload hx hb d_9_digest_79 (lv_at hl 3 rfl) ?_
    refine iv_9_295 S hl.1 hG hk_r0 (c_9_leg l hk_r0 hf) ⟨Nat.le_of_ble_eq_true rfl, Nat.le_of_ble_eq_true rfl⟩ (Nat.le_of_ble_eq_true rfl) d_9_digest_81 (fun v_3 σ_2 hf H locs hG => ?_)
    refine iv_9_288 S hl.1 hG  (c_9_mix l  hf) ⟨Nat.le_of_ble_eq_true rfl, Nat.le_of_ble_eq_true rfl⟩ (Nat.le_of_ble_eq_true rfl) d_9_digest_84 (fun v_5 σ_4 hf H locs hG => ?_)
    refine lv_lstore_n (lv' := [(1, .long v_5), (0, .ref (ad r0)), (3, .int x3), (4, .int x4)]) hx hb d_9_digest_87 rfl hl (by decide) rfl (fun ls hl => ?_)
    obtain ⟨x4_6, ex4_6⟩ : ∃ y : Int32, y = x4 + 1 := ⟨_, rfl⟩
    have hf := hf x4_6 ex4_6
    refine lv_iinc (v := x4_6) (lv' := [(4, .int x4_6), (1, .long v_5), (0, .ref (ad r0)), (3, .int x3)]) hx hb d_9_digest_88 hl (k := 3) rfl (by rw [ex4_6]; rfl) (by decide) rfl (fun ls hl => ?_)
    refine lv_goto (tgt := 70) hx hb d_9_digest_91 (by decide) ?_
    exact hB70 _ _ _ _ _ _  hG (lv_sub hl [2, 1, 3, 0] rfl) hf
set_option maxHeartbeats 4000000 in
set_option maxRecDepth 100000 in
theorem lp_9_digest_70 {r0 : Nat} {x3 : Int32} {B56 : Int64 → Int32 → St → Prop} {Q : Int64 → St → Prop} (S : SC A D ac st p m c prog_1_method_27_code 5 s args "SweeperRounds" R cells slots 6 147) (hR : RtL A D ac ad p l e R s m args below meth c prog_1_method_27_code cells slots QW Q) (hk_r0 : kd r0 = 9) (hB56 : ∀ (z1 : Int64) (x3 : Int32) (σ : St) (H : Heap) (locs : List Loc) (ls : Array Slot), DG A D ac ad s σ H locs → lv_has ls 5 [(0, .ref (ad r0)), (1, .long z1), (3, .int x3)] → B56 z1 x3 σ → W p l e R s m args below meth c H locs cells slots QW (F0 m 56 ls [])) : ∀ (n : Nat) (z1 : Int64) (x4 : Int32) (σ : St) (H : Heap) (locs : List Loc) (ls : Array Slot), DG A D ac ad s σ H locs → lv_has ls 5 [(0, .ref (ad r0)), (1, .long z1), (3, .int x3), (4, .int x4)] → itN (m_9_digest_70 r0 x3 B56 Q) (fun _ _ _ => False) n z1 x4 σ → W p l e R s m args below meth c H locs cells slots QW (F0 m 70 ls []) := by
  intro n
  induction n with
  | zero =>
    intro z1 x4 σ H locs ls  hG hl hf
    exact hf.elim
  | succ n ih =>
    intro z1 x4 σ H locs ls  hG hl hf
    exact w_9_digest_70 S hR hk_r0 hB56 ih hG hl hf
set_option maxHeartbeats 4000000 in
set_option maxRecDepth 100000 in
theorem w_9_digest_56 {r0 : Nat} {Q : Int64 → St → Prop} {B56 : Int64 → Int32 → St → Prop} {z1 : Int64} {x3 : Int32} {σ : St} {H : Heap} {locs : List Loc} {ls : Array Slot} (S : SC A D ac st p m c prog_1_method_27_code 5 s args "SweeperRounds" R cells slots 6 147) (hR : RtL A D ac ad p l e R s m args below meth c prog_1_method_27_code cells slots QW Q) (hk_r0 : kd r0 = 9) (hB56 : ∀ (z1 : Int64) (x3 : Int32) (σ : St) (H : Heap) (locs : List Loc) (ls : Array Slot), DG A D ac ad s σ H locs → lv_has ls 5 [(0, .ref (ad r0)), (1, .long z1), (3, .int x3)] → B56 z1 x3 σ → W p l e R s m args below meth c H locs cells slots QW (F0 m 56 ls [])) (hG : DG A D ac ad s σ H locs) (hl : lv_has ls 5 [(0, .ref (ad r0)), (1, .long z1), (3, .int x3)]) (hf : m_9_digest_56 r0 Q B56 z1 x3 σ) : W p l e R s m args below meth c H locs cells slots QW (F0 m 56 ls []) := by
  have hx := S.1.1
  have hb := S.1.2.1
  unfold m_9_digest_56 at hf
  refine lv_iload_n hx hb d_9_digest_56 rfl (lv_at hl 2 rfl) ?_
  refine lv_aload_n hx hb d_9_digest_57 rfl (lv_at hl 0 rfl) ?_
  refine gf_9_26 S hG hk_r0 d_9_digest_58 ?_
  refine gf_9_108 S hG (kr_9_2 hk_r0) d_9_digest_61 ?_
  refine lv_icmp_ge (tgt := 100) hx hb d_9_digest_64 (by decide) (fun hc => ?_) (fun hc => ?_)
  · have hf := hf.1 hc
    refine lv_iconst (v := (0 : Int32)) hx hb d_9_digest_100 (by decide) ?_
    refine lv_istore_n (lv' := [(3, .int (0 : Int32)), (0, .ref (ad r0)), (1, .long z1)]) hx hb d_9_digest_101 rfl hl (by decide) rfl (fun ls hl => ?_)
    exact lp_9_digest_102 S hR hk_r0  FU _ _ _ _ _ _  hG (lv_sub hl [1, 2, 0] rfl) hf
  · have hf := hf.2 hc
    refine lv_iconst (v := (0 : Int32)) hx hb d_9_digest_67 (by decide) ?_
    refine lv_istore (lv' := [(4, .int (0 : Int32)), (0, .ref (ad r0)), (1, .long z1), (3, .int x3)]) hx hb d_9_digest_68 hl (by decide) rfl (fun ls hl => ?_)
    exact lp_9_digest_70 S hR hk_r0 hB56 FU _ _ _ _ _ _  hG (lv_sub hl [1, 2, 3, 0] rfl) hf
set_option maxHeartbeats 4000000 in
set_option maxRecDepth 100000 in
theorem lp_9_digest_56 {r0 : Nat} {Q : Int64 → St → Prop} (S : SC A D ac st p m c prog_1_method_27_code 5 s args "SweeperRounds" R cells slots 6 147) (hR : RtL A D ac ad p l e R s m args below meth c prog_1_method_27_code cells slots QW Q) (hk_r0 : kd r0 = 9) : ∀ (n : Nat) (z1 : Int64) (x3 : Int32) (σ : St) (H : Heap) (locs : List Loc) (ls : Array Slot), DG A D ac ad s σ H locs → lv_has ls 5 [(0, .ref (ad r0)), (1, .long z1), (3, .int x3)] → itN (m_9_digest_56 r0 Q) (fun _ _ _ => False) n z1 x3 σ → W p l e R s m args below meth c H locs cells slots QW (F0 m 56 ls []) := by
  intro n
  induction n with
  | zero =>
    intro z1 x3 σ H locs ls  hG hl hf
    exact hf.elim
  | succ n ih =>
    intro z1 x3 σ H locs ls  hG hl hf
    exact w_9_digest_56 S hR hk_r0  ih hG hl hf
set_option maxHeartbeats 4000000 in
set_option maxRecDepth 100000 in
theorem w_9_digest_30 {r0 : Nat} {Q : Int64 → St → Prop} {B30 : Int64 → Int32 → St → Prop} {z1 : Int64} {x3 : Int32} {σ : St} {H : Heap} {locs : List Loc} {ls : Array Slot} (S : SC A D ac st p m c prog_1_method_27_code 5 s args "SweeperRounds" R cells slots 6 147) (hR : RtL A D ac ad p l e R s m args below meth c prog_1_method_27_code cells slots QW Q) (hk_r0 : kd r0 = 9) (hB30 : ∀ (z1 : Int64) (x3 : Int32) (σ : St) (H : Heap) (locs : List Loc) (ls : Array Slot), DG A D ac ad s σ H locs → lv_has ls 5 [(0, .ref (ad r0)), (1, .long z1), (3, .int x3)] → B30 z1 x3 σ → W p l e R s m args below meth c H locs cells slots QW (F0 m 30 ls [])) (hG : DG A D ac ad s σ H locs) (hl : lv_has ls 5 [(0, .ref (ad r0)), (1, .long z1), (3, .int x3)]) (hf : m_9_digest_30 r0 Q B30 z1 x3 σ) : W p l e R s m args below meth c H locs cells slots QW (F0 m 30 ls []) := by
  have hx := S.1.1
  have hb := S.1.2.1
  unfold m_9_digest_30 at hf
  refine lv_iload_n hx hb d_9_digest_30 rfl (lv_at hl 2 rfl) ?_
  refine lv_aload_n hx hb d_9_digest_31 rfl (lv_at hl 0 rfl) ?_
  refine gf_9_26 S hG hk_r0 d_9_digest_32 ?_
  refine gf_9_70 S hG (kr_9_2 hk_r0) d_9_digest_35 ?_
  refine lv_icmp_ge (tgt := 54) hx hb d_9_digest_38 (by decide) (fun hc => ?_) (fun hc => ?_)
  · have hf := hf.1 hc
    refine lv_iconst (v := (0 : Int32)) hx hb d_9_digest_54 (by decide) ?_
    refine lv_istore_n (lv' := [(3, .int (0 : Int32)), (0, .ref (ad r0)), (1, .long z1)]) hx hb d_9_digest_55 rfl hl (by decide) rfl (fun ls hl => ?_)
    exact lp_9_digest_56 S hR hk_r0  FU _ _ _ _ _ _  hG (lv_sub hl [1, 2, 0] rfl) hf
  · have hf := hf.2 hc
    refine lv_aload_n hx hb d_9_digest_41 rfl (lv_at hl 0 rfl) ?_
    refine lv_lload_n hx hb d_9_digest_42 rfl (lv_at hl 1 rfl) ?_
    refine lv_iload_n hx hb d_9_digest_43 rfl (lv_at hl 2 rfl) ?_
    refine iv_9_292 S hl.1 hG hk_r0 (c_9_mixStreet l hk_r0 hf) ⟨Nat.le_of_ble_eq_true rfl, Nat.le_of_ble_eq_true rfl⟩ (Nat.le_of_ble_eq_true rfl) d_9_digest_44 (fun v_2 σ_1 hf H locs hG => ?_)
    refine lv_lstore_n (lv' := [(1, .long v_2), (0, .ref (ad r0)), (3, .int x3)]) hx hb d_9_digest_47 rfl hl (by decide) rfl (fun ls hl => ?_)
    obtain ⟨x3_3, ex3_3⟩ : ∃ y : Int32, y = x3 + 1 := ⟨_, rfl⟩
    have hf := hf x3_3 ex3_3
    refine lv_iinc (v := x3_3) (lv' := [(3, .int x3_3), (1, .long v_2), (0, .ref (ad r0))]) hx hb d_9_digest_48 hl (k := 2) rfl (by rw [ex3_3]; rfl) (by decide) rfl (fun ls hl => ?_)
    refine lv_goto (tgt := 30) hx hb d_9_digest_51 (by decide) ?_
    exact hB30 _ _ _ _ _ _  hG (lv_sub hl [2, 1, 0] rfl) hf
set_option maxHeartbeats 4000000 in
set_option maxRecDepth 100000 in
theorem lp_9_digest_30 {r0 : Nat} {Q : Int64 → St → Prop} (S : SC A D ac st p m c prog_1_method_27_code 5 s args "SweeperRounds" R cells slots 6 147) (hR : RtL A D ac ad p l e R s m args below meth c prog_1_method_27_code cells slots QW Q) (hk_r0 : kd r0 = 9) : ∀ (n : Nat) (z1 : Int64) (x3 : Int32) (σ : St) (H : Heap) (locs : List Loc) (ls : Array Slot), DG A D ac ad s σ H locs → lv_has ls 5 [(0, .ref (ad r0)), (1, .long z1), (3, .int x3)] → itN (m_9_digest_30 r0 Q) (fun _ _ _ => False) n z1 x3 σ → W p l e R s m args below meth c H locs cells slots QW (F0 m 30 ls []) := by
  intro n
  induction n with
  | zero =>
    intro z1 x3 σ H locs ls  hG hl hf
    exact hf.elim
  | succ n ih =>
    intro z1 x3 σ H locs ls  hG hl hf
    exact w_9_digest_30 S hR hk_r0  ih hG hl hf
set_option maxHeartbeats 4000000 in
set_option maxRecDepth 100000 in
theorem w_9_digest_6 {r0 : Nat} {Q : Int64 → St → Prop} {B6 : Int64 → Int32 → St → Prop} {z1 : Int64} {x3 : Int32} {σ : St} {H : Heap} {locs : List Loc} {ls : Array Slot} (S : SC A D ac st p m c prog_1_method_27_code 5 s args "SweeperRounds" R cells slots 6 147) (hR : RtL A D ac ad p l e R s m args below meth c prog_1_method_27_code cells slots QW Q) (hk_r0 : kd r0 = 9) (hB6 : ∀ (z1 : Int64) (x3 : Int32) (σ : St) (H : Heap) (locs : List Loc) (ls : Array Slot), DG A D ac ad s σ H locs → lv_has ls 5 [(0, .ref (ad r0)), (1, .long z1), (3, .int x3)] → B6 z1 x3 σ → W p l e R s m args below meth c H locs cells slots QW (F0 m 6 ls [])) (hG : DG A D ac ad s σ H locs) (hl : lv_has ls 5 [(0, .ref (ad r0)), (1, .long z1), (3, .int x3)]) (hf : m_9_digest_6 r0 Q B6 z1 x3 σ) : W p l e R s m args below meth c H locs cells slots QW (F0 m 6 ls []) := by
  have hx := S.1.1
  have hb := S.1.2.1
  unfold m_9_digest_6 at hf
  refine lv_iload_n hx hb d_9_digest_6 rfl (lv_at hl 2 rfl) ?_
  refine lv_bipush (v := (15 : Int32)) hx hb d_9_digest_7 (by decide) ?_
  refine lv_icmp_ge (tgt := 28) hx hb d_9_digest_9 (by decide) (fun hc => ?_) (fun hc => ?_)
  · have hf := hf.1 hc
    refine lv_iconst (v := (0 : Int32)) hx hb d_9_digest_28 (by decide) ?_
    refine lv_istore_n (lv' := [(3, .int (0 : Int32)), (0, .ref (ad r0)), (1, .long z1)]) hx hb d_9_digest_29 rfl hl (by decide) rfl (fun ls hl => ?_)
    exact lp_9_digest_30 S hR hk_r0  FU _ _ _ _ _ _  hG (lv_sub hl [1, 2, 0] rfl) hf
  · have hf := hf.2 hc
    refine lv_lload_n hx hb d_9_digest_12 rfl (lv_at hl 1 rfl) ?_
    refine lv_aload_n hx hb d_9_digest_13 rfl (lv_at hl 0 rfl) ?_
    refine lv_iload_n hx hb d_9_digest_14 rfl (lv_at hl 2 rfl) ?_
    refine iv_9_285 S hl.1 hG hk_r0 (c_9_count l hk_r0 hf) ⟨Nat.le_of_ble_eq_true rfl, Nat.le_of_ble_eq_true rfl⟩ (Nat.le_of_ble_eq_true rfl) d_9_digest_15 (fun v_2 σ_1 hf H locs hG => ?_)
    refine iv_9_288 S hl.1 hG  (c_9_mix l  hf) ⟨Nat.le_of_ble_eq_true rfl, Nat.le_of_ble_eq_true rfl⟩ (Nat.le_of_ble_eq_true rfl) d_9_digest_18 (fun v_4 σ_3 hf H locs hG => ?_)
    refine lv_lstore_n (lv' := [(1, .long v_4), (0, .ref (ad r0)), (3, .int x3)]) hx hb d_9_digest_21 rfl hl (by decide) rfl (fun ls hl => ?_)
    obtain ⟨x3_5, ex3_5⟩ : ∃ y : Int32, y = x3 + 1 := ⟨_, rfl⟩
    have hf := hf x3_5 ex3_5
    refine lv_iinc (v := x3_5) (lv' := [(3, .int x3_5), (1, .long v_4), (0, .ref (ad r0))]) hx hb d_9_digest_22 hl (k := 2) rfl (by rw [ex3_5]; rfl) (by decide) rfl (fun ls hl => ?_)
    refine lv_goto (tgt := 6) hx hb d_9_digest_25 (by decide) ?_
    exact hB6 _ _ _ _ _ _  hG (lv_sub hl [2, 1, 0] rfl) hf
set_option maxHeartbeats 4000000 in
set_option maxRecDepth 100000 in
theorem lp_9_digest_6 {r0 : Nat} {Q : Int64 → St → Prop} (S : SC A D ac st p m c prog_1_method_27_code 5 s args "SweeperRounds" R cells slots 6 147) (hR : RtL A D ac ad p l e R s m args below meth c prog_1_method_27_code cells slots QW Q) (hk_r0 : kd r0 = 9) : ∀ (n : Nat) (z1 : Int64) (x3 : Int32) (σ : St) (H : Heap) (locs : List Loc) (ls : Array Slot), DG A D ac ad s σ H locs → lv_has ls 5 [(0, .ref (ad r0)), (1, .long z1), (3, .int x3)] → itN (m_9_digest_6 r0 Q) (fun _ _ _ => False) n z1 x3 σ → W p l e R s m args below meth c H locs cells slots QW (F0 m 6 ls []) := by
  intro n
  induction n with
  | zero =>
    intro z1 x3 σ H locs ls  hG hl hf
    exact hf.elim
  | succ n ih =>
    intro z1 x3 σ H locs ls  hG hl hf
    exact w_9_digest_6 S hR hk_r0  ih hG hl hf
set_option maxHeartbeats 4000000 in
set_option maxRecDepth 100000 in
theorem w_9_digest_0 {r0 : Nat} {Q : Int64 → St → Prop} {σ : St} {H : Heap} {locs : List Loc} {ls : Array Slot} (S : SC A D ac st p m c prog_1_method_27_code 5 s args "SweeperRounds" R cells slots 6 147) (hR : RtL A D ac ad p l e R s m args below meth c prog_1_method_27_code cells slots QW Q) (hk_r0 : kd r0 = 9) (hG : DG A D ac ad s σ H locs) (hl : lv_has ls 5 [(0, .ref (ad r0))]) (hf : m_9_digest r0 Q σ) : W p l e R s m args below meth c H locs cells slots QW (F0 m 0 ls []) := by
  have hx := S.1.1
  have hb := S.1.2.1
  unfold m_9_digest at hf
  refine lv_ldc2 (v := 18926) hx hb S.1.2.2.2.1 (S.1.2.2.2.2 _ wm_767) d_9_digest_0 ?_
  refine lv_lstore_n (lv' := [(1, .long (18926 : Int64)), (0, .ref (ad r0))]) hx hb d_9_digest_3 rfl hl (by decide) rfl (fun ls hl => ?_)
  refine lv_iconst (v := (0 : Int32)) hx hb d_9_digest_4 (by decide) ?_
  refine lv_istore_n (lv' := [(3, .int (0 : Int32)), (1, .long (18926 : Int64)), (0, .ref (ad r0))]) hx hb d_9_digest_5 rfl hl (by decide) rfl (fun ls hl => ?_)
  exact lp_9_digest_6 S hR hk_r0  FU _ _ _ _ _ _  hG (lv_sub hl [2, 1, 0] rfl) hf
theorem c_9_digest (l : Launch) {D : va_G} {ac : Nat → ClassId} {ad st : Nat → Nat} {A : Nat → Prop} {σ : St} {r0 : Nat} {Q : Int64 → St → Prop} (hk_r0 : kd r0 = 9) (hf : m_9_digest r0 Q σ) : Met l y_9_digest (Cond.code y_9_digest prog_1_method_27_code 5 (some .long) :: wA) { frames := 6, cells := 0, slots := 0, locals := 147 } (va_Pc [.ref (ad r0)] (GSt A D ac ad st σ)) (va_Ql Q (GSt A D ac ad st) A) 0 0 A :=
  mkL l (by decide +kernel) rfl [.ref (ad r0)] (Nat.le_of_ble_eq_true rfl) (fun p e s m args below meth c ls QW S hR hG hl => w_9_digest_0 S hR hk_r0 hG hl hf)
set_option maxHeartbeats 4000000 in
set_option maxRecDepth 100000 in
theorem w_10_in_0 {x0 : Int32} {x1 : Int32} {x2 : Int32} {Q : Int32 → St → Prop} {σ : St} {H : Heap} {locs : List Loc} {ls : Array Slot} (S : SC A D ac st p m c prog_12_method_3_code 3 s args "SweeperRoundsModel" R cells slots 0 0) (hR : RtZ A D ac ad p l e R s m args below meth c prog_12_method_3_code cells slots QW Q) (hG : DG A D ac ad s σ H locs) (hl : lv_has ls 3 [(0, .int x0), (1, .int x1), (2, .int x2)]) (hf : m_10_in x0 x1 x2 Q σ) : W p l e R s m args below meth c H locs cells slots QW (F0 m 0 ls []) := by
  have hx := S.1.1
  have hb := S.1.2.1
  unfold m_10_in at hf
  refine lv_iload_n hx hb d_10_in_0 rfl (lv_at hl 0 rfl) ?_
  refine lv_iload_n hx hb d_10_in_1 rfl (lv_at hl 1 rfl) ?_
  refine lv_icmp_lt (tgt := 14) hx hb d_10_in_2 (by decide) (fun hc => ?_) (fun hc => ?_)
  · have hf := hf.1 hc
    refine lv_iconst (v := (0 : Int32)) hx hb d_10_in_14 (by decide) ?_
    exact hR _ _ _ _ _ _ hG (by unfold isB; decide) hf d_10_in_15
  · have hf := hf.2 hc
    refine lv_iload_n hx hb d_10_in_5 rfl (lv_at hl 0 rfl) ?_
    refine lv_iload_n hx hb d_10_in_6 rfl (lv_at hl 2 rfl) ?_
    refine lv_icmp_gt (tgt := 14) hx hb d_10_in_7 (by decide) (fun hc => ?_) (fun hc => ?_)
    · have hf := hf.1 hc
      refine lv_iconst (v := (0 : Int32)) hx hb d_10_in_14 (by decide) ?_
      exact hR _ _ _ _ _ _ hG (by unfold isB; decide) hf d_10_in_15
    · have hf := hf.2 hc
      refine lv_iconst (v := (1 : Int32)) hx hb d_10_in_10 (by decide) ?_
      refine lv_goto (tgt := 15) hx hb d_10_in_11 (by decide) ?_
      exact hR _ _ _ _ _ _ hG (by unfold isB; decide) hf d_10_in_15
theorem c_10_in (l : Launch) {D : va_G} {ac : Nat → ClassId} {ad st : Nat → Nat} {A : Nat → Prop} {σ : St} {x0 : Int32} {x1 : Int32} {x2 : Int32} {Q : Int32 → St → Prop} (hf : m_10_in x0 x1 x2 Q σ) : Met l y_10_in (Cond.code y_10_in prog_12_method_3_code 3 (some .boolean) :: wA) { frames := 0, cells := 0, slots := 0, locals := 0 } (va_Pc [.int x0, .int x1, .int x2] (GSt A D ac ad st σ)) (va_Qi Q (GSt A D ac ad st) A) 0 0 A :=
  mkZ l (by decide +kernel) rfl [.int x0, .int x1, .int x2] (Nat.le_of_ble_eq_true rfl) (fun p e s m args below meth c ls QW S hR hG hl => w_10_in_0 S hR hG hl hf)
set_option maxHeartbeats 4000000 in
set_option maxRecDepth 100000 in
theorem w_10_copies_2 {r0 : Nat} {x1 : Int32} {x2 : Int32} {Q : St → Prop} {B2 : Int32 → St → Prop} {x3 : Int32} {σ : St} {H : Heap} {locs : List Loc} {ls : Array Slot} (S : SC A D ac st p m c prog_12_method_4_code 4 s args "SweeperRoundsModel" R cells slots 0 0) (hR : RtV A D ac ad p l e R s m args below meth c prog_12_method_4_code cells slots QW Q) (hk_r0 : kd r0 = 10) (hB2 : ∀ (x3 : Int32) (σ : St) (H : Heap) (locs : List Loc) (ls : Array Slot), DG A D ac ad s σ H locs → lv_has ls 4 [(0, .ref (ad r0)), (1, .int x1), (2, .int x2), (3, .int x3)] → B2 x3 σ → W p l e R s m args below meth c H locs cells slots QW (F0 m 2 ls [])) (hG : DG A D ac ad s σ H locs) (hl : lv_has ls 4 [(0, .ref (ad r0)), (1, .int x1), (2, .int x2), (3, .int x3)]) (hf : m_10_copies_2 r0 x1 x2 Q B2 x3 σ) : W p l e R s m args below meth c H locs cells slots QW (F0 m 2 ls []) := by
  have hx := S.1.1
  have hb := S.1.2.1
  unfold m_10_copies_2 at hf
  refine lv_iload_n hx hb d_10_copies_2 rfl (lv_at hl 3 rfl) ?_
  refine lv_sipush (v := (564 : Int32)) hx hb d_10_copies_3 (by decide) ?_
  refine lv_icmp_ge (tgt := 39) hx hb d_10_copies_6 (by decide) (fun hc => ?_) (fun hc => ?_)
  · have hf := hf.1 hc
    exact hR _ _ _ _ _ hG hf d_10_copies_39
  · have hf := hf.2 hc
    refine lv_aload_n hx hb d_10_copies_9 rfl (lv_at hl 0 rfl) ?_
    refine gf_10_7 S hG hk_r0 d_10_copies_10 ?_
    refine lv_sipush (v := (564 : Int32)) hx hb d_10_copies_13 (by decide) ?_
    refine lv_iload_n hx hb d_10_copies_16 rfl (lv_at hl 2 rfl) ?_
    refine lv_imul hx hb d_10_copies_17 ?_
    refine lv_iload_n hx hb d_10_copies_18 rfl (lv_at hl 3 rfl) ?_
    refine lv_iadd hx hb d_10_copies_19 ?_
    refine lv_aload_n hx hb d_10_copies_20 rfl (lv_at hl 0 rfl) ?_
    refine gf_10_7 S hG hk_r0 d_10_copies_21 ?_
    refine lv_sipush (v := (564 : Int32)) hx hb d_10_copies_24 (by decide) ?_
    refine lv_iload_n hx hb d_10_copies_27 rfl (lv_at hl 1 rfl) ?_
    refine lv_imul hx hb d_10_copies_28 ?_
    refine lv_iload_n hx hb d_10_copies_29 rfl (lv_at hl 3 rfl) ?_
    refine lv_iadd hx hb d_10_copies_30 ?_
    refine mia S hG 30 rfl rfl (kr_10_0 hk_r0) hf.1 d_10_copies_31 ?_
    have hf := hf.2
    refine mis S hG 30 rfl rfl (kr_10_0 hk_r0) hf.1 d_10_copies_32 (fun σ_1 eσ_1 H locs hG => ?_)
    have hf := hf.2 σ_1 eσ_1
    obtain ⟨x3_2, ex3_2⟩ : ∃ y : Int32, y = x3 + 1 := ⟨_, rfl⟩
    have hf := hf x3_2 ex3_2
    refine lv_iinc (v := x3_2) (lv' := [(3, .int x3_2), (0, .ref (ad r0)), (1, .int x1), (2, .int x2)]) hx hb d_10_copies_33 hl (k := 3) rfl (by rw [ex3_2]; rfl) (by decide) rfl (fun ls hl => ?_)
    refine lv_goto (tgt := 2) hx hb d_10_copies_36 (by decide) ?_
    exact hB2 _ _ _ _ _  hG (lv_sub hl [1, 2, 3, 0] rfl) hf
set_option maxHeartbeats 4000000 in
set_option maxRecDepth 100000 in
theorem lp_10_copies_2 {r0 : Nat} {x1 : Int32} {x2 : Int32} {Q : St → Prop} (S : SC A D ac st p m c prog_12_method_4_code 4 s args "SweeperRoundsModel" R cells slots 0 0) (hR : RtV A D ac ad p l e R s m args below meth c prog_12_method_4_code cells slots QW Q) (hk_r0 : kd r0 = 10) : ∀ (n : Nat) (x3 : Int32) (σ : St) (H : Heap) (locs : List Loc) (ls : Array Slot), DG A D ac ad s σ H locs → lv_has ls 4 [(0, .ref (ad r0)), (1, .int x1), (2, .int x2), (3, .int x3)] → itN (m_10_copies_2 r0 x1 x2 Q) (fun _ _ => False) n x3 σ → W p l e R s m args below meth c H locs cells slots QW (F0 m 2 ls []) := by
  intro n
  induction n with
  | zero =>
    intro x3 σ H locs ls  hG hl hf
    exact hf.elim
  | succ n ih =>
    intro x3 σ H locs ls  hG hl hf
    exact w_10_copies_2 S hR hk_r0  ih hG hl hf
set_option maxHeartbeats 4000000 in
set_option maxRecDepth 100000 in
theorem w_10_copies_0 {r0 : Nat} {x1 : Int32} {x2 : Int32} {Q : St → Prop} {σ : St} {H : Heap} {locs : List Loc} {ls : Array Slot} (S : SC A D ac st p m c prog_12_method_4_code 4 s args "SweeperRoundsModel" R cells slots 0 0) (hR : RtV A D ac ad p l e R s m args below meth c prog_12_method_4_code cells slots QW Q) (hk_r0 : kd r0 = 10) (hG : DG A D ac ad s σ H locs) (hl : lv_has ls 4 [(0, .ref (ad r0)), (1, .int x1), (2, .int x2)]) (hf : m_10_copies r0 x1 x2 Q σ) : W p l e R s m args below meth c H locs cells slots QW (F0 m 0 ls []) := by
  have hx := S.1.1
  have hb := S.1.2.1
  unfold m_10_copies at hf
  refine lv_iconst (v := (0 : Int32)) hx hb d_10_copies_0 (by decide) ?_
  refine lv_istore_n (lv' := [(3, .int (0 : Int32)), (0, .ref (ad r0)), (1, .int x1), (2, .int x2)]) hx hb d_10_copies_1 rfl hl (by decide) rfl (fun ls hl => ?_)
  exact lp_10_copies_2 S hR hk_r0  FU _ _ _ _ _  hG (lv_sub hl [1, 2, 3, 0] rfl) hf
theorem c_10_copies (l : Launch) {D : va_G} {ac : Nat → ClassId} {ad st : Nat → Nat} {A : Nat → Prop} {σ : St} {r0 : Nat} {x1 : Int32} {x2 : Int32} {Q : St → Prop} (hk_r0 : kd r0 = 10) (hf : m_10_copies r0 x1 x2 Q σ) : Met l y_10_copies (Cond.code y_10_copies prog_12_method_4_code 4 none :: wA) { frames := 0, cells := 0, slots := 0, locals := 0 } (va_Pc [.ref (ad r0), .int x1, .int x2] (GSt A D ac ad st σ)) (va_Qv Q (GSt A D ac ad st) A) 0 0 A :=
  mkV l (by decide +kernel) rfl [.ref (ad r0), .int x1, .int x2] (Nat.le_of_ble_eq_true rfl) (fun p e s m args below meth c ls QW S hR hG hl => w_10_copies_0 S hR hk_r0 hG hl hf)
set_option maxHeartbeats 4000000 in
set_option maxRecDepth 100000 in
theorem w_10_records_41 {r0 : Nat} {Q : St → Prop} {σ : St} {H : Heap} {locs : List Loc} {ls : Array Slot} (S : SC A D ac st p m c prog_12_method_5_code 2 s args "SweeperRoundsModel" R cells slots 1 23) (hR : RtV A D ac ad p l e R s m args below meth c prog_12_method_5_code cells slots QW Q) (hk_r0 : kd r0 = 10) (hG : DG A D ac ad s σ H locs) (hl : lv_has ls 2 [(0, .ref (ad r0))]) (hf : m_10_records_41 r0 Q σ) : W p l e R s m args below meth c H locs cells slots QW (F0 m 41 ls []) := by
  have hx := S.1.1
  have hb := S.1.2.1
  unfold m_10_records_41 at hf
  refine lv_aload_n hx hb d_10_records_41 rfl (lv_at hl 0 rfl) ?_
  refine lv_dup hx hb d_10_records_42 rfl ?_
  refine gf_10_25 S hG hk_r0 d_10_records_43 ?_
  refine lv_iconst (v := (1 : Int32)) hx hb d_10_records_46 (by decide) ?_
  refine lv_iadd hx hb d_10_records_47 ?_
  refine pf_10_25 S hG hk_r0 d_10_records_48 (fun σ_1 eσ_1 H locs hG => ?_)
  have hf := hf σ_1 eσ_1
  refine lv_aload_n hx hb d_10_records_51 rfl (lv_at hl 0 rfl) ?_
  refine lv_iconst (v := (0 : Int32)) hx hb d_10_records_52 (by decide) ?_
  refine lv_aload_n hx hb d_10_records_53 rfl (lv_at hl 0 rfl) ?_
  refine gf_10_25 S hG hk_r0 d_10_records_54 ?_
  refine iv_10_29 S hl.1 hG hk_r0 (c_10_copies l hk_r0 hf) ⟨Nat.le_of_ble_eq_true rfl, Nat.le_of_ble_eq_true rfl⟩ (Nat.le_of_ble_eq_true rfl) d_10_records_57 (fun σ_2 hf H locs hG => ?_)
  exact hR _ _ _ _ _ hG hf d_10_records_60
set_option maxHeartbeats 4000000 in
set_option maxRecDepth 100000 in
theorem w_10_records_11 {r0 : Nat} {Q : St → Prop} {B11 : Int32 → St → Prop} {x1 : Int32} {σ : St} {H : Heap} {locs : List Loc} {ls : Array Slot} (S : SC A D ac st p m c prog_12_method_5_code 2 s args "SweeperRoundsModel" R cells slots 1 23) (hR : RtV A D ac ad p l e R s m args below meth c prog_12_method_5_code cells slots QW Q) (hk_r0 : kd r0 = 10) (hB11 : ∀ (x1 : Int32) (σ : St) (H : Heap) (locs : List Loc) (ls : Array Slot), DG A D ac ad s σ H locs → lv_has ls 2 [(0, .ref (ad r0)), (1, .int x1)] → B11 x1 σ → W p l e R s m args below meth c H locs cells slots QW (F0 m 11 ls [])) (hG : DG A D ac ad s σ H locs) (hl : lv_has ls 2 [(0, .ref (ad r0)), (1, .int x1)]) (hf : m_10_records_11 r0 Q B11 x1 σ) : W p l e R s m args below meth c H locs cells slots QW (F0 m 11 ls []) := by
  have hx := S.1.1
  have hb := S.1.2.1
  unfold m_10_records_11 at hf
  refine lv_iload_n hx hb d_10_records_11 rfl (lv_at hl 1 rfl) ?_
  refine lv_bipush (v := (8 : Int32)) hx hb d_10_records_12 (by decide) ?_
  refine lv_icmp_ge (tgt := 31) hx hb d_10_records_14 (by decide) (fun hc => ?_) (fun hc => ?_)
  · have hf := hf.1 hc
    refine lv_aload_n hx hb d_10_records_31 rfl (lv_at hl 0 rfl) ?_
    refine lv_dup hx hb d_10_records_32 rfl ?_
    refine gf_10_25 S hG hk_r0 d_10_records_33 ?_
    refine lv_iconst (v := (1 : Int32)) hx hb d_10_records_36 (by decide) ?_
    refine lv_isub hx hb d_10_records_37 ?_
    refine pf_10_25 S hG hk_r0 d_10_records_38 (fun σ_1 eσ_1 H locs hG => ?_)
    have hf := hf σ_1 eσ_1
    exact w_10_records_41 S hR hk_r0    hG (lv_sub hl [0] rfl) hf
  · have hf := hf.2 hc
    refine lv_aload_n hx hb d_10_records_17 rfl (lv_at hl 0 rfl) ?_
    refine lv_iload_n hx hb d_10_records_18 rfl (lv_at hl 1 rfl) ?_
    refine lv_iconst (v := (1 : Int32)) hx hb d_10_records_19 (by decide) ?_
    refine lv_iadd hx hb d_10_records_20 ?_
    refine lv_iload_n hx hb d_10_records_21 rfl (lv_at hl 1 rfl) ?_
    refine iv_10_29 S hl.1 hG hk_r0 (c_10_copies l hk_r0 hf) ⟨Nat.le_of_ble_eq_true rfl, Nat.le_of_ble_eq_true rfl⟩ (Nat.le_of_ble_eq_true rfl) d_10_records_22 (fun σ_2 hf H locs hG => ?_)
    obtain ⟨x1_4, ex1_4⟩ : ∃ y : Int32, y = x1 + 1 := ⟨_, rfl⟩
    have hf := hf x1_4 ex1_4
    refine lv_iinc (v := x1_4) (lv' := [(1, .int x1_4), (0, .ref (ad r0))]) hx hb d_10_records_25 hl (k := 1) rfl (by rw [ex1_4]; rfl) (by decide) rfl (fun ls hl => ?_)
    refine lv_goto (tgt := 11) hx hb d_10_records_28 (by decide) ?_
    exact hB11 _ _ _ _ _  hG (lv_sub hl [1, 0] rfl) hf
set_option maxHeartbeats 4000000 in
set_option maxRecDepth 100000 in
theorem lp_10_records_11 {r0 : Nat} {Q : St → Prop} (S : SC A D ac st p m c prog_12_method_5_code 2 s args "SweeperRoundsModel" R cells slots 1 23) (hR : RtV A D ac ad p l e R s m args below meth c prog_12_method_5_code cells slots QW Q) (hk_r0 : kd r0 = 10) : ∀ (n : Nat) (x1 : Int32) (σ : St) (H : Heap) (locs : List Loc) (ls : Array Slot), DG A D ac ad s σ H locs → lv_has ls 2 [(0, .ref (ad r0)), (1, .int x1)] → itN (m_10_records_11 r0 Q) (fun _ _ => False) n x1 σ → W p l e R s m args below meth c H locs cells slots QW (F0 m 11 ls []) := by
  intro n
  induction n with
  | zero =>
    intro x1 σ H locs ls  hG hl hf
    exact hf.elim
  | succ n ih =>
    intro x1 σ H locs ls  hG hl hf
    exact w_10_records_11 S hR hk_r0  ih hG hl hf
set_option maxHeartbeats 4000000 in
set_option maxRecDepth 100000 in
theorem w_10_records_0 {r0 : Nat} {Q : St → Prop} {σ : St} {H : Heap} {locs : List Loc} {ls : Array Slot} (S : SC A D ac st p m c prog_12_method_5_code 2 s args "SweeperRoundsModel" R cells slots 1 23) (hR : RtV A D ac ad p l e R s m args below meth c prog_12_method_5_code cells slots QW Q) (hk_r0 : kd r0 = 10) (hG : DG A D ac ad s σ H locs) (hl : lv_has ls 2 [(0, .ref (ad r0))]) (hf : m_10_records r0 Q σ) : W p l e R s m args below meth c H locs cells slots QW (F0 m 0 ls []) := by
  have hx := S.1.1
  have hb := S.1.2.1
  unfold m_10_records at hf
  refine lv_aload_n hx hb d_10_records_0 rfl (lv_at hl 0 rfl) ?_
  refine gf_10_25 S hG hk_r0 d_10_records_1 ?_
  refine lv_bipush (v := (8 : Int32)) hx hb d_10_records_4 (by decide) ?_
  refine lv_icmp_ne (tgt := 41) hx hb d_10_records_6 (by decide) (fun hc => ?_) (fun hc => ?_)
  · have hf := hf.1 hc
    exact w_10_records_41 S hR hk_r0    hG (lv_sub hl [0] rfl) hf
  · have hf := hf.2 hc
    refine lv_iconst (v := (1 : Int32)) hx hb d_10_records_9 (by decide) ?_
    refine lv_istore_n (lv' := [(1, .int (1 : Int32)), (0, .ref (ad r0))]) hx hb d_10_records_10 rfl hl (by decide) rfl (fun ls hl => ?_)
    exact lp_10_records_11 S hR hk_r0  FU _ _ _ _ _  hG (lv_sub hl [1, 0] rfl) hf
theorem c_10_records (l : Launch) {D : va_G} {ac : Nat → ClassId} {ad st : Nat → Nat} {A : Nat → Prop} {σ : St} {r0 : Nat} {Q : St → Prop} (hk_r0 : kd r0 = 10) (hf : m_10_records r0 Q σ) : Met l y_10_records (Cond.code y_10_records prog_12_method_5_code 2 none :: wA) { frames := 1, cells := 0, slots := 0, locals := 23 } (va_Pc [.ref (ad r0)] (GSt A D ac ad st σ)) (va_Qv Q (GSt A D ac ad st) A) 0 0 A :=
  mkV l (by decide +kernel) rfl [.ref (ad r0)] (Nat.le_of_ble_eq_true rfl) (fun p e s m args below meth c ls QW S hR hG hl => w_10_records_0 S hR hk_r0 hG hl hf)
set_option maxHeartbeats 4000000 in
set_option maxRecDepth 100000 in
theorem w_10_undo_0 {r0 : Nat} {Q : Int32 → St → Prop} {σ : St} {H : Heap} {locs : List Loc} {ls : Array Slot} (S : SC A D ac st p m c prog_12_method_6_code 1 s args "SweeperRoundsModel" R cells slots 1 23) (hR : RtI A D ac ad p l e R s m args below meth c prog_12_method_6_code cells slots QW Q) (hk_r0 : kd r0 = 10) (hG : DG A D ac ad s σ H locs) (hl : lv_has ls 1 [(0, .ref (ad r0))]) (hf : m_10_undo r0 Q σ) : W p l e R s m args below meth c H locs cells slots QW (F0 m 0 ls []) := by
  have hx := S.1.1
  have hb := S.1.2.1
  unfold m_10_undo at hf
  refine lv_aload_n hx hb d_10_undo_0 rfl (lv_at hl 0 rfl) ?_
  refine gf_10_25 S hG hk_r0 d_10_undo_1 ?_
  refine lv_if_ne (tgt := 10) hx hb d_10_undo_4 (by decide) (fun hc => ?_) (fun hc => ?_)
  · have hf := hf.1 hc
    refine lv_aload_n hx hb d_10_undo_10 rfl (lv_at hl 0 rfl) ?_
    refine lv_aload_n hx hb d_10_undo_11 rfl (lv_at hl 0 rfl) ?_
    refine gf_10_25 S hG hk_r0 d_10_undo_12 ?_
    refine lv_iconst (v := (0 : Int32)) hx hb d_10_undo_15 (by decide) ?_
    refine iv_10_29 S hl.1 hG hk_r0 (c_10_copies l hk_r0 hf) ⟨Nat.le_of_ble_eq_true rfl, Nat.le_of_ble_eq_true rfl⟩ (Nat.le_of_ble_eq_true rfl) d_10_undo_16 (fun σ_1 hf H locs hG => ?_)
    refine lv_aload_n hx hb d_10_undo_19 rfl (lv_at hl 0 rfl) ?_
    refine lv_dup hx hb d_10_undo_20 rfl ?_
    refine gf_10_25 S hG hk_r0 d_10_undo_21 ?_
    refine lv_iconst (v := (1 : Int32)) hx hb d_10_undo_24 (by decide) ?_
    refine lv_isub hx hb d_10_undo_25 ?_
    refine pf_10_25 S hG hk_r0 d_10_undo_26 (fun σ_3 eσ_3 H locs hG => ?_)
    have hf := hf σ_3 eσ_3
    refine lv_aload_n hx hb d_10_undo_29 rfl (lv_at hl 0 rfl) ?_
    refine gf_10_25 S hG hk_r0 d_10_undo_30 ?_
    exact hR _ _ _ _ _ _ hG hf d_10_undo_33
  · have hf := hf.2 hc
    refine lv_bipush (v := (-2 : Int32)) hx hb d_10_undo_7 (by decide) ?_
    exact hR _ _ _ _ _ _ hG hf d_10_undo_9
theorem c_10_undo (l : Launch) {D : va_G} {ac : Nat → ClassId} {ad st : Nat → Nat} {A : Nat → Prop} {σ : St} {r0 : Nat} {Q : Int32 → St → Prop} (hk_r0 : kd r0 = 10) (hf : m_10_undo r0 Q σ) : Met l y_10_undo (Cond.code y_10_undo prog_12_method_6_code 1 (some .int) :: wA) { frames := 1, cells := 0, slots := 0, locals := 23 } (va_Pc [.ref (ad r0)] (GSt A D ac ad st σ)) (va_Qi Q (GSt A D ac ad st) A) 0 0 A :=
  mkI l (by decide +kernel) rfl [.ref (ad r0)] (Nat.le_of_ble_eq_true rfl) (fun p e s m args below meth c ls QW S hR hG hl => w_10_undo_0 S hR hk_r0 hG hl hf)
set_option maxHeartbeats 4000000 in
set_option maxRecDepth 100000 in
theorem w_10_of_0 {r0 : Nat} {x1 : Int32} {x2 : Int32} {Q : Int32 → St → Prop} {σ : St} {H : Heap} {locs : List Loc} {ls : Array Slot} (S : SC A D ac st p m c prog_12_method_7_code 3 s args "SweeperRoundsModel" R cells slots 0 0) (hR : RtI A D ac ad p l e R s m args below meth c prog_12_method_7_code cells slots QW Q) (hk_r0 : kd r0 = 10) (hG : DG A D ac ad s σ H locs) (hl : lv_has ls 3 [(0, .ref (ad r0)), (1, .int x1), (2, .int x2)]) (hf : m_10_of r0 x1 x2 Q σ) : W p l e R s m args below meth c H locs cells slots QW (F0 m 0 ls []) := by
  have hx := S.1.1
  have hb := S.1.2.1
  unfold m_10_of at hf
  refine lv_aload_n hx hb d_10_of_0 rfl (lv_at hl 0 rfl) ?_
  refine gf_10_7 S hG hk_r0 d_10_of_1 ?_
  refine lv_iconst (v := (1 : Int32)) hx hb d_10_of_4 (by decide) ?_
  refine lv_bipush (v := (83 : Int32)) hx hb d_10_of_5 (by decide) ?_
  refine lv_iload_n hx hb d_10_of_7 rfl (lv_at hl 1 rfl) ?_
  refine lv_imul hx hb d_10_of_8 ?_
  refine lv_iadd hx hb d_10_of_9 ?_
  refine lv_iload_n hx hb d_10_of_10 rfl (lv_at hl 2 rfl) ?_
  refine lv_iadd hx hb d_10_of_11 ?_
  refine mia S hG 30 rfl rfl (kr_10_0 hk_r0) hf.1 d_10_of_12 ?_
  have hf := hf.2
  exact hR _ _ _ _ _ _ hG hf d_10_of_13
theorem c_10_of (l : Launch) {D : va_G} {ac : Nat → ClassId} {ad st : Nat → Nat} {A : Nat → Prop} {σ : St} {r0 : Nat} {x1 : Int32} {x2 : Int32} {Q : Int32 → St → Prop} (hk_r0 : kd r0 = 10) (hf : m_10_of r0 x1 x2 Q σ) : Met l y_10_of (Cond.code y_10_of prog_12_method_7_code 3 (some .int) :: wA) { frames := 0, cells := 0, slots := 0, locals := 0 } (va_Pc [.ref (ad r0), .int x1, .int x2] (GSt A D ac ad st σ)) (va_Qi Q (GSt A D ac ad st) A) 0 0 A :=
  mkI l (by decide +kernel) rfl [.ref (ad r0), .int x1, .int x2] (Nat.le_of_ble_eq_true rfl) (fun p e s m args below meth c ls QW S hR hG hl => w_10_of_0 S hR hk_r0 hG hl hf)
set_option maxHeartbeats 4000000 in
set_option maxRecDepth 100000 in
theorem w_10_sets_0 {r0 : Nat} {x1 : Int32} {x2 : Int32} {x3 : Int32} {Q : St → Prop} {σ : St} {H : Heap} {locs : List Loc} {ls : Array Slot} (S : SC A D ac st p m c prog_12_method_8_code 4 s args "SweeperRoundsModel" R cells slots 0 0) (hR : RtV A D ac ad p l e R s m args below meth c prog_12_method_8_code cells slots QW Q) (hk_r0 : kd r0 = 10) (hG : DG A D ac ad s σ H locs) (hl : lv_has ls 4 [(0, .ref (ad r0)), (1, .int x1), (2, .int x2), (3, .int x3)]) (hf : m_10_sets r0 x1 x2 x3 Q σ) : W p l e R s m args below meth c H locs cells slots QW (F0 m 0 ls []) := by
  have hx := S.1.1
  have hb := S.1.2.1
  unfold m_10_sets at hf
  refine lv_aload_n hx hb d_10_sets_0 rfl (lv_at hl 0 rfl) ?_
  refine gf_10_7 S hG hk_r0 d_10_sets_1 ?_
  refine lv_iconst (v := (1 : Int32)) hx hb d_10_sets_4 (by decide) ?_
  refine lv_bipush (v := (83 : Int32)) hx hb d_10_sets_5 (by decide) ?_
  refine lv_iload_n hx hb d_10_sets_7 rfl (lv_at hl 1 rfl) ?_
  refine lv_imul hx hb d_10_sets_8 ?_
  refine lv_iadd hx hb d_10_sets_9 ?_
  refine lv_iload_n hx hb d_10_sets_10 rfl (lv_at hl 2 rfl) ?_
  refine lv_iadd hx hb d_10_sets_11 ?_
  refine lv_iload_n hx hb d_10_sets_12 rfl (lv_at hl 3 rfl) ?_
  refine mis S hG 30 rfl rfl (kr_10_0 hk_r0) hf.1 d_10_sets_13 (fun σ_1 eσ_1 H locs hG => ?_)
  have hf := hf.2 σ_1 eσ_1
  exact hR _ _ _ _ _ hG hf d_10_sets_14
theorem c_10_sets (l : Launch) {D : va_G} {ac : Nat → ClassId} {ad st : Nat → Nat} {A : Nat → Prop} {σ : St} {r0 : Nat} {x1 : Int32} {x2 : Int32} {x3 : Int32} {Q : St → Prop} (hk_r0 : kd r0 = 10) (hf : m_10_sets r0 x1 x2 x3 Q σ) : Met l y_10_sets (Cond.code y_10_sets prog_12_method_8_code 4 none :: wA) { frames := 0, cells := 0, slots := 0, locals := 0 } (va_Pc [.ref (ad r0), .int x1, .int x2, .int x3] (GSt A D ac ad st σ)) (va_Qv Q (GSt A D ac ad st) A) 0 0 A :=
  mkV l (by decide +kernel) rfl [.ref (ad r0), .int x1, .int x2, .int x3] (Nat.le_of_ble_eq_true rfl) (fun p e s m args below meth c ls QW S hR hG hl => w_10_sets_0 S hR hk_r0 hG hl hf)
set_option maxHeartbeats 4000000 in
set_option maxRecDepth 100000 in
theorem w_10_placeOf_0 {x0 : Int32} {x1 : Int32} {Q : Int32 → St → Prop} {σ : St} {H : Heap} {locs : List Loc} {ls : Array Slot} (S : SC A D ac st p m c prog_12_method_9_code 2 s args "SweeperRoundsModel" R cells slots 0 0) (hR : RtI A D ac ad p l e R s m args below meth c prog_12_method_9_code cells slots QW Q) (hG : DG A D ac ad s σ H locs) (hl : lv_has ls 2 [(0, .int x0), (1, .int x1)]) (hf : m_10_placeOf x0 x1 Q σ) : W p l e R s m args below meth c H locs cells slots QW (F0 m 0 ls []) := by
  have hx := S.1.1
  have hb := S.1.2.1
  unfold m_10_placeOf at hf
  refine lv_bipush (v := (20 : Int32)) hx hb d_10_placeOf_0 (by decide) ?_
  refine lv_iload_n hx hb d_10_placeOf_2 rfl (lv_at hl 0 rfl) ?_
  refine lv_imul hx hb d_10_placeOf_3 ?_
  refine lv_iload_n hx hb d_10_placeOf_4 rfl (lv_at hl 1 rfl) ?_
  refine lv_iadd hx hb d_10_placeOf_5 ?_
  exact hR _ _ _ _ _ _ hG hf d_10_placeOf_6
theorem c_10_placeOf (l : Launch) {D : va_G} {ac : Nat → ClassId} {ad st : Nat → Nat} {A : Nat → Prop} {σ : St} {x0 : Int32} {x1 : Int32} {Q : Int32 → St → Prop} (hf : m_10_placeOf x0 x1 Q σ) : Met l y_10_placeOf (Cond.code y_10_placeOf prog_12_method_9_code 2 (some .int) :: wA) { frames := 0, cells := 0, slots := 0, locals := 0 } (va_Pc [.int x0, .int x1] (GSt A D ac ad st σ)) (va_Qi Q (GSt A D ac ad st) A) 0 0 A :=
  mkI l (by decide +kernel) rfl [.int x0, .int x1] (Nat.le_of_ble_eq_true rfl) (fun p e s m args below meth c ls QW S hR hG hl => w_10_placeOf_0 S hR hG hl hf)
set_option maxHeartbeats 4000000 in
set_option maxRecDepth 100000 in
theorem w_10_dirtOf_0 {r0 : Nat} {x1 : Int32} {x2 : Int32} {x3 : Int32} {Q : Int32 → St → Prop} {σ : St} {H : Heap} {locs : List Loc} {ls : Array Slot} (S : SC A D ac st p m c prog_12_method_10_code 4 s args "SweeperRoundsModel" R cells slots 1 22) (hR : RtI A D ac ad p l e R s m args below meth c prog_12_method_10_code cells slots QW Q) (hk_r0 : kd r0 = 10) (hG : DG A D ac ad s σ H locs) (hl : lv_has ls 4 [(0, .ref (ad r0)), (1, .int x1), (2, .int x2), (3, .int x3)]) (hf : m_10_dirtOf r0 x1 x2 x3 Q σ) : W p l e R s m args below meth c H locs cells slots QW (F0 m 0 ls []) := by
  have hx := S.1.1
  have hb := S.1.2.1
  unfold m_10_dirtOf at hf
  refine lv_aload_n hx hb d_10_dirtOf_0 rfl (lv_at hl 0 rfl) ?_
  refine lv_iload_n hx hb d_10_dirtOf_1 rfl (lv_at hl 1 rfl) ?_
  refine lv_iconst (v := (3 : Int32)) hx hb d_10_dirtOf_2 (by decide) ?_
  refine lv_iload_n hx hb d_10_dirtOf_3 rfl (lv_at hl 2 rfl) ?_
  refine lv_iload_n hx hb d_10_dirtOf_4 rfl (lv_at hl 3 rfl) ?_
  refine iv_10_33 S hl.1 hG  (c_10_placeOf l  hf) ⟨Nat.le_of_ble_eq_true rfl, Nat.le_of_ble_eq_true rfl⟩ (Nat.le_of_ble_eq_true rfl) d_10_dirtOf_5 (fun v_2 σ_1 hf H locs hG => ?_)
  refine lv_iadd hx hb d_10_dirtOf_8 ?_
  refine iv_10_37 S hl.1 hG hk_r0 (c_10_of l hk_r0 hf) ⟨Nat.le_of_ble_eq_true rfl, Nat.le_of_ble_eq_true rfl⟩ (Nat.le_of_ble_eq_true rfl) d_10_dirtOf_9 (fun v_4 σ_3 hf H locs hG => ?_)
  exact hR _ _ _ _ _ _ hG hf d_10_dirtOf_12
theorem c_10_dirtOf (l : Launch) {D : va_G} {ac : Nat → ClassId} {ad st : Nat → Nat} {A : Nat → Prop} {σ : St} {r0 : Nat} {x1 : Int32} {x2 : Int32} {x3 : Int32} {Q : Int32 → St → Prop} (hk_r0 : kd r0 = 10) (hf : m_10_dirtOf r0 x1 x2 x3 Q σ) : Met l y_10_dirtOf (Cond.code y_10_dirtOf prog_12_method_10_code 4 (some .int) :: wA) { frames := 1, cells := 0, slots := 0, locals := 22 } (va_Pc [.ref (ad r0), .int x1, .int x2, .int x3] (GSt A D ac ad st σ)) (va_Qi Q (GSt A D ac ad st) A) 0 0 A :=
  mkI l (by decide +kernel) rfl [.ref (ad r0), .int x1, .int x2, .int x3] (Nat.le_of_ble_eq_true rfl) (fun p e s m args below meth c ls QW S hR hG hl => w_10_dirtOf_0 S hR hk_r0 hG hl hf)
set_option maxHeartbeats 4000000 in
set_option maxRecDepth 100000 in
theorem w_10_isParked_0 {r0 : Nat} {x1 : Int32} {x2 : Int32} {x3 : Int32} {Q : Int32 → St → Prop} {σ : St} {H : Heap} {locs : List Loc} {ls : Array Slot} (S : SC A D ac st p m c prog_12_method_11_code 4 s args "SweeperRoundsModel" R cells slots 1 22) (hR : RtZ A D ac ad p l e R s m args below meth c prog_12_method_11_code cells slots QW Q) (hk_r0 : kd r0 = 10) (hG : DG A D ac ad s σ H locs) (hl : lv_has ls 4 [(0, .ref (ad r0)), (1, .int x1), (2, .int x2), (3, .int x3)]) (hf : m_10_isParked r0 x1 x2 x3 Q σ) : W p l e R s m args below meth c H locs cells slots QW (F0 m 0 ls []) := by
  have hx := S.1.1
  have hb := S.1.2.1
  unfold m_10_isParked at hf
  refine lv_aload_n hx hb d_10_isParked_0 rfl (lv_at hl 0 rfl) ?_
  refine lv_iload_n hx hb d_10_isParked_1 rfl (lv_at hl 1 rfl) ?_
  refine lv_bipush (v := (43 : Int32)) hx hb d_10_isParked_2 (by decide) ?_
  refine lv_iload_n hx hb d_10_isParked_4 rfl (lv_at hl 2 rfl) ?_
  refine lv_iload_n hx hb d_10_isParked_5 rfl (lv_at hl 3 rfl) ?_
  refine iv_10_33 S hl.1 hG  (c_10_placeOf l  hf) ⟨Nat.le_of_ble_eq_true rfl, Nat.le_of_ble_eq_true rfl⟩ (Nat.le_of_ble_eq_true rfl) d_10_isParked_6 (fun v_2 σ_1 hf H locs hG => ?_)
  refine lv_iadd hx hb d_10_isParked_9 ?_
  refine iv_10_37 S hl.1 hG hk_r0 (c_10_of l hk_r0 hf) ⟨Nat.le_of_ble_eq_true rfl, Nat.le_of_ble_eq_true rfl⟩ (Nat.le_of_ble_eq_true rfl) d_10_isParked_10 (fun v_4 σ_3 hf H locs hG => ?_)
  refine lv_iconst (v := (1 : Int32)) hx hb d_10_isParked_13 (by decide) ?_
  refine lv_icmp_ne (tgt := 21) hx hb d_10_isParked_14 (by decide) (fun hc => ?_) (fun hc => ?_)
  · have hf := hf.1 hc
    refine lv_iconst (v := (0 : Int32)) hx hb d_10_isParked_21 (by decide) ?_
    exact hR _ _ _ _ _ _ hG (by unfold isB; decide) hf d_10_isParked_22
  · have hf := hf.2 hc
    refine lv_iconst (v := (1 : Int32)) hx hb d_10_isParked_17 (by decide) ?_
    refine lv_goto (tgt := 22) hx hb d_10_isParked_18 (by decide) ?_
    exact hR _ _ _ _ _ _ hG (by unfold isB; decide) hf d_10_isParked_22
theorem c_10_isParked (l : Launch) {D : va_G} {ac : Nat → ClassId} {ad st : Nat → Nat} {A : Nat → Prop} {σ : St} {r0 : Nat} {x1 : Int32} {x2 : Int32} {x3 : Int32} {Q : Int32 → St → Prop} (hk_r0 : kd r0 = 10) (hf : m_10_isParked r0 x1 x2 x3 Q σ) : Met l y_10_isParked (Cond.code y_10_isParked prog_12_method_11_code 4 (some .boolean) :: wA) { frames := 1, cells := 0, slots := 0, locals := 22 } (va_Pc [.ref (ad r0), .int x1, .int x2, .int x3] (GSt A D ac ad st σ)) (va_Qi Q (GSt A D ac ad st) A) 0 0 A :=
  mkZ l (by decide +kernel) rfl [.ref (ad r0), .int x1, .int x2, .int x3] (Nat.le_of_ble_eq_true rfl) (fun p e s m args below meth c ls QW S hR hG hl => w_10_isParked_0 S hR hk_r0 hG hl hf)
set_option maxHeartbeats 4000000 in
set_option maxRecDepth 100000 in
theorem w_10_isStreet_0 {r0 : Nat} {x1 : Int32} {Q : Int32 → St → Prop} {σ : St} {H : Heap} {locs : List Loc} {ls : Array Slot} (S : SC A D ac st p m c prog_12_method_12_code 2 s args "SweeperRoundsModel" R cells slots 1 22) (hR : RtZ A D ac ad p l e R s m args below meth c prog_12_method_12_code cells slots QW Q) (hk_r0 : kd r0 = 10) (hG : DG A D ac ad s σ H locs) (hl : lv_has ls 2 [(0, .ref (ad r0)), (1, .int x1)]) (hf : m_10_isStreet r0 x1 Q σ) : W p l e R s m args below meth c H locs cells slots QW (F0 m 0 ls []) := by
  have hx := S.1.1
  have hb := S.1.2.1
  unfold m_10_isStreet at hf
  refine lv_iload_n hx hb d_10_isStreet_0 rfl (lv_at hl 1 rfl) ?_
  refine lv_iconst (v := (0 : Int32)) hx hb d_10_isStreet_1 (by decide) ?_
  refine lv_aload_n hx hb d_10_isStreet_2 rfl (lv_at hl 0 rfl) ?_
  refine gf_10_7 S hG hk_r0 d_10_isStreet_3 ?_
  refine lv_iconst (v := (0 : Int32)) hx hb d_10_isStreet_6 (by decide) ?_
  refine mia S hG 30 rfl rfl (kr_10_0 hk_r0) hf.1 d_10_isStreet_7 ?_
  have hf := hf.2
  refine lv_iconst (v := (1 : Int32)) hx hb d_10_isStreet_8 (by decide) ?_
  refine lv_isub hx hb d_10_isStreet_9 ?_
  refine iv_10_40 S hl.1 hG  (c_10_in l  hf) ⟨Nat.le_of_ble_eq_true rfl, Nat.le_of_ble_eq_true rfl⟩ (Nat.le_of_ble_eq_true rfl) d_10_isStreet_10 (fun v_2 σ_1 hf H locs hG => ?_)
  exact hR _ _ _ _ _ _ hG hf.1 hf.2 d_10_isStreet_13
theorem c_10_isStreet (l : Launch) {D : va_G} {ac : Nat → ClassId} {ad st : Nat → Nat} {A : Nat → Prop} {σ : St} {r0 : Nat} {x1 : Int32} {Q : Int32 → St → Prop} (hk_r0 : kd r0 = 10) (hf : m_10_isStreet r0 x1 Q σ) : Met l y_10_isStreet (Cond.code y_10_isStreet prog_12_method_12_code 2 (some .boolean) :: wA) { frames := 1, cells := 0, slots := 0, locals := 22 } (va_Pc [.ref (ad r0), .int x1] (GSt A D ac ad st σ)) (va_Qi Q (GSt A D ac ad st) A) 0 0 A :=
  mkZ l (by decide +kernel) rfl [.ref (ad r0), .int x1] (Nat.le_of_ble_eq_true rfl) (fun p e s m args below meth c ls QW S hR hG hl => w_10_isStreet_0 S hR hk_r0 hG hl hf)
set_option maxHeartbeats 4000000 in
set_option maxRecDepth 100000 in
theorem w_10_isCell_0 {r0 : Nat} {x1 : Int32} {x2 : Int32} {x3 : Int32} {Q : Int32 → St → Prop} {σ : St} {H : Heap} {locs : List Loc} {ls : Array Slot} (S : SC A D ac st p m c prog_12_method_13_code 4 s args "SweeperRoundsModel" R cells slots 2 43) (hR : RtZ A D ac ad p l e R s m args below meth c prog_12_method_13_code cells slots QW Q) (hk_r0 : kd r0 = 10) (hG : DG A D ac ad s σ H locs) (hl : lv_has ls 4 [(0, .ref (ad r0)), (1, .int x1), (2, .int x2), (3, .int x3)]) (hf : m_10_isCell r0 x1 x2 x3 Q σ) : W p l e R s m args below meth c H locs cells slots QW (F0 m 0 ls []) := by
  have hx := S.1.1
  have hb := S.1.2.1
  unfold m_10_isCell at hf
  refine lv_aload_n hx hb d_10_isCell_0 rfl (lv_at hl 0 rfl) ?_
  refine lv_iload_n hx hb d_10_isCell_1 rfl (lv_at hl 1 rfl) ?_
  refine iv_10_44 S hl.1 hG hk_r0 (c_10_isStreet l hk_r0 hf) ⟨Nat.le_of_ble_eq_true rfl, Nat.le_of_ble_eq_true rfl⟩ (Nat.le_of_ble_eq_true rfl) d_10_isCell_2 (fun v_2 σ_1 hf H locs hG => ?_)
  refine lv_if_eq (tgt := 37) hx hb d_10_isCell_5 (by decide) (fun hc => ?_) (fun hc => ?_)
  · have hf := hf.1 hc
    refine lv_iconst (v := (0 : Int32)) hx hb d_10_isCell_37 (by decide) ?_
    exact hR _ _ _ _ _ _ hG (by unfold isB; decide) hf d_10_isCell_38
  · have hf := hf.2 hc
    refine lv_iload_n hx hb d_10_isCell_8 rfl (lv_at hl 2 rfl) ?_
    refine lv_iconst (v := (0 : Int32)) hx hb d_10_isCell_9 (by decide) ?_
    refine lv_iconst (v := (1 : Int32)) hx hb d_10_isCell_10 (by decide) ?_
    refine iv_10_40 S hl.1 hG  (c_10_in l  hf) ⟨Nat.le_of_ble_eq_true rfl, Nat.le_of_ble_eq_true rfl⟩ (Nat.le_of_ble_eq_true rfl) d_10_isCell_11 (fun v_4 σ_3 hf H locs hG => ?_)
    refine lv_if_eq (tgt := 37) hx hb d_10_isCell_14 (by decide) (fun hc => ?_) (fun hc => ?_)
    · have hf := hf.1 hc
      refine lv_iconst (v := (0 : Int32)) hx hb d_10_isCell_37 (by decide) ?_
      exact hR _ _ _ _ _ _ hG (by unfold isB; decide) hf d_10_isCell_38
    · have hf := hf.2 hc
      refine lv_iload_n hx hb d_10_isCell_17 rfl (lv_at hl 3 rfl) ?_
      refine lv_iconst (v := (0 : Int32)) hx hb d_10_isCell_18 (by decide) ?_
      refine lv_aload_n hx hb d_10_isCell_19 rfl (lv_at hl 0 rfl) ?_
      refine lv_iload_n hx hb d_10_isCell_20 rfl (lv_at hl 1 rfl) ?_
      refine lv_iconst (v := (0 : Int32)) hx hb d_10_isCell_21 (by decide) ?_
      refine iv_10_37 S hl.1 hG hk_r0 (c_10_of l hk_r0 hf) ⟨Nat.le_of_ble_eq_true rfl, Nat.le_of_ble_eq_true rfl⟩ (Nat.le_of_ble_eq_true rfl) d_10_isCell_22 (fun v_6 σ_5 hf H locs hG => ?_)
      refine lv_iconst (v := (1 : Int32)) hx hb d_10_isCell_25 (by decide) ?_
      refine lv_isub hx hb d_10_isCell_26 ?_
      refine iv_10_40 S hl.1 hG  (c_10_in l  hf) ⟨Nat.le_of_ble_eq_true rfl, Nat.le_of_ble_eq_true rfl⟩ (Nat.le_of_ble_eq_true rfl) d_10_isCell_27 (fun v_8 σ_7 hf H locs hG => ?_)
      refine lv_if_eq (tgt := 37) hx hb d_10_isCell_30 (by decide) (fun hc => ?_) (fun hc => ?_)
      · have hf := hf.1 hc
        refine lv_iconst (v := (0 : Int32)) hx hb d_10_isCell_37 (by decide) ?_
        exact hR _ _ _ _ _ _ hG (by unfold isB; decide) hf d_10_isCell_38
      · have hf := hf.2 hc
        refine lv_iconst (v := (1 : Int32)) hx hb d_10_isCell_33 (by decide) ?_
        refine lv_goto (tgt := 38) hx hb d_10_isCell_34 (by decide) ?_
        exact hR _ _ _ _ _ _ hG (by unfold isB; decide) hf d_10_isCell_38
theorem c_10_isCell (l : Launch) {D : va_G} {ac : Nat → ClassId} {ad st : Nat → Nat} {A : Nat → Prop} {σ : St} {r0 : Nat} {x1 : Int32} {x2 : Int32} {x3 : Int32} {Q : Int32 → St → Prop} (hk_r0 : kd r0 = 10) (hf : m_10_isCell r0 x1 x2 x3 Q σ) : Met l y_10_isCell (Cond.code y_10_isCell prog_12_method_13_code 4 (some .boolean) :: wA) { frames := 2, cells := 0, slots := 0, locals := 43 } (va_Pc [.ref (ad r0), .int x1, .int x2, .int x3] (GSt A D ac ad st σ)) (va_Qi Q (GSt A D ac ad st) A) 0 0 A :=
  mkZ l (by decide +kernel) rfl [.ref (ad r0), .int x1, .int x2, .int x3] (Nat.le_of_ble_eq_true rfl) (fun p e s m args below meth c ls QW S hR hG hl => w_10_isCell_0 S hR hk_r0 hG hl hf)
set_option maxHeartbeats 4000000 in
set_option maxRecDepth 100000 in
theorem w_10_sideSum_5 {r0 : Nat} {x1 : Int32} {x2 : Int32} {Q : Int32 → St → Prop} {B5 : Int32 → Int32 → St → Prop} {x3 : Int32} {x4 : Int32} {σ : St} {H : Heap} {locs : List Loc} {ls : Array Slot} (S : SC A D ac st p m c prog_12_method_14_code 5 s args "SweeperRoundsModel" R cells slots 2 45) (hR : RtI A D ac ad p l e R s m args below meth c prog_12_method_14_code cells slots QW Q) (hk_r0 : kd r0 = 10) (hB5 : ∀ (x3 : Int32) (x4 : Int32) (σ : St) (H : Heap) (locs : List Loc) (ls : Array Slot), DG A D ac ad s σ H locs → lv_has ls 5 [(0, .ref (ad r0)), (1, .int x1), (2, .int x2), (3, .int x3), (4, .int x4)] → B5 x3 x4 σ → W p l e R s m args below meth c H locs cells slots QW (F0 m 5 ls [])) (hG : DG A D ac ad s σ H locs) (hl : lv_has ls 5 [(0, .ref (ad r0)), (1, .int x1), (2, .int x2), (3, .int x3), (4, .int x4)]) (hf : m_10_sideSum_5 r0 x1 x2 Q B5 x3 x4 σ) : W p l e R s m args below meth c H locs cells slots QW (F0 m 5 ls []) := by
  have hx := S.1.1
  have hb := S.1.2.1
  unfold m_10_sideSum_5 at hf
  refine lv_iload hx hb d_10_sideSum_5 (lv_at hl 4 rfl) ?_
  refine lv_aload_n hx hb d_10_sideSum_7 rfl (lv_at hl 0 rfl) ?_
  refine lv_iload_n hx hb d_10_sideSum_8 rfl (lv_at hl 1 rfl) ?_
  refine lv_iconst (v := (0 : Int32)) hx hb d_10_sideSum_9 (by decide) ?_
  refine iv_10_37 S hl.1 hG hk_r0 (c_10_of l hk_r0 hf) ⟨Nat.le_of_ble_eq_true rfl, Nat.le_of_ble_eq_true rfl⟩ (Nat.le_of_ble_eq_true rfl) d_10_sideSum_10 (fun v_2 σ_1 hf H locs hG => ?_)
  refine lv_icmp_ge (tgt := 33) hx hb d_10_sideSum_13 (by decide) (fun hc => ?_) (fun hc => ?_)
  · have hf := hf.1 hc
    refine lv_iload_n hx hb d_10_sideSum_33 rfl (lv_at hl 3 rfl) ?_
    exact hR _ _ _ _ _ _ hG hf d_10_sideSum_34
  · have hf := hf.2 hc
    refine lv_iload_n hx hb d_10_sideSum_16 rfl (lv_at hl 3 rfl) ?_
    refine lv_aload_n hx hb d_10_sideSum_17 rfl (lv_at hl 0 rfl) ?_
    refine lv_iload_n hx hb d_10_sideSum_18 rfl (lv_at hl 1 rfl) ?_
    refine lv_iload_n hx hb d_10_sideSum_19 rfl (lv_at hl 2 rfl) ?_
    refine lv_iload hx hb d_10_sideSum_20 (lv_at hl 4 rfl) ?_
    refine iv_10_48 S hl.1 hG hk_r0 (c_10_dirtOf l hk_r0 hf) ⟨Nat.le_of_ble_eq_true rfl, Nat.le_of_ble_eq_true rfl⟩ (Nat.le_of_ble_eq_true rfl) d_10_sideSum_22 (fun v_4 σ_3 hf H locs hG => ?_)
    refine lv_iadd hx hb d_10_sideSum_25 ?_
    refine lv_topi (fun x3_5 ex3_5 => ?_)
    have hf := hf x3_5 ex3_5
    refine lv_istore_n (lv' := [(3, .int x3_5), (0, .ref (ad r0)), (1, .int x1), (2, .int x2), (4, .int x4)]) hx hb d_10_sideSum_26 rfl hl (by decide) rfl (fun ls hl => ?_)
    obtain ⟨x4_6, ex4_6⟩ : ∃ y : Int32, y = x4 + 1 := ⟨_, rfl⟩
    have hf := hf x4_6 ex4_6
    refine lv_iinc (v := x4_6) (lv' := [(4, .int x4_6), (3, .int x3_5), (0, .ref (ad r0)), (1, .int x1), (2, .int x2)]) hx hb d_10_sideSum_27 hl (k := 4) rfl (by rw [ex4_6]; rfl) (by decide) rfl (fun ls hl => ?_)
    refine lv_goto (tgt := 5) hx hb d_10_sideSum_30 (by decide) ?_
    exact hB5 _ _ _ _ _ _  hG (lv_sub hl [2, 3, 4, 1, 0] rfl) hf
set_option maxHeartbeats 4000000 in
set_option maxRecDepth 100000 in
theorem lp_10_sideSum_5 {r0 : Nat} {x1 : Int32} {x2 : Int32} {Q : Int32 → St → Prop} (S : SC A D ac st p m c prog_12_method_14_code 5 s args "SweeperRoundsModel" R cells slots 2 45) (hR : RtI A D ac ad p l e R s m args below meth c prog_12_method_14_code cells slots QW Q) (hk_r0 : kd r0 = 10) : ∀ (n : Nat) (x3 : Int32) (x4 : Int32) (σ : St) (H : Heap) (locs : List Loc) (ls : Array Slot), DG A D ac ad s σ H locs → lv_has ls 5 [(0, .ref (ad r0)), (1, .int x1), (2, .int x2), (3, .int x3), (4, .int x4)] → itN (m_10_sideSum_5 r0 x1 x2 Q) (fun _ _ _ => False) n x3 x4 σ → W p l e R s m args below meth c H locs cells slots QW (F0 m 5 ls []) := by
  intro n
  induction n with
  | zero =>
    intro x3 x4 σ H locs ls  hG hl hf
    exact hf.elim
  | succ n ih =>
    intro x3 x4 σ H locs ls  hG hl hf
    exact w_10_sideSum_5 S hR hk_r0  ih hG hl hf
set_option maxHeartbeats 4000000 in
set_option maxRecDepth 100000 in
theorem w_10_sideSum_0 {r0 : Nat} {x1 : Int32} {x2 : Int32} {Q : Int32 → St → Prop} {σ : St} {H : Heap} {locs : List Loc} {ls : Array Slot} (S : SC A D ac st p m c prog_12_method_14_code 5 s args "SweeperRoundsModel" R cells slots 2 45) (hR : RtI A D ac ad p l e R s m args below meth c prog_12_method_14_code cells slots QW Q) (hk_r0 : kd r0 = 10) (hG : DG A D ac ad s σ H locs) (hl : lv_has ls 5 [(0, .ref (ad r0)), (1, .int x1), (2, .int x2)]) (hf : m_10_sideSum r0 x1 x2 Q σ) : W p l e R s m args below meth c H locs cells slots QW (F0 m 0 ls []) := by
  have hx := S.1.1
  have hb := S.1.2.1
  unfold m_10_sideSum at hf
  refine lv_iconst (v := (0 : Int32)) hx hb d_10_sideSum_0 (by decide) ?_
  refine lv_istore_n (lv' := [(3, .int (0 : Int32)), (0, .ref (ad r0)), (1, .int x1), (2, .int x2)]) hx hb d_10_sideSum_1 rfl hl (by decide) rfl (fun ls hl => ?_)
  refine lv_iconst (v := (0 : Int32)) hx hb d_10_sideSum_2 (by decide) ?_
  refine lv_istore (lv' := [(4, .int (0 : Int32)), (3, .int (0 : Int32)), (0, .ref (ad r0)), (1, .int x1), (2, .int x2)]) hx hb d_10_sideSum_3 hl (by decide) rfl (fun ls hl => ?_)
  exact lp_10_sideSum_5 S hR hk_r0  FU _ _ _ _ _ _  hG (lv_sub hl [2, 3, 4, 1, 0] rfl) hf
theorem c_10_sideSum (l : Launch) {D : va_G} {ac : Nat → ClassId} {ad st : Nat → Nat} {A : Nat → Prop} {σ : St} {r0 : Nat} {x1 : Int32} {x2 : Int32} {Q : Int32 → St → Prop} (hk_r0 : kd r0 = 10) (hf : m_10_sideSum r0 x1 x2 Q σ) : Met l y_10_sideSum (Cond.code y_10_sideSum prog_12_method_14_code 5 (some .int) :: wA) { frames := 2, cells := 0, slots := 0, locals := 45 } (va_Pc [.ref (ad r0), .int x1, .int x2] (GSt A D ac ad st σ)) (va_Qi Q (GSt A D ac ad st) A) 0 0 A :=
  mkI l (by decide +kernel) rfl [.ref (ad r0), .int x1, .int x2] (Nat.le_of_ble_eq_true rfl) (fun p e s m args below meth c ls QW S hR hG hl => w_10_sideSum_0 S hR hk_r0 hG hl hf)
set_option maxHeartbeats 4000000 in
set_option maxRecDepth 100000 in
theorem w_10_books_0 {r0 : Nat} {x1 : Int32} {x2 : Int32} {Q : St → Prop} {σ : St} {H : Heap} {locs : List Loc} {ls : Array Slot} (S : SC A D ac st p m c prog_12_method_15_code 3 s args "SweeperRoundsModel" R cells slots 0 0) (hR : RtV A D ac ad p l e R s m args below meth c prog_12_method_15_code cells slots QW Q) (hk_r0 : kd r0 = 10) (hG : DG A D ac ad s σ H locs) (hl : lv_has ls 3 [(0, .ref (ad r0)), (1, .int x1), (2, .int x2)]) (hf : m_10_books r0 x1 x2 Q σ) : W p l e R s m args below meth c H locs cells slots QW (F0 m 0 ls []) := by
  have hx := S.1.1
  have hb := S.1.2.1
  unfold m_10_books at hf
  refine lv_aload_n hx hb d_10_books_0 rfl (lv_at hl 0 rfl) ?_
  refine gf_10_7 S hG hk_r0 d_10_books_1 ?_
  refine lv_sipush (v := (556 : Int32)) hx hb d_10_books_4 (by decide) ?_
  refine lv_iload_n hx hb d_10_books_7 rfl (lv_at hl 1 rfl) ?_
  refine lv_iadd hx hb d_10_books_8 ?_
  refine lv_dup2_11 hx hb d_10_books_9 rfl rfl ?_
  refine mia S hG 30 rfl rfl (kr_10_0 hk_r0) hf.1 d_10_books_10 ?_
  have hf := hf.2
  refine lv_iload_n hx hb d_10_books_11 rfl (lv_at hl 2 rfl) ?_
  refine lv_iadd hx hb d_10_books_12 ?_
  refine mis S hG 30 rfl rfl (kr_10_0 hk_r0) hf.1 d_10_books_13 (fun σ_1 eσ_1 H locs hG => ?_)
  have hf := hf.2 σ_1 eσ_1
  exact hR _ _ _ _ _ hG hf d_10_books_14
theorem c_10_books (l : Launch) {D : va_G} {ac : Nat → ClassId} {ad st : Nat → Nat} {A : Nat → Prop} {σ : St} {r0 : Nat} {x1 : Int32} {x2 : Int32} {Q : St → Prop} (hk_r0 : kd r0 = 10) (hf : m_10_books r0 x1 x2 Q σ) : Met l y_10_books (Cond.code y_10_books prog_12_method_15_code 3 none :: wA) { frames := 0, cells := 0, slots := 0, locals := 0 } (va_Pc [.ref (ad r0), .int x1, .int x2] (GSt A D ac ad st σ)) (va_Qv Q (GSt A D ac ad st) A) 0 0 A :=
  mkV l (by decide +kernel) rfl [.ref (ad r0), .int x1, .int x2] (Nat.le_of_ble_eq_true rfl) (fun p e s m args below meth c ls QW S hR hG hl => w_10_books_0 S hR hk_r0 hG hl hf)
set_option maxHeartbeats 4000000 in
set_option maxRecDepth 100000 in
theorem w_10_empties_3 {r0 : Nat} {x1 : Int32} {x2 : Int32} {x3 : Int32} {x4 : Int32} {Q : St → Prop} {B3 : Int32 → St → Prop} {x5 : Int32} {σ : St} {H : Heap} {locs : List Loc} {ls : Array Slot} (S : SC A D ac st p m c prog_12_method_16_code 6 s args "SweeperRoundsModel" R cells slots 1 23) (hR : RtV A D ac ad p l e R s m args below meth c prog_12_method_16_code cells slots QW Q) (hk_r0 : kd r0 = 10) (hB3 : ∀ (x5 : Int32) (σ : St) (H : Heap) (locs : List Loc) (ls : Array Slot), DG A D ac ad s σ H locs → lv_has ls 6 [(0, .ref (ad r0)), (1, .int x1), (2, .int x2), (3, .int x3), (4, .int x4), (5, .int x5)] → B3 x5 σ → W p l e R s m args below meth c H locs cells slots QW (F0 m 3 ls [])) (hG : DG A D ac ad s σ H locs) (hl : lv_has ls 6 [(0, .ref (ad r0)), (1, .int x1), (2, .int x2), (3, .int x3), (4, .int x4), (5, .int x5)]) (hf : m_10_empties_3 r0 x1 x2 x3 x4 Q B3 x5 σ) : W p l e R s m args below meth c H locs cells slots QW (F0 m 3 ls []) := by
  have hx := S.1.1
  have hb := S.1.2.1
  unfold m_10_empties_3 at hf
  refine lv_iload hx hb d_10_empties_3 (lv_at hl 5 rfl) ?_
  refine lv_bipush (v := (83 : Int32)) hx hb d_10_empties_5 (by decide) ?_
  refine lv_icmp_ge (tgt := 24) hx hb d_10_empties_7 (by decide) (fun hc => ?_) (fun hc => ?_)
  · have hf := hf.1 hc
    refine lv_aload_n hx hb d_10_empties_24 rfl (lv_at hl 0 rfl) ?_
    refine lv_iload_n hx hb d_10_empties_25 rfl (lv_at hl 1 rfl) ?_
    refine lv_iconst (v := (0 : Int32)) hx hb d_10_empties_26 (by decide) ?_
    refine lv_iload_n hx hb d_10_empties_27 rfl (lv_at hl 2 rfl) ?_
    refine iv_10_52 S hl.1 hG hk_r0 (c_10_sets l hk_r0 hf) ⟨Nat.le_of_ble_eq_true rfl, Nat.le_of_ble_eq_true rfl⟩ (Nat.le_of_ble_eq_true rfl) d_10_empties_28 (fun σ_1 hf H locs hG => ?_)
    refine lv_aload_n hx hb d_10_empties_31 rfl (lv_at hl 0 rfl) ?_
    refine lv_iload_n hx hb d_10_empties_32 rfl (lv_at hl 1 rfl) ?_
    refine lv_iconst (v := (1 : Int32)) hx hb d_10_empties_33 (by decide) ?_
    refine lv_iload_n hx hb d_10_empties_34 rfl (lv_at hl 3 rfl) ?_
    refine iv_10_52 S hl.1 hG hk_r0 (c_10_sets l hk_r0 hf) ⟨Nat.le_of_ble_eq_true rfl, Nat.le_of_ble_eq_true rfl⟩ (Nat.le_of_ble_eq_true rfl) d_10_empties_35 (fun σ_3 hf H locs hG => ?_)
    refine lv_aload_n hx hb d_10_empties_38 rfl (lv_at hl 0 rfl) ?_
    refine lv_iload_n hx hb d_10_empties_39 rfl (lv_at hl 1 rfl) ?_
    refine lv_iconst (v := (2 : Int32)) hx hb d_10_empties_40 (by decide) ?_
    refine lv_iload hx hb d_10_empties_41 (lv_at hl 4 rfl) ?_
    refine iv_10_52 S hl.1 hG hk_r0 (c_10_sets l hk_r0 hf) ⟨Nat.le_of_ble_eq_true rfl, Nat.le_of_ble_eq_true rfl⟩ (Nat.le_of_ble_eq_true rfl) d_10_empties_43 (fun σ_5 hf H locs hG => ?_)
    exact hR _ _ _ _ _ hG hf d_10_empties_46
  · have hf := hf.2 hc
    refine lv_aload_n hx hb d_10_empties_10 rfl (lv_at hl 0 rfl) ?_
    refine lv_iload_n hx hb d_10_empties_11 rfl (lv_at hl 1 rfl) ?_
    refine lv_iload hx hb d_10_empties_12 (lv_at hl 5 rfl) ?_
    refine lv_iconst (v := (0 : Int32)) hx hb d_10_empties_14 (by decide) ?_
    refine iv_10_52 S hl.1 hG hk_r0 (c_10_sets l hk_r0 hf) ⟨Nat.le_of_ble_eq_true rfl, Nat.le_of_ble_eq_true rfl⟩ (Nat.le_of_ble_eq_true rfl) d_10_empties_15 (fun σ_7 hf H locs hG => ?_)
    obtain ⟨x5_9, ex5_9⟩ : ∃ y : Int32, y = x5 + 1 := ⟨_, rfl⟩
    have hf := hf x5_9 ex5_9
    refine lv_iinc (v := x5_9) (lv' := [(5, .int x5_9), (0, .ref (ad r0)), (1, .int x1), (2, .int x2), (3, .int x3), (4, .int x4)]) hx hb d_10_empties_18 hl (k := 5) rfl (by rw [ex5_9]; rfl) (by decide) rfl (fun ls hl => ?_)
    refine lv_goto (tgt := 3) hx hb d_10_empties_21 (by decide) ?_
    exact hB3 _ _ _ _ _  hG (lv_sub hl [1, 2, 3, 4, 5, 0] rfl) hf
set_option maxHeartbeats 4000000 in
set_option maxRecDepth 100000 in
theorem lp_10_empties_3 {r0 : Nat} {x1 : Int32} {x2 : Int32} {x3 : Int32} {x4 : Int32} {Q : St → Prop} (S : SC A D ac st p m c prog_12_method_16_code 6 s args "SweeperRoundsModel" R cells slots 1 23) (hR : RtV A D ac ad p l e R s m args below meth c prog_12_method_16_code cells slots QW Q) (hk_r0 : kd r0 = 10) : ∀ (n : Nat) (x5 : Int32) (σ : St) (H : Heap) (locs : List Loc) (ls : Array Slot), DG A D ac ad s σ H locs → lv_has ls 6 [(0, .ref (ad r0)), (1, .int x1), (2, .int x2), (3, .int x3), (4, .int x4), (5, .int x5)] → itN (m_10_empties_3 r0 x1 x2 x3 x4 Q) (fun _ _ => False) n x5 σ → W p l e R s m args below meth c H locs cells slots QW (F0 m 3 ls []) := by
  intro n
  induction n with
  | zero =>
    intro x5 σ H locs ls  hG hl hf
    exact hf.elim
  | succ n ih =>
    intro x5 σ H locs ls  hG hl hf
    exact w_10_empties_3 S hR hk_r0  ih hG hl hf
set_option maxHeartbeats 4000000 in
set_option maxRecDepth 100000 in
theorem w_10_empties_0 {r0 : Nat} {x1 : Int32} {x2 : Int32} {x3 : Int32} {x4 : Int32} {Q : St → Prop} {σ : St} {H : Heap} {locs : List Loc} {ls : Array Slot} (S : SC A D ac st p m c prog_12_method_16_code 6 s args "SweeperRoundsModel" R cells slots 1 23) (hR : RtV A D ac ad p l e R s m args below meth c prog_12_method_16_code cells slots QW Q) (hk_r0 : kd r0 = 10) (hG : DG A D ac ad s σ H locs) (hl : lv_has ls 6 [(0, .ref (ad r0)), (1, .int x1), (2, .int x2), (3, .int x3), (4, .int x4)]) (hf : m_10_empties r0 x1 x2 x3 x4 Q σ) : W p l e R s m args below meth c H locs cells slots QW (F0 m 0 ls []) := by
  have hx := S.1.1
  have hb := S.1.2.1
  unfold m_10_empties at hf
  refine lv_iconst (v := (0 : Int32)) hx hb d_10_empties_0 (by decide) ?_
  refine lv_istore (lv' := [(5, .int (0 : Int32)), (0, .ref (ad r0)), (1, .int x1), (2, .int x2), (3, .int x3), (4, .int x4)]) hx hb d_10_empties_1 hl (by decide) rfl (fun ls hl => ?_)
  exact lp_10_empties_3 S hR hk_r0  FU _ _ _ _ _  hG (lv_sub hl [1, 2, 3, 4, 5, 0] rfl) hf
theorem c_10_empties (l : Launch) {D : va_G} {ac : Nat → ClassId} {ad st : Nat → Nat} {A : Nat → Prop} {σ : St} {r0 : Nat} {x1 : Int32} {x2 : Int32} {x3 : Int32} {x4 : Int32} {Q : St → Prop} (hk_r0 : kd r0 = 10) (hf : m_10_empties r0 x1 x2 x3 x4 Q σ) : Met l y_10_empties (Cond.code y_10_empties prog_12_method_16_code 6 none :: wA) { frames := 1, cells := 0, slots := 0, locals := 23 } (va_Pc [.ref (ad r0), .int x1, .int x2, .int x3, .int x4] (GSt A D ac ad st σ)) (va_Qv Q (GSt A D ac ad st) A) 0 0 A :=
  mkV l (by decide +kernel) rfl [.ref (ad r0), .int x1, .int x2, .int x3, .int x4] (Nat.le_of_ble_eq_true rfl) (fun p e s m args below meth c ls QW S hR hG hl => w_10_empties_0 S hR hk_r0 hG hl hf)
set_option maxHeartbeats 4000000 in
set_option maxRecDepth 100000 in
theorem w_10_addStreet_0 {r0 : Nat} {x1 : Int32} {x2 : Int32} {x3 : Int32} {Q : Int32 → St → Prop} {σ : St} {H : Heap} {locs : List Loc} {ls : Array Slot} (S : SC A D ac st p m c prog_12_method_17_code 4 s args "SweeperRoundsModel" R cells slots 2 48) (hR : RtI A D ac ad p l e R s m args below meth c prog_12_method_17_code cells slots QW Q) (hk_r0 : kd r0 = 10) (hG : DG A D ac ad s σ H locs) (hl : lv_has ls 4 [(0, .ref (ad r0)), (1, .int x1), (2, .int x2), (3, .int x3)]) (hf : m_10_addStreet r0 x1 x2 x3 Q σ) : W p l e R s m args below meth c H locs cells slots QW (F0 m 0 ls []) := by
  have hx := S.1.1
  have hb := S.1.2.1
  unfold m_10_addStreet at hf
  refine lv_iload_n hx hb d_10_addStreet_0 rfl (lv_at hl 1 rfl) ?_
  refine lv_iconst (v := (1 : Int32)) hx hb d_10_addStreet_1 (by decide) ?_
  refine lv_bipush (v := (20 : Int32)) hx hb d_10_addStreet_2 (by decide) ?_
  refine iv_10_40 S hl.1 hG  (c_10_in l  hf) ⟨Nat.le_of_ble_eq_true rfl, Nat.le_of_ble_eq_true rfl⟩ (Nat.le_of_ble_eq_true rfl) d_10_addStreet_4 (fun v_2 σ_1 hf H locs hG => ?_)
  refine lv_if_eq (tgt := 30) hx hb d_10_addStreet_7 (by decide) (fun hc => ?_) (fun hc => ?_)
  · have hf := hf.1 hc
    refine lv_iconst (v := (-1 : Int32)) hx hb d_10_addStreet_30 (by decide) ?_
    exact hR _ _ _ _ _ _ hG hf d_10_addStreet_31
  · have hf := hf.2 hc
    refine lv_iload_n hx hb d_10_addStreet_10 rfl (lv_at hl 2 rfl) ?_
    refine lv_iconst (v := (0 : Int32)) hx hb d_10_addStreet_11 (by decide) ?_
    refine lv_bipush (v := (60 : Int32)) hx hb d_10_addStreet_12 (by decide) ?_
    refine iv_10_40 S hl.1 hG  (c_10_in l  hf) ⟨Nat.le_of_ble_eq_true rfl, Nat.le_of_ble_eq_true rfl⟩ (Nat.le_of_ble_eq_true rfl) d_10_addStreet_14 (fun v_4 σ_3 hf H locs hG => ?_)
    refine lv_if_eq (tgt := 30) hx hb d_10_addStreet_17 (by decide) (fun hc => ?_) (fun hc => ?_)
    · have hf := hf.1 hc
      refine lv_iconst (v := (-1 : Int32)) hx hb d_10_addStreet_30 (by decide) ?_
      exact hR _ _ _ _ _ _ hG hf d_10_addStreet_31
    · have hf := hf.2 hc
      refine lv_iload_n hx hb d_10_addStreet_20 rfl (lv_at hl 3 rfl) ?_
      refine lv_iconst (v := (0 : Int32)) hx hb d_10_addStreet_21 (by decide) ?_
      refine lv_bipush (v := (9 : Int32)) hx hb d_10_addStreet_22 (by decide) ?_
      refine iv_10_40 S hl.1 hG  (c_10_in l  hf) ⟨Nat.le_of_ble_eq_true rfl, Nat.le_of_ble_eq_true rfl⟩ (Nat.le_of_ble_eq_true rfl) d_10_addStreet_24 (fun v_6 σ_5 hf H locs hG => ?_)
      refine lv_if_ne (tgt := 32) hx hb d_10_addStreet_27 (by decide) (fun hc => ?_) (fun hc => ?_)
      · have hf := hf.1 hc
        refine lv_aload_n hx hb d_10_addStreet_32 rfl (lv_at hl 0 rfl) ?_
        refine gf_10_7 S hG hk_r0 d_10_addStreet_33 ?_
        refine lv_iconst (v := (0 : Int32)) hx hb d_10_addStreet_36 (by decide) ?_
        refine mia S hG 30 rfl rfl (kr_10_0 hk_r0) hf.1 d_10_addStreet_37 ?_
        have hf := hf.2
        refine lv_bipush (v := (6 : Int32)) hx hb d_10_addStreet_38 (by decide) ?_
        refine lv_icmp_ne (tgt := 46) hx hb d_10_addStreet_40 (by decide) (fun hc => ?_) (fun hc => ?_)
        · have hf := hf.1 hc
          refine lv_aload_n hx hb d_10_addStreet_46 rfl (lv_at hl 0 rfl) ?_
          refine iv_10_56 S hl.1 hG hk_r0 (c_10_records l hk_r0 hf) ⟨Nat.le_of_ble_eq_true rfl, Nat.le_of_ble_eq_true rfl⟩ (Nat.le_of_ble_eq_true rfl) d_10_addStreet_47 (fun σ_7 hf H locs hG => ?_)
          refine lv_aload_n hx hb d_10_addStreet_50 rfl (lv_at hl 0 rfl) ?_
          refine gf_10_7 S hG hk_r0 d_10_addStreet_51 ?_
          refine lv_sipush (v := (548 : Int32)) hx hb d_10_addStreet_54 (by decide) ?_
          refine lv_iconst (v := (0 : Int32)) hx hb d_10_addStreet_57 (by decide) ?_
          refine mis S hG 30 rfl rfl (kr_10_0 hk_r0) hf.1 d_10_addStreet_58 (fun σ_9 eσ_9 H locs hG => ?_)
          have hf := hf.2 σ_9 eσ_9
          refine lv_aload_n hx hb d_10_addStreet_59 rfl (lv_at hl 0 rfl) ?_
          refine lv_aload_n hx hb d_10_addStreet_60 rfl (lv_at hl 0 rfl) ?_
          refine gf_10_7 S hG hk_r0 d_10_addStreet_61 ?_
          refine lv_iconst (v := (0 : Int32)) hx hb d_10_addStreet_64 (by decide) ?_
          refine mia S hG 30 rfl rfl (kr_10_0 hk_r0) hf.1 d_10_addStreet_65 ?_
          have hf := hf.2
          refine lv_iload_n hx hb d_10_addStreet_66 rfl (lv_at hl 1 rfl) ?_
          refine lv_iload_n hx hb d_10_addStreet_67 rfl (lv_at hl 2 rfl) ?_
          refine lv_iload_n hx hb d_10_addStreet_68 rfl (lv_at hl 3 rfl) ?_
          refine iv_10_59 S hl.1 hG hk_r0 (c_10_empties l hk_r0 hf) ⟨Nat.le_of_ble_eq_true rfl, Nat.le_of_ble_eq_true rfl⟩ (Nat.le_of_ble_eq_true rfl) d_10_addStreet_69 (fun σ_10 hf H locs hG => ?_)
          refine lv_aload_n hx hb d_10_addStreet_72 rfl (lv_at hl 0 rfl) ?_
          refine gf_10_7 S hG hk_r0 d_10_addStreet_73 ?_
          refine lv_iconst (v := (0 : Int32)) hx hb d_10_addStreet_76 (by decide) ?_
          refine lv_dup2_11 hx hb d_10_addStreet_77 rfl rfl ?_
          refine mia S hG 30 rfl rfl (kr_10_0 hk_r0) hf.1 d_10_addStreet_78 ?_
          have hf := hf.2
          refine lv_iconst (v := (1 : Int32)) hx hb d_10_addStreet_79 (by decide) ?_
          refine lv_iadd hx hb d_10_addStreet_80 ?_
          refine mis S hG 30 rfl rfl (kr_10_0 hk_r0) hf.1 d_10_addStreet_81 (fun σ_12 eσ_12 H locs hG => ?_)
          have hf := hf.2 σ_12 eσ_12
          refine lv_aload_n hx hb d_10_addStreet_82 rfl (lv_at hl 0 rfl) ?_
          refine gf_10_7 S hG hk_r0 d_10_addStreet_83 ?_
          refine lv_iconst (v := (0 : Int32)) hx hb d_10_addStreet_86 (by decide) ?_
          refine mia S hG 30 rfl rfl (kr_10_0 hk_r0) hf.1 d_10_addStreet_87 ?_
          have hf := hf.2
          refine lv_iconst (v := (1 : Int32)) hx hb d_10_addStreet_88 (by decide) ?_
          refine lv_isub hx hb d_10_addStreet_89 ?_
          exact hR _ _ _ _ _ _ hG hf d_10_addStreet_90
        · have hf := hf.2 hc
          refine lv_bipush (v := (-3 : Int32)) hx hb d_10_addStreet_43 (by decide) ?_
          exact hR _ _ _ _ _ _ hG hf d_10_addStreet_45
      · have hf := hf.2 hc
        refine lv_iconst (v := (-1 : Int32)) hx hb d_10_addStreet_30 (by decide) ?_
        exact hR _ _ _ _ _ _ hG hf d_10_addStreet_31
theorem c_10_addStreet (l : Launch) {D : va_G} {ac : Nat → ClassId} {ad st : Nat → Nat} {A : Nat → Prop} {σ : St} {r0 : Nat} {x1 : Int32} {x2 : Int32} {x3 : Int32} {Q : Int32 → St → Prop} (hk_r0 : kd r0 = 10) (hf : m_10_addStreet r0 x1 x2 x3 Q σ) : Met l y_10_addStreet (Cond.code y_10_addStreet prog_12_method_17_code 4 (some .int) :: wA) { frames := 2, cells := 0, slots := 0, locals := 48 } (va_Pc [.ref (ad r0), .int x1, .int x2, .int x3] (GSt A D ac ad st σ)) (va_Qi Q (GSt A D ac ad st) A) 0 0 A :=
  mkI l (by decide +kernel) rfl [.ref (ad r0), .int x1, .int x2, .int x3] (Nat.le_of_ble_eq_true rfl) (fun p e s m args below meth c ls QW S hR hG hl => w_10_addStreet_0 S hR hk_r0 hG hl hf)
set_option maxHeartbeats 4000000 in
set_option maxRecDepth 100000 in
theorem w_10_legOf_0 {r0 : Nat} {x1 : Int32} {x2 : Int32} {Q : Int32 → St → Prop} {σ : St} {H : Heap} {locs : List Loc} {ls : Array Slot} (S : SC A D ac st p m c prog_12_method_18_code 3 s args "SweeperRoundsModel" R cells slots 0 0) (hR : RtI A D ac ad p l e R s m args below meth c prog_12_method_18_code cells slots QW Q) (hk_r0 : kd r0 = 10) (hG : DG A D ac ad s σ H locs) (hl : lv_has ls 3 [(0, .ref (ad r0)), (1, .int x1), (2, .int x2)]) (hf : m_10_legOf r0 x1 x2 Q σ) : W p l e R s m args below meth c H locs cells slots QW (F0 m 0 ls []) := by
  have hx := S.1.1
  have hb := S.1.2.1
  unfold m_10_legOf at hf
  refine lv_aload_n hx hb d_10_legOf_0 rfl (lv_at hl 0 rfl) ?_
  refine gf_10_7 S hG hk_r0 d_10_legOf_1 ?_
  refine lv_sipush (v := (508 : Int32)) hx hb d_10_legOf_4 (by decide) ?_
  refine lv_iconst (v := (4 : Int32)) hx hb d_10_legOf_7 (by decide) ?_
  refine lv_iload_n hx hb d_10_legOf_8 rfl (lv_at hl 1 rfl) ?_
  refine lv_imul hx hb d_10_legOf_9 ?_
  refine lv_iadd hx hb d_10_legOf_10 ?_
  refine lv_iload_n hx hb d_10_legOf_11 rfl (lv_at hl 2 rfl) ?_
  refine lv_iadd hx hb d_10_legOf_12 ?_
  refine mia S hG 30 rfl rfl (kr_10_0 hk_r0) hf.1 d_10_legOf_13 ?_
  have hf := hf.2
  exact hR _ _ _ _ _ _ hG hf d_10_legOf_14
theorem c_10_legOf (l : Launch) {D : va_G} {ac : Nat → ClassId} {ad st : Nat → Nat} {A : Nat → Prop} {σ : St} {r0 : Nat} {x1 : Int32} {x2 : Int32} {Q : Int32 → St → Prop} (hk_r0 : kd r0 = 10) (hf : m_10_legOf r0 x1 x2 Q σ) : Met l y_10_legOf (Cond.code y_10_legOf prog_12_method_18_code 3 (some .int) :: wA) { frames := 0, cells := 0, slots := 0, locals := 0 } (va_Pc [.ref (ad r0), .int x1, .int x2] (GSt A D ac ad st σ)) (va_Qi Q (GSt A D ac ad st) A) 0 0 A :=
  mkI l (by decide +kernel) rfl [.ref (ad r0), .int x1, .int x2] (Nat.le_of_ble_eq_true rfl) (fun p e s m args below meth c ls QW S hR hG hl => w_10_legOf_0 S hR hk_r0 hG hl hf)
set_option maxHeartbeats 4000000 in
set_option maxRecDepth 100000 in
theorem w_10_dropStreet_154 {r0 : Nat} {x1 : Int32} {x2 : Int32} {x3 : Int32} {B98 : Int32 → Int32 → St → Prop} {Q : Int32 → St → Prop} {t0 : Int32} {t1 : Int32} {t2 : Nat} {σ : St} {H : Heap} {locs : List Loc} {ls : Array Slot} (S : SC A D ac st p m c prog_12_method_19_code 5 s args "SweeperRoundsModel" R cells slots 3 69) (hR : RtI A D ac ad p l e R s m args below meth c prog_12_method_19_code cells slots QW Q) (hk_r0 : kd r0 = 10) (hk_t2 : kd t2 = 30) (hB98 : ∀ (x2 : Int32) (x3 : Int32) (σ : St) (H : Heap) (locs : List Loc) (ls : Array Slot), DG A D ac ad s σ H locs → lv_has ls 5 [(0, .ref (ad r0)), (1, .int x1), (2, .int x2), (3, .int x3)] → B98 x2 x3 σ → W p l e R s m args below meth c H locs cells slots QW (F0 m 98 ls [])) (hG : DG A D ac ad s σ H locs) (hl : lv_has ls 5 [(0, .ref (ad r0)), (1, .int x1), (2, .int x2), (3, .int x3)]) (hf : m_10_dropStreet_154 r0 x1 x2 x3 B98 Q t0 t1 t2 σ) : W p l e R s m args below meth c H locs cells slots QW (F0 m 154 ls [.int t0, .int t1, .ref (ad t2)]) := by
  have hx := S.1.1
  have hb := S.1.2.1
  unfold m_10_dropStreet_154 at hf
  refine mis S hG 30 rfl rfl hk_t2 hf.1 d_10_dropStreet_154 (fun σ_1 eσ_1 H locs hG => ?_)
  have hf := hf.2 σ_1 eσ_1
  refine lv_aload_n hx hb d_10_dropStreet_155 rfl (lv_at hl 0 rfl) ?_
  refine gf_10_7 S hG hk_r0 d_10_dropStreet_156 ?_
  refine lv_sipush (v := (508 : Int32)) hx hb d_10_dropStreet_159 (by decide) ?_
  refine lv_iconst (v := (4 : Int32)) hx hb d_10_dropStreet_162 (by decide) ?_
  refine lv_iload_n hx hb d_10_dropStreet_163 rfl (lv_at hl 2 rfl) ?_
  refine lv_imul hx hb d_10_dropStreet_164 ?_
  refine lv_iadd hx hb d_10_dropStreet_165 ?_
  refine lv_iconst (v := (1 : Int32)) hx hb d_10_dropStreet_166 (by decide) ?_
  refine lv_iadd hx hb d_10_dropStreet_167 ?_
  refine lv_aload_n hx hb d_10_dropStreet_168 rfl (lv_at hl 0 rfl) ?_
  refine lv_iload_n hx hb d_10_dropStreet_169 rfl (lv_at hl 3 rfl) ?_
  refine lv_iconst (v := (1 : Int32)) hx hb d_10_dropStreet_170 (by decide) ?_
  refine iv_10_69 S hl.1 hG hk_r0 (c_10_legOf l hk_r0 hf) ⟨Nat.le_of_ble_eq_true rfl, Nat.le_of_ble_eq_true rfl⟩ (Nat.le_of_ble_eq_true rfl) d_10_dropStreet_171 (fun v_3 σ_2 hf H locs hG => ?_)
  refine mis S hG 30 rfl rfl (kr_10_0 hk_r0) hf.1 d_10_dropStreet_174 (fun σ_4 eσ_4 H locs hG => ?_)
  have hf := hf.2 σ_4 eσ_4
  obtain ⟨x2_5, ex2_5⟩ : ∃ y : Int32, y = x2 + 1 := ⟨_, rfl⟩
  have hf := hf x2_5 ex2_5
  refine lv_iinc (v := x2_5) (lv' := [(2, .int x2_5), (0, .ref (ad r0)), (1, .int x1), (3, .int x3)]) hx hb d_10_dropStreet_175 hl (k := 2) rfl (by rw [ex2_5]; rfl) (by decide) rfl (fun ls hl => ?_)
  obtain ⟨x3_6, ex3_6⟩ : ∃ y : Int32, y = x3 + 1 := ⟨_, rfl⟩
  have hf := hf x3_6 ex3_6
  refine lv_iinc (v := x3_6) (lv' := [(3, .int x3_6), (2, .int x2_5), (0, .ref (ad r0)), (1, .int x1)]) hx hb d_10_dropStreet_178 hl (k := 3) rfl (by rw [ex3_6]; rfl) (by decide) rfl (fun ls hl => ?_)
  refine lv_goto (tgt := 98) hx hb d_10_dropStreet_181 (by decide) ?_
  exact hB98 _ _ _ _ _ _  hG (lv_sub hl [2, 3, 1, 0] rfl) hf
set_option maxHeartbeats 4000000 in
set_option maxRecDepth 100000 in
theorem w_10_dropStreet_98 {r0 : Nat} {x1 : Int32} {Q : Int32 → St → Prop} {B98 : Int32 → Int32 → St → Prop} {x2 : Int32} {x3 : Int32} {σ : St} {H : Heap} {locs : List Loc} {ls : Array Slot} (S : SC A D ac st p m c prog_12_method_19_code 5 s args "SweeperRoundsModel" R cells slots 3 69) (hR : RtI A D ac ad p l e R s m args below meth c prog_12_method_19_code cells slots QW Q) (hk_r0 : kd r0 = 10) (hB98 : ∀ (x2 : Int32) (x3 : Int32) (σ : St) (H : Heap) (locs : List Loc) (ls : Array Slot), DG A D ac ad s σ H locs → lv_has ls 5 [(0, .ref (ad r0)), (1, .int x1), (2, .int x2), (3, .int x3)] → B98 x2 x3 σ → W p l e R s m args below meth c H locs cells slots QW (F0 m 98 ls [])) (hG : DG A D ac ad s σ H locs) (hl : lv_has ls 5 [(0, .ref (ad r0)), (1, .int x1), (2, .int x2), (3, .int x3)]) (hf : m_10_dropStreet_98 r0 x1 Q B98 x2 x3 σ) : W p l e R s m args below meth c H locs cells slots QW (F0 m 98 ls []) := by
  have hx := S.1.1
  have hb := S.1.2.1
  unfold m_10_dropStreet_98 at hf
  refine lv_iload_n hx hb d_10_dropStreet_98 rfl (lv_at hl 3 rfl) ?_
  refine lv_aload_n hx hb d_10_dropStreet_99 rfl (lv_at hl 0 rfl) ?_
  refine gf_10_7 S hG hk_r0 d_10_dropStreet_100 ?_
  refine lv_sipush (v := (507 : Int32)) hx hb d_10_dropStreet_103 (by decide) ?_
  refine mia S hG 30 rfl rfl (kr_10_0 hk_r0) hf.1 d_10_dropStreet_106 ?_
  have hf := hf.2
  refine lv_icmp_ge (tgt := 184) hx hb d_10_dropStreet_107 (by decide) (fun hc => ?_) (fun hc => ?_)
  · have hf := hf.1 hc
    refine lv_aload_n hx hb d_10_dropStreet_184 rfl (lv_at hl 0 rfl) ?_
    refine gf_10_7 S hG hk_r0 d_10_dropStreet_185 ?_
    refine lv_sipush (v := (507 : Int32)) hx hb d_10_dropStreet_188 (by decide) ?_
    refine lv_iload_n hx hb d_10_dropStreet_191 rfl (lv_at hl 2 rfl) ?_
    refine mis S hG 30 rfl rfl (kr_10_0 hk_r0) hf.1 d_10_dropStreet_192 (fun σ_1 eσ_1 H locs hG => ?_)
    have hf := hf.2 σ_1 eσ_1
    refine lv_iload_n hx hb d_10_dropStreet_193 rfl (lv_at hl 2 rfl) ?_
    exact hR _ _ _ _ _ _ hG hf d_10_dropStreet_194
  · have hf := hf.2 hc
    refine lv_aload_n hx hb d_10_dropStreet_110 rfl (lv_at hl 0 rfl) ?_
    refine lv_iload_n hx hb d_10_dropStreet_111 rfl (lv_at hl 3 rfl) ?_
    refine lv_iconst (v := (0 : Int32)) hx hb d_10_dropStreet_112 (by decide) ?_
    refine iv_10_69 S hl.1 hG hk_r0 (c_10_legOf l hk_r0 hf) ⟨Nat.le_of_ble_eq_true rfl, Nat.le_of_ble_eq_true rfl⟩ (Nat.le_of_ble_eq_true rfl) d_10_dropStreet_113 (fun v_3 σ_2 hf H locs hG => ?_)
    refine lv_iload_n hx hb d_10_dropStreet_116 rfl (lv_at hl 1 rfl) ?_
    refine lv_icmp_eq (tgt := 178) hx hb d_10_dropStreet_117 (by decide) (fun hc => ?_) (fun hc => ?_)
    · have hf := hf.1 hc
      obtain ⟨x3_4, ex3_4⟩ : ∃ y : Int32, y = x3 + 1 := ⟨_, rfl⟩
      have hf := hf x3_4 ex3_4
      refine lv_iinc (v := x3_4) (lv' := [(3, .int x3_4), (0, .ref (ad r0)), (1, .int x1), (2, .int x2)]) hx hb d_10_dropStreet_178 hl (k := 3) rfl (by rw [ex3_4]; rfl) (by decide) rfl (fun ls hl => ?_)
      refine lv_goto (tgt := 98) hx hb d_10_dropStreet_181 (by decide) ?_
      exact hB98 _ _ _ _ _ _  hG (lv_sub hl [1, 2, 3, 0] rfl) hf
    · have hf := hf.2 hc
      refine lv_aload_n hx hb d_10_dropStreet_120 rfl (lv_at hl 0 rfl) ?_
      refine lv_iload_n hx hb d_10_dropStreet_121 rfl (lv_at hl 3 rfl) ?_
      refine lv_iconst (v := (0 : Int32)) hx hb d_10_dropStreet_122 (by decide) ?_
      refine iv_10_69 S hl.1 hG hk_r0 (c_10_legOf l hk_r0 hf) ⟨Nat.le_of_ble_eq_true rfl, Nat.le_of_ble_eq_true rfl⟩ (Nat.le_of_ble_eq_true rfl) d_10_dropStreet_123 (fun v_6 σ_5 hf H locs hG => ?_)
      refine lv_istore (lv' := [(4, .int v_6), (0, .ref (ad r0)), (1, .int x1), (2, .int x2), (3, .int x3)]) hx hb d_10_dropStreet_126 hl (by decide) rfl (fun ls hl => ?_)
      refine lv_aload_n hx hb d_10_dropStreet_128 rfl (lv_at hl 1 rfl) ?_
      refine gf_10_7 S hG hk_r0 d_10_dropStreet_129 ?_
      refine lv_sipush (v := (508 : Int32)) hx hb d_10_dropStreet_132 (by decide) ?_
      refine lv_iconst (v := (4 : Int32)) hx hb d_10_dropStreet_135 (by decide) ?_
      refine lv_iload_n hx hb d_10_dropStreet_136 rfl (lv_at hl 3 rfl) ?_
      refine lv_imul hx hb d_10_dropStreet_137 ?_
      refine lv_iadd hx hb d_10_dropStreet_138 ?_
      refine lv_iload hx hb d_10_dropStreet_139 (lv_at hl 0 rfl) ?_
      refine lv_iload_n hx hb d_10_dropStreet_141 rfl (lv_at hl 2 rfl) ?_
      refine lv_icmp_le (tgt := 152) hx hb d_10_dropStreet_142 (by decide) (fun hc => ?_) (fun hc => ?_)
      · have hf := hf.1 hc
        refine lv_iload hx hb d_10_dropStreet_152 (lv_at hl 0 rfl) ?_
        exact w_10_dropStreet_154 S hR hk_r0  (kr_10_0 hk_r0) hB98 hG (lv_sub hl [1, 2, 3, 4] rfl) hf
      · have hf := hf.2 hc
        refine lv_iload hx hb d_10_dropStreet_145 (lv_at hl 0 rfl) ?_
        refine lv_iconst (v := (1 : Int32)) hx hb d_10_dropStreet_147 (by decide) ?_
        refine lv_isub hx hb d_10_dropStreet_148 ?_
        refine lv_goto (tgt := 154) hx hb d_10_dropStreet_149 (by decide) ?_
        exact w_10_dropStreet_154 S hR hk_r0  (kr_10_0 hk_r0) hB98 hG (lv_sub hl [1, 2, 3, 4] rfl) hf
set_option maxHeartbeats 4000000 in
set_option maxRecDepth 100000 in
theorem lp_10_dropStreet_98 {r0 : Nat} {x1 : Int32} {Q : Int32 → St → Prop} (S : SC A D ac st p m c prog_12_method_19_code 5 s args "SweeperRoundsModel" R cells slots 3 69) (hR : RtI A D ac ad p l e R s m args below meth c prog_12_method_19_code cells slots QW Q) (hk_r0 : kd r0 = 10) : ∀ (n : Nat) (x2 : Int32) (x3 : Int32) (σ : St) (H : Heap) (locs : List Loc) (ls : Array Slot), DG A D ac ad s σ H locs → lv_has ls 5 [(0, .ref (ad r0)), (1, .int x1), (2, .int x2), (3, .int x3)] → itN (m_10_dropStreet_98 r0 x1 Q) (fun _ _ _ => False) n x2 x3 σ → W p l e R s m args below meth c H locs cells slots QW (F0 m 98 ls []) := by
  intro n
  induction n with
  | zero =>
    intro x2 x3 σ H locs ls  hG hl hf
    exact hf.elim
  | succ n ih =>
    intro x2 x3 σ H locs ls  hG hl hf
    exact w_10_dropStreet_98 S hR hk_r0  ih hG hl hf
set_option maxHeartbeats 4000000 in
set_option maxRecDepth 100000 in
theorem w_10_dropStreet_58 {r0 : Nat} {x1 : Int32} {Q : Int32 → St → Prop} {B58 : Int32 → St → Prop} {x2 : Int32} {σ : St} {H : Heap} {locs : List Loc} {ls : Array Slot} (S : SC A D ac st p m c prog_12_method_19_code 5 s args "SweeperRoundsModel" R cells slots 3 69) (hR : RtI A D ac ad p l e R s m args below meth c prog_12_method_19_code cells slots QW Q) (hk_r0 : kd r0 = 10) (hB58 : ∀ (x2 : Int32) (σ : St) (H : Heap) (locs : List Loc) (ls : Array Slot), DG A D ac ad s σ H locs → lv_has ls 5 [(0, .ref (ad r0)), (1, .int x1), (2, .int x2)] → B58 x2 σ → W p l e R s m args below meth c H locs cells slots QW (F0 m 58 ls [])) (hG : DG A D ac ad s σ H locs) (hl : lv_has ls 5 [(0, .ref (ad r0)), (1, .int x1), (2, .int x2)]) (hf : m_10_dropStreet_58 r0 x1 Q B58 x2 σ) : W p l e R s m args below meth c H locs cells slots QW (F0 m 58 ls []) := by
  have hx := S.1.1
  have hb := S.1.2.1
  unfold m_10_dropStreet_58 at hf
  refine lv_iload_n hx hb d_10_dropStreet_58 rfl (lv_at hl 2 rfl) ?_
  refine lv_iconst (v := (1 : Int32)) hx hb d_10_dropStreet_59 (by decide) ?_
  refine lv_bipush (v := (83 : Int32)) hx hb d_10_dropStreet_60 (by decide) ?_
  refine lv_aload_n hx hb d_10_dropStreet_62 rfl (lv_at hl 0 rfl) ?_
  refine gf_10_7 S hG hk_r0 d_10_dropStreet_63 ?_
  refine lv_iconst (v := (0 : Int32)) hx hb d_10_dropStreet_66 (by decide) ?_
  refine mia S hG 30 rfl rfl (kr_10_0 hk_r0) hf.1 d_10_dropStreet_67 ?_
  have hf := hf.2
  refine lv_imul hx hb d_10_dropStreet_68 ?_
  refine lv_iadd hx hb d_10_dropStreet_69 ?_
  refine lv_icmp_ge (tgt := 94) hx hb d_10_dropStreet_70 (by decide) (fun hc => ?_) (fun hc => ?_)
  · have hf := hf.1 hc
    refine lv_iconst (v := (0 : Int32)) hx hb d_10_dropStreet_94 (by decide) ?_
    refine lv_istore_n (lv' := [(2, .int (0 : Int32)), (0, .ref (ad r0)), (1, .int x1)]) hx hb d_10_dropStreet_95 rfl hl (by decide) rfl (fun ls hl => ?_)
    refine lv_iconst (v := (0 : Int32)) hx hb d_10_dropStreet_96 (by decide) ?_
    refine lv_istore_n (lv' := [(3, .int (0 : Int32)), (2, .int (0 : Int32)), (0, .ref (ad r0)), (1, .int x1)]) hx hb d_10_dropStreet_97 rfl hl (by decide) rfl (fun ls hl => ?_)
    exact lp_10_dropStreet_98 S hR hk_r0  FU _ _ _ _ _ _  hG (lv_sub hl [2, 3, 1, 0] rfl) hf
  · have hf := hf.2 hc
    refine lv_aload_n hx hb d_10_dropStreet_73 rfl (lv_at hl 0 rfl) ?_
    refine gf_10_7 S hG hk_r0 d_10_dropStreet_74 ?_
    refine lv_iload_n hx hb d_10_dropStreet_77 rfl (lv_at hl 2 rfl) ?_
    refine lv_aload_n hx hb d_10_dropStreet_78 rfl (lv_at hl 0 rfl) ?_
    refine gf_10_7 S hG hk_r0 d_10_dropStreet_79 ?_
    refine lv_iload_n hx hb d_10_dropStreet_82 rfl (lv_at hl 2 rfl) ?_
    refine lv_bipush (v := (83 : Int32)) hx hb d_10_dropStreet_83 (by decide) ?_
    refine lv_iadd hx hb d_10_dropStreet_85 ?_
    refine mia S hG 30 rfl rfl (kr_10_0 hk_r0) hf.1 d_10_dropStreet_86 ?_
    have hf := hf.2
    refine mis S hG 30 rfl rfl (kr_10_0 hk_r0) hf.1 d_10_dropStreet_87 (fun σ_1 eσ_1 H locs hG => ?_)
    have hf := hf.2 σ_1 eσ_1
    obtain ⟨x2_2, ex2_2⟩ : ∃ y : Int32, y = x2 + 1 := ⟨_, rfl⟩
    have hf := hf x2_2 ex2_2
    refine lv_iinc (v := x2_2) (lv' := [(2, .int x2_2), (0, .ref (ad r0)), (1, .int x1)]) hx hb d_10_dropStreet_88 hl (k := 2) rfl (by rw [ex2_2]; rfl) (by decide) rfl (fun ls hl => ?_)
    refine lv_goto (tgt := 58) hx hb d_10_dropStreet_91 (by decide) ?_
    exact hB58 _ _ _ _ _  hG (lv_sub hl [1, 2, 0] rfl) hf
set_option maxHeartbeats 4000000 in
set_option maxRecDepth 100000 in
theorem lp_10_dropStreet_58 {r0 : Nat} {x1 : Int32} {Q : Int32 → St → Prop} (S : SC A D ac st p m c prog_12_method_19_code 5 s args "SweeperRoundsModel" R cells slots 3 69) (hR : RtI A D ac ad p l e R s m args below meth c prog_12_method_19_code cells slots QW Q) (hk_r0 : kd r0 = 10) : ∀ (n : Nat) (x2 : Int32) (σ : St) (H : Heap) (locs : List Loc) (ls : Array Slot), DG A D ac ad s σ H locs → lv_has ls 5 [(0, .ref (ad r0)), (1, .int x1), (2, .int x2)] → itN (m_10_dropStreet_58 r0 x1 Q) (fun _ _ => False) n x2 σ → W p l e R s m args below meth c H locs cells slots QW (F0 m 58 ls []) := by
  intro n
  induction n with
  | zero =>
    intro x2 σ H locs ls  hG hl hf
    exact hf.elim
  | succ n ih =>
    intro x2 σ H locs ls  hG hl hf
    exact w_10_dropStreet_58 S hR hk_r0  ih hG hl hf
set_option maxHeartbeats 4000000 in
set_option maxRecDepth 100000 in
theorem w_10_dropStreet_0 {r0 : Nat} {x1 : Int32} {Q : Int32 → St → Prop} {σ : St} {H : Heap} {locs : List Loc} {ls : Array Slot} (S : SC A D ac st p m c prog_12_method_19_code 5 s args "SweeperRoundsModel" R cells slots 3 69) (hR : RtI A D ac ad p l e R s m args below meth c prog_12_method_19_code cells slots QW Q) (hk_r0 : kd r0 = 10) (hG : DG A D ac ad s σ H locs) (hl : lv_has ls 5 [(0, .ref (ad r0)), (1, .int x1)]) (hf : m_10_dropStreet r0 x1 Q σ) : W p l e R s m args below meth c H locs cells slots QW (F0 m 0 ls []) := by
  have hx := S.1.1
  have hb := S.1.2.1
  unfold m_10_dropStreet at hf
  refine lv_aload_n hx hb d_10_dropStreet_0 rfl (lv_at hl 0 rfl) ?_
  refine lv_iload_n hx hb d_10_dropStreet_1 rfl (lv_at hl 1 rfl) ?_
  refine iv_10_44 S hl.1 hG hk_r0 (c_10_isStreet l hk_r0 hf) ⟨Nat.le_of_ble_eq_true rfl, Nat.le_of_ble_eq_true rfl⟩ (Nat.le_of_ble_eq_true rfl) d_10_dropStreet_2 (fun v_2 σ_1 hf H locs hG => ?_)
  refine lv_if_ne (tgt := 10) hx hb d_10_dropStreet_5 (by decide) (fun hc => ?_) (fun hc => ?_)
  · have hf := hf.1 hc
    refine lv_aload_n hx hb d_10_dropStreet_10 rfl (lv_at hl 0 rfl) ?_
    refine iv_10_56 S hl.1 hG hk_r0 (c_10_records l hk_r0 hf) ⟨Nat.le_of_ble_eq_true rfl, Nat.le_of_ble_eq_true rfl⟩ (Nat.le_of_ble_eq_true rfl) d_10_dropStreet_11 (fun σ_3 hf H locs hG => ?_)
    refine lv_aload_n hx hb d_10_dropStreet_14 rfl (lv_at hl 0 rfl) ?_
    refine gf_10_7 S hG hk_r0 d_10_dropStreet_15 ?_
    refine lv_sipush (v := (548 : Int32)) hx hb d_10_dropStreet_18 (by decide) ?_
    refine lv_iconst (v := (0 : Int32)) hx hb d_10_dropStreet_21 (by decide) ?_
    refine mis S hG 30 rfl rfl (kr_10_0 hk_r0) hf.1 d_10_dropStreet_22 (fun σ_5 eσ_5 H locs hG => ?_)
    have hf := hf.2 σ_5 eσ_5
    refine lv_aload_n hx hb d_10_dropStreet_23 rfl (lv_at hl 0 rfl) ?_
    refine lv_iconst (v := (2 : Int32)) hx hb d_10_dropStreet_24 (by decide) ?_
    refine lv_aload_n hx hb d_10_dropStreet_25 rfl (lv_at hl 0 rfl) ?_
    refine lv_iload_n hx hb d_10_dropStreet_26 rfl (lv_at hl 1 rfl) ?_
    refine lv_iconst (v := (0 : Int32)) hx hb d_10_dropStreet_27 (by decide) ?_
    refine iv_10_63 S hl.1 hG hk_r0 (c_10_sideSum l hk_r0 hf) ⟨Nat.le_of_ble_eq_true rfl, Nat.le_of_ble_eq_true rfl⟩ (Nat.le_of_ble_eq_true rfl) d_10_dropStreet_28 (fun v_7 σ_6 hf H locs hG => ?_)
    refine lv_aload_n hx hb d_10_dropStreet_31 rfl (lv_at hl 0 rfl) ?_
    refine lv_iload_n hx hb d_10_dropStreet_32 rfl (lv_at hl 1 rfl) ?_
    refine lv_iconst (v := (1 : Int32)) hx hb d_10_dropStreet_33 (by decide) ?_
    refine iv_10_63 S hl.1 hG hk_r0 (c_10_sideSum l hk_r0 hf) ⟨Nat.le_of_ble_eq_true rfl, Nat.le_of_ble_eq_true rfl⟩ (Nat.le_of_ble_eq_true rfl) d_10_dropStreet_34 (fun v_9 σ_8 hf H locs hG => ?_)
    refine lv_iadd hx hb d_10_dropStreet_37 ?_
    refine iv_10_66 S hl.1 hG hk_r0 (c_10_books l hk_r0 hf) ⟨Nat.le_of_ble_eq_true rfl, Nat.le_of_ble_eq_true rfl⟩ (Nat.le_of_ble_eq_true rfl) d_10_dropStreet_38 (fun σ_10 hf H locs hG => ?_)
    refine lv_aload_n hx hb d_10_dropStreet_41 rfl (lv_at hl 0 rfl) ?_
    refine gf_10_7 S hG hk_r0 d_10_dropStreet_42 ?_
    refine lv_iconst (v := (0 : Int32)) hx hb d_10_dropStreet_45 (by decide) ?_
    refine lv_dup2_11 hx hb d_10_dropStreet_46 rfl rfl ?_
    refine mia S hG 30 rfl rfl (kr_10_0 hk_r0) hf.1 d_10_dropStreet_47 ?_
    have hf := hf.2
    refine lv_iconst (v := (1 : Int32)) hx hb d_10_dropStreet_48 (by decide) ?_
    refine lv_isub hx hb d_10_dropStreet_49 ?_
    refine mis S hG 30 rfl rfl (kr_10_0 hk_r0) hf.1 d_10_dropStreet_50 (fun σ_12 eσ_12 H locs hG => ?_)
    have hf := hf.2 σ_12 eσ_12
    refine lv_iconst (v := (1 : Int32)) hx hb d_10_dropStreet_51 (by decide) ?_
    refine lv_bipush (v := (83 : Int32)) hx hb d_10_dropStreet_52 (by decide) ?_
    refine lv_iload_n hx hb d_10_dropStreet_54 rfl (lv_at hl 1 rfl) ?_
    refine lv_imul hx hb d_10_dropStreet_55 ?_
    refine lv_iadd hx hb d_10_dropStreet_56 ?_
    refine lv_topi (fun x2_13 ex2_13 => ?_)
    have hf := hf x2_13 ex2_13
    refine lv_istore_n (lv' := [(2, .int x2_13), (0, .ref (ad r0)), (1, .int x1)]) hx hb d_10_dropStreet_57 rfl hl (by decide) rfl (fun ls hl => ?_)
    exact lp_10_dropStreet_58 S hR hk_r0  FU _ _ _ _ _  hG (lv_sub hl [1, 2, 0] rfl) hf
  · have hf := hf.2 hc
    refine lv_iconst (v := (-1 : Int32)) hx hb d_10_dropStreet_8 (by decide) ?_
    exact hR _ _ _ _ _ _ hG hf d_10_dropStreet_9
theorem c_10_dropStreet (l : Launch) {D : va_G} {ac : Nat → ClassId} {ad st : Nat → Nat} {A : Nat → Prop} {σ : St} {r0 : Nat} {x1 : Int32} {Q : Int32 → St → Prop} (hk_r0 : kd r0 = 10) (hf : m_10_dropStreet r0 x1 Q σ) : Met l y_10_dropStreet (Cond.code y_10_dropStreet prog_12_method_19_code 5 (some .int) :: wA) { frames := 3, cells := 0, slots := 0, locals := 69 } (va_Pc [.ref (ad r0), .int x1] (GSt A D ac ad st σ)) (va_Qi Q (GSt A D ac ad st) A) 0 0 A :=
  mkI l (by decide +kernel) rfl [.ref (ad r0), .int x1] (Nat.le_of_ble_eq_true rfl) (fun p e s m args below meth c ls QW S hR hG hl => w_10_dropStreet_0 S hR hk_r0 hG hl hf)
set_option maxHeartbeats 4000000 in
set_option maxRecDepth 100000 in
theorem w_10_lay_83 {x5 : Int32} {Q : Int32 → St → Prop} {t0 : Int32} {t1 : Int32} {t2 : Nat} {σ : St} {H : Heap} {locs : List Loc} {ls : Array Slot} (S : SC A D ac st p m c prog_12_method_20_code 6 s args "SweeperRoundsModel" R cells slots 3 66) (hR : RtI A D ac ad p l e R s m args below meth c prog_12_method_20_code cells slots QW Q) (hk_t2 : kd t2 = 10) (hG : DG A D ac ad s σ H locs) (hl : lv_has ls 6 [(5, .int x5)]) (hf : m_10_lay_83 x5 Q t0 t1 t2 σ) : W p l e R s m args below meth c H locs cells slots QW (F0 m 83 ls [.int t0, .int t1, .ref (ad t2)]) := by
  have hx := S.1.1
  have hb := S.1.2.1
  unfold m_10_lay_83 at hf
  refine iv_10_66 S hl.1 hG hk_t2 (c_10_books l hk_t2 hf) ⟨Nat.le_of_ble_eq_true rfl, Nat.le_of_ble_eq_true rfl⟩ (Nat.le_of_ble_eq_true rfl) d_10_lay_83 (fun σ_1 hf H locs hG => ?_)
  refine lv_iload hx hb d_10_lay_86 (lv_at hl 0 rfl) ?_
  exact hR _ _ _ _ _ _ hG hf d_10_lay_88
set_option maxHeartbeats 4000000 in
set_option maxRecDepth 100000 in
theorem w_10_lay_63 {x4 : Int32} {x5 : Int32} {Q : Int32 → St → Prop} {t0 : Int32} {t1 : Nat} {σ : St} {H : Heap} {locs : List Loc} {ls : Array Slot} (S : SC A D ac st p m c prog_12_method_20_code 6 s args "SweeperRoundsModel" R cells slots 3 66) (hR : RtI A D ac ad p l e R s m args below meth c prog_12_method_20_code cells slots QW Q) (hk_t1 : kd t1 = 10) (hG : DG A D ac ad s σ H locs) (hl : lv_has ls 6 [(4, .int x4), (5, .int x5)]) (hf : m_10_lay_63 x4 x5 Q t0 t1 σ) : W p l e R s m args below meth c H locs cells slots QW (F0 m 63 ls [.int t0, .ref (ad t1)]) := by
  have hx := S.1.1
  have hb := S.1.2.1
  unfold m_10_lay_63 at hf
  refine lv_iload hx hb d_10_lay_63 (lv_at hl 0 rfl) ?_
  refine lv_iload hx hb d_10_lay_65 (lv_at hl 1 rfl) ?_
  refine lv_icmp_le (tgt := 78) hx hb d_10_lay_67 (by decide) (fun hc => ?_) (fun hc => ?_)
  · have hf := hf.1 hc
    refine lv_iload hx hb d_10_lay_78 (lv_at hl 1 rfl) ?_
    refine lv_iload hx hb d_10_lay_80 (lv_at hl 0 rfl) ?_
    refine lv_isub hx hb d_10_lay_82 ?_
    exact w_10_lay_83 S hR   hk_t1  hG (lv_sub hl [1] rfl) hf
  · have hf := hf.2 hc
    refine lv_iload hx hb d_10_lay_70 (lv_at hl 0 rfl) ?_
    refine lv_iload hx hb d_10_lay_72 (lv_at hl 1 rfl) ?_
    refine lv_isub hx hb d_10_lay_74 ?_
    refine lv_goto (tgt := 83) hx hb d_10_lay_75 (by decide) ?_
    exact w_10_lay_83 S hR   hk_t1  hG (lv_sub hl [1] rfl) hf
set_option maxHeartbeats 4000000 in
set_option maxRecDepth 100000 in
theorem w_10_lay_0 {r0 : Nat} {x1 : Int32} {x2 : Int32} {x3 : Int32} {x4 : Int32} {Q : Int32 → St → Prop} {σ : St} {H : Heap} {locs : List Loc} {ls : Array Slot} (S : SC A D ac st p m c prog_12_method_20_code 6 s args "SweeperRoundsModel" R cells slots 3 66) (hR : RtI A D ac ad p l e R s m args below meth c prog_12_method_20_code cells slots QW Q) (hk_r0 : kd r0 = 10) (hG : DG A D ac ad s σ H locs) (hl : lv_has ls 6 [(0, .ref (ad r0)), (1, .int x1), (2, .int x2), (3, .int x3), (4, .int x4)]) (hf : m_10_lay r0 x1 x2 x3 x4 Q σ) : W p l e R s m args below meth c H locs cells slots QW (F0 m 0 ls []) := by
  have hx := S.1.1
  have hb := S.1.2.1
  unfold m_10_lay at hf
  refine lv_aload_n hx hb d_10_lay_0 rfl (lv_at hl 0 rfl) ?_
  refine lv_iload_n hx hb d_10_lay_1 rfl (lv_at hl 1 rfl) ?_
  refine lv_iload_n hx hb d_10_lay_2 rfl (lv_at hl 2 rfl) ?_
  refine lv_iload_n hx hb d_10_lay_3 rfl (lv_at hl 3 rfl) ?_
  refine iv_10_72 S hl.1 hG hk_r0 (c_10_isCell l hk_r0 hf) ⟨Nat.le_of_ble_eq_true rfl, Nat.le_of_ble_eq_true rfl⟩ (Nat.le_of_ble_eq_true rfl) d_10_lay_4 (fun v_2 σ_1 hf H locs hG => ?_)
  refine lv_if_eq (tgt := 21) hx hb d_10_lay_7 (by decide) (fun hc => ?_) (fun hc => ?_)
  · have hf := hf.1 hc
    refine lv_iconst (v := (-1 : Int32)) hx hb d_10_lay_21 (by decide) ?_
    exact hR _ _ _ _ _ _ hG hf d_10_lay_22
  · have hf := hf.2 hc
    refine lv_iload hx hb d_10_lay_10 (lv_at hl 4 rfl) ?_
    refine lv_iconst (v := (0 : Int32)) hx hb d_10_lay_12 (by decide) ?_
    refine lv_bipush (v := (99 : Int32)) hx hb d_10_lay_13 (by decide) ?_
    refine iv_10_40 S hl.1 hG  (c_10_in l  hf) ⟨Nat.le_of_ble_eq_true rfl, Nat.le_of_ble_eq_true rfl⟩ (Nat.le_of_ble_eq_true rfl) d_10_lay_15 (fun v_4 σ_3 hf H locs hG => ?_)
    refine lv_if_ne (tgt := 23) hx hb d_10_lay_18 (by decide) (fun hc => ?_) (fun hc => ?_)
    · have hf := hf.1 hc
      refine lv_aload_n hx hb d_10_lay_23 rfl (lv_at hl 0 rfl) ?_
      refine iv_10_56 S hl.1 hG hk_r0 (c_10_records l hk_r0 hf) ⟨Nat.le_of_ble_eq_true rfl, Nat.le_of_ble_eq_true rfl⟩ (Nat.le_of_ble_eq_true rfl) d_10_lay_24 (fun σ_5 hf H locs hG => ?_)
      refine lv_aload_n hx hb d_10_lay_27 rfl (lv_at hl 0 rfl) ?_
      refine lv_iload_n hx hb d_10_lay_28 rfl (lv_at hl 1 rfl) ?_
      refine lv_iload_n hx hb d_10_lay_29 rfl (lv_at hl 2 rfl) ?_
      refine lv_iload_n hx hb d_10_lay_30 rfl (lv_at hl 3 rfl) ?_
      refine iv_10_48 S hl.1 hG hk_r0 (c_10_dirtOf l hk_r0 hf) ⟨Nat.le_of_ble_eq_true rfl, Nat.le_of_ble_eq_true rfl⟩ (Nat.le_of_ble_eq_true rfl) d_10_lay_31 (fun v_8 σ_7 hf H locs hG => ?_)
      refine lv_istore (lv' := [(5, .int v_8), (0, .ref (ad r0)), (1, .int x1), (2, .int x2), (3, .int x3), (4, .int x4)]) hx hb d_10_lay_34 hl (by decide) rfl (fun ls hl => ?_)
      refine lv_aload_n hx hb d_10_lay_36 rfl (lv_at hl 1 rfl) ?_
      refine lv_iload_n hx hb d_10_lay_37 rfl (lv_at hl 2 rfl) ?_
      refine lv_iconst (v := (3 : Int32)) hx hb d_10_lay_38 (by decide) ?_
      refine lv_iload_n hx hb d_10_lay_39 rfl (lv_at hl 3 rfl) ?_
      refine lv_iload_n hx hb d_10_lay_40 rfl (lv_at hl 4 rfl) ?_
      refine iv_10_33 S hl.1 hG  (c_10_placeOf l  hf) ⟨Nat.le_of_ble_eq_true rfl, Nat.le_of_ble_eq_true rfl⟩ (Nat.le_of_ble_eq_true rfl) d_10_lay_41 (fun v_10 σ_9 hf H locs hG => ?_)
      refine lv_iadd hx hb d_10_lay_44 ?_
      refine lv_iload hx hb d_10_lay_45 (lv_at hl 5 rfl) ?_
      refine iv_10_52 S hl.1 hG hk_r0 (c_10_sets l hk_r0 hf) ⟨Nat.le_of_ble_eq_true rfl, Nat.le_of_ble_eq_true rfl⟩ (Nat.le_of_ble_eq_true rfl) d_10_lay_47 (fun σ_11 hf H locs hG => ?_)
      refine lv_aload_n hx hb d_10_lay_50 rfl (lv_at hl 1 rfl) ?_
      refine lv_iload hx hb d_10_lay_51 (lv_at hl 5 rfl) ?_
      refine lv_iload hx hb d_10_lay_53 (lv_at hl 0 rfl) ?_
      refine lv_icmp_le (tgt := 62) hx hb d_10_lay_55 (by decide) (fun hc => ?_) (fun hc => ?_)
      · have hf := hf.1 hc
        refine lv_iconst (v := (2 : Int32)) hx hb d_10_lay_62 (by decide) ?_
        exact w_10_lay_63 S hR   hk_r0  hG (lv_sub hl [5, 0] rfl) hf
      · have hf := hf.2 hc
        refine lv_iconst (v := (0 : Int32)) hx hb d_10_lay_58 (by decide) ?_
        refine lv_goto (tgt := 63) hx hb d_10_lay_59 (by decide) ?_
        exact w_10_lay_63 S hR   hk_r0  hG (lv_sub hl [5, 0] rfl) hf
    · have hf := hf.2 hc
      refine lv_iconst (v := (-1 : Int32)) hx hb d_10_lay_21 (by decide) ?_
      exact hR _ _ _ _ _ _ hG hf d_10_lay_22
theorem c_10_lay (l : Launch) {D : va_G} {ac : Nat → ClassId} {ad st : Nat → Nat} {A : Nat → Prop} {σ : St} {r0 : Nat} {x1 : Int32} {x2 : Int32} {x3 : Int32} {x4 : Int32} {Q : Int32 → St → Prop} (hk_r0 : kd r0 = 10) (hf : m_10_lay r0 x1 x2 x3 x4 Q σ) : Met l y_10_lay (Cond.code y_10_lay prog_12_method_20_code 6 (some .int) :: wA) { frames := 3, cells := 0, slots := 0, locals := 66 } (va_Pc [.ref (ad r0), .int x1, .int x2, .int x3, .int x4] (GSt A D ac ad st σ)) (va_Qi Q (GSt A D ac ad st) A) 0 0 A :=
  mkI l (by decide +kernel) rfl [.ref (ad r0), .int x1, .int x2, .int x3, .int x4] (Nat.le_of_ble_eq_true rfl) (fun p e s m args below meth c ls QW S hR hG hl => w_10_lay_0 S hR hk_r0 hG hl hf)
set_option maxHeartbeats 4000000 in
set_option maxRecDepth 100000 in
theorem w_10_park_51 {x5 : Int32} {Q : Int32 → St → Prop} {t0 : Int32} {t1 : Int32} {t2 : Int32} {t3 : Nat} {σ : St} {H : Heap} {locs : List Loc} {ls : Array Slot} (S : SC A D ac st p m c prog_12_method_21_code 6 s args "SweeperRoundsModel" R cells slots 3 66) (hR : RtI A D ac ad p l e R s m args below meth c prog_12_method_21_code cells slots QW Q) (hk_t3 : kd t3 = 10) (hG : DG A D ac ad s σ H locs) (hl : lv_has ls 6 [(5, .int x5)]) (hf : m_10_park_51 x5 Q t0 t1 t2 t3 σ) : W p l e R s m args below meth c H locs cells slots QW (F0 m 51 ls [.int t0, .int t1, .int t2, .ref (ad t3)]) := by
  have hx := S.1.1
  have hb := S.1.2.1
  unfold m_10_park_51 at hf
  refine iv_10_52 S hl.1 hG hk_t3 (c_10_sets l hk_t3 hf) ⟨Nat.le_of_ble_eq_true rfl, Nat.le_of_ble_eq_true rfl⟩ (Nat.le_of_ble_eq_true rfl) d_10_park_51 (fun σ_1 hf H locs hG => ?_)
  refine lv_iload hx hb d_10_park_54 (lv_at hl 0 rfl) ?_
  exact hR _ _ _ _ _ _ hG hf d_10_park_56
set_option maxHeartbeats 4000000 in
set_option maxRecDepth 100000 in
theorem w_10_park_0 {r0 : Nat} {x1 : Int32} {x2 : Int32} {x3 : Int32} {x4 : Int32} {Q : Int32 → St → Prop} {σ : St} {H : Heap} {locs : List Loc} {ls : Array Slot} (S : SC A D ac st p m c prog_12_method_21_code 6 s args "SweeperRoundsModel" R cells slots 3 66) (hR : RtI A D ac ad p l e R s m args below meth c prog_12_method_21_code cells slots QW Q) (hk_r0 : kd r0 = 10) (hG : DG A D ac ad s σ H locs) (hl : lv_has ls 6 [(0, .ref (ad r0)), (1, .int x1), (2, .int x2), (3, .int x3), (4, .int x4)]) (hf : m_10_park r0 x1 x2 x3 x4 Q σ) : W p l e R s m args below meth c H locs cells slots QW (F0 m 0 ls []) := by
  have hx := S.1.1
  have hb := S.1.2.1
  unfold m_10_park at hf
  refine lv_aload_n hx hb d_10_park_0 rfl (lv_at hl 0 rfl) ?_
  refine lv_iload_n hx hb d_10_park_1 rfl (lv_at hl 1 rfl) ?_
  refine lv_iload_n hx hb d_10_park_2 rfl (lv_at hl 2 rfl) ?_
  refine lv_iload_n hx hb d_10_park_3 rfl (lv_at hl 3 rfl) ?_
  refine iv_10_72 S hl.1 hG hk_r0 (c_10_isCell l hk_r0 hf) ⟨Nat.le_of_ble_eq_true rfl, Nat.le_of_ble_eq_true rfl⟩ (Nat.le_of_ble_eq_true rfl) d_10_park_4 (fun v_2 σ_1 hf H locs hG => ?_)
  refine lv_if_ne (tgt := 12) hx hb d_10_park_7 (by decide) (fun hc => ?_) (fun hc => ?_)
  · have hf := hf.1 hc
    refine lv_aload_n hx hb d_10_park_12 rfl (lv_at hl 0 rfl) ?_
    refine iv_10_56 S hl.1 hG hk_r0 (c_10_records l hk_r0 hf) ⟨Nat.le_of_ble_eq_true rfl, Nat.le_of_ble_eq_true rfl⟩ (Nat.le_of_ble_eq_true rfl) d_10_park_13 (fun σ_3 hf H locs hG => ?_)
    refine lv_aload_n hx hb d_10_park_16 rfl (lv_at hl 0 rfl) ?_
    refine lv_iload_n hx hb d_10_park_17 rfl (lv_at hl 1 rfl) ?_
    refine lv_bipush (v := (43 : Int32)) hx hb d_10_park_18 (by decide) ?_
    refine lv_iload_n hx hb d_10_park_20 rfl (lv_at hl 2 rfl) ?_
    refine lv_iload_n hx hb d_10_park_21 rfl (lv_at hl 3 rfl) ?_
    refine iv_10_33 S hl.1 hG  (c_10_placeOf l  hf) ⟨Nat.le_of_ble_eq_true rfl, Nat.le_of_ble_eq_true rfl⟩ (Nat.le_of_ble_eq_true rfl) d_10_park_22 (fun v_6 σ_5 hf H locs hG => ?_)
    refine lv_iadd hx hb d_10_park_25 ?_
    refine iv_10_37 S hl.1 hG hk_r0 (c_10_of l hk_r0 hf) ⟨Nat.le_of_ble_eq_true rfl, Nat.le_of_ble_eq_true rfl⟩ (Nat.le_of_ble_eq_true rfl) d_10_park_26 (fun v_8 σ_7 hf H locs hG => ?_)
    refine lv_istore (lv' := [(5, .int v_8), (0, .ref (ad r0)), (1, .int x1), (2, .int x2), (3, .int x3), (4, .int x4)]) hx hb d_10_park_29 hl (by decide) rfl (fun ls hl => ?_)
    refine lv_aload_n hx hb d_10_park_31 rfl (lv_at hl 1 rfl) ?_
    refine lv_iload_n hx hb d_10_park_32 rfl (lv_at hl 2 rfl) ?_
    refine lv_bipush (v := (43 : Int32)) hx hb d_10_park_33 (by decide) ?_
    refine lv_iload_n hx hb d_10_park_35 rfl (lv_at hl 3 rfl) ?_
    refine lv_iload_n hx hb d_10_park_36 rfl (lv_at hl 4 rfl) ?_
    refine iv_10_33 S hl.1 hG  (c_10_placeOf l  hf) ⟨Nat.le_of_ble_eq_true rfl, Nat.le_of_ble_eq_true rfl⟩ (Nat.le_of_ble_eq_true rfl) d_10_park_37 (fun v_10 σ_9 hf H locs hG => ?_)
    refine lv_iadd hx hb d_10_park_40 ?_
    refine lv_iload hx hb d_10_park_41 (lv_at hl 5 rfl) ?_
    refine lv_if_eq (tgt := 50) hx hb d_10_park_43 (by decide) (fun hc => ?_) (fun hc => ?_)
    · have hf := hf.1 hc
      refine lv_iconst (v := (0 : Int32)) hx hb d_10_park_50 (by decide) ?_
      exact w_10_park_51 S hR   hk_r0  hG (lv_sub hl [0] rfl) hf
    · have hf := hf.2 hc
      refine lv_iconst (v := (1 : Int32)) hx hb d_10_park_46 (by decide) ?_
      refine lv_goto (tgt := 51) hx hb d_10_park_47 (by decide) ?_
      exact w_10_park_51 S hR   hk_r0  hG (lv_sub hl [0] rfl) hf
  · have hf := hf.2 hc
    refine lv_iconst (v := (-1 : Int32)) hx hb d_10_park_10 (by decide) ?_
    exact hR _ _ _ _ _ _ hG hf d_10_park_11
theorem c_10_park (l : Launch) {D : va_G} {ac : Nat → ClassId} {ad st : Nat → Nat} {A : Nat → Prop} {σ : St} {r0 : Nat} {x1 : Int32} {x2 : Int32} {x3 : Int32} {x4 : Int32} {Q : Int32 → St → Prop} (hk_r0 : kd r0 = 10) (hf : m_10_park r0 x1 x2 x3 x4 Q σ) : Met l y_10_park (Cond.code y_10_park prog_12_method_21_code 6 (some .int) :: wA) { frames := 3, cells := 0, slots := 0, locals := 66 } (va_Pc [.ref (ad r0), .int x1, .int x2, .int x3, .int x4] (GSt A D ac ad st σ)) (va_Qi Q (GSt A D ac ad st) A) 0 0 A :=
  mkI l (by decide +kernel) rfl [.ref (ad r0), .int x1, .int x2, .int x3, .int x4] (Nat.le_of_ble_eq_true rfl) (fun p e s m args below meth c ls QW S hR hG hl => w_10_park_0 S hR hk_r0 hG hl hf)
end MB
