theorem d_10_mixes_0 : decode prog_12_method_75_code 0 = .ok (.aload_n 0, 1) := by decide +kernel
theorem d_10_mixes_1 : decode prog_12_method_75_code 1 = .ok (.ldc2_w 204, 3) := by decide +kernel
theorem d_10_mixes_4 : decode prog_12_method_75_code 4 = .ok (.aload_n 0, 1) := by decide +kernel
theorem d_10_mixes_5 : decode prog_12_method_75_code 5 = .ok (.getfield 206, 3) := by decide +kernel
theorem d_10_mixes_8 : decode prog_12_method_75_code 8 = .ok (.lmul, 1) := by decide +kernel
theorem d_10_mixes_9 : decode prog_12_method_75_code 9 = .ok (.iload_n 1, 1) := by decide +kernel
theorem d_10_mixes_10 : decode prog_12_method_75_code 10 = .ok (.i2l, 1) := by decide +kernel
theorem d_10_mixes_11 : decode prog_12_method_75_code 11 = .ok (.ladd, 1) := by decide +kernel
theorem d_10_mixes_12 : decode prog_12_method_75_code 12 = .ok (.putfield 206, 3) := by decide +kernel
theorem d_10_mixes_15 : decode prog_12_method_75_code 15 = .ok (.return_, 1) := by decide +kernel
def m_10_mixes (r0 : Nat) (x1 : Int32) (Q : St → Prop) (σ : St) : Prop :=
  ∀ σ_1 : St, σ_1 = wrL σ (((31 : Int64) * σ.2) + (x1).toInt64) → Q σ_1
theorem d_10_mixesStreet_0 : decode prog_12_method_76_code 0 = .ok (.iconst 0, 1) := by decide +kernel
theorem d_10_mixesStreet_1 : decode prog_12_method_76_code 1 = .ok (.istore_n 2, 1) := by decide +kernel
theorem d_10_mixesStreet_2 : decode prog_12_method_76_code 2 = .ok (.iload_n 2, 1) := by decide +kernel
theorem d_10_mixesStreet_3 : decode prog_12_method_76_code 3 = .ok (.bipush 8, 2) := by decide +kernel
theorem d_10_mixesStreet_5 : decode prog_12_method_76_code 5 = .ok (.if_icmp .ge 19, 3) := by decide +kernel
theorem d_10_mixesStreet_8 : decode prog_12_method_76_code 8 = .ok (.aload_n 0, 1) := by decide +kernel
theorem d_10_mixesStreet_9 : decode prog_12_method_76_code 9 = .ok (.aload_n 0, 1) := by decide +kernel
theorem d_10_mixesStreet_10 : decode prog_12_method_76_code 10 = .ok (.iload_n 1, 1) := by decide +kernel
theorem d_10_mixesStreet_11 : decode prog_12_method_76_code 11 = .ok (.iload_n 2, 1) := by decide +kernel
theorem d_10_mixesStreet_12 : decode prog_12_method_76_code 12 = .ok (.invokevirtual 210, 3) := by decide +kernel
theorem d_10_mixesStreet_15 : decode prog_12_method_76_code 15 = .ok (.invokevirtual 213, 3) := by decide +kernel
theorem d_10_mixesStreet_18 : decode prog_12_method_76_code 18 = .ok (.iinc 2 1, 3) := by decide +kernel
theorem d_10_mixesStreet_21 : decode prog_12_method_76_code 21 = .ok (.goto (-19), 3) := by decide +kernel
theorem d_10_mixesStreet_24 : decode prog_12_method_76_code 24 = .ok (.iconst 0, 1) := by decide +kernel
theorem d_10_mixesStreet_25 : decode prog_12_method_76_code 25 = .ok (.istore_n 2, 1) := by decide +kernel
theorem d_10_mixesStreet_26 : decode prog_12_method_76_code 26 = .ok (.iload_n 2, 1) := by decide +kernel
theorem d_10_mixesStreet_27 : decode prog_12_method_76_code 27 = .ok (.iconst 2, 1) := by decide +kernel
theorem d_10_mixesStreet_28 : decode prog_12_method_76_code 28 = .ok (.if_icmp .ge 55, 3) := by decide +kernel
theorem d_10_mixesStreet_31 : decode prog_12_method_76_code 31 = .ok (.iconst 0, 1) := by decide +kernel
theorem d_10_mixesStreet_32 : decode prog_12_method_76_code 32 = .ok (.istore_n 3, 1) := by decide +kernel
theorem d_10_mixesStreet_33 : decode prog_12_method_76_code 33 = .ok (.iload_n 3, 1) := by decide +kernel
theorem d_10_mixesStreet_34 : decode prog_12_method_76_code 34 = .ok (.aload_n 0, 1) := by decide +kernel
theorem d_10_mixesStreet_35 : decode prog_12_method_76_code 35 = .ok (.iload_n 1, 1) := by decide +kernel
theorem d_10_mixesStreet_36 : decode prog_12_method_76_code 36 = .ok (.iconst 0, 1) := by decide +kernel
theorem d_10_mixesStreet_37 : decode prog_12_method_76_code 37 = .ok (.invokevirtual 37, 3) := by decide +kernel
theorem d_10_mixesStreet_40 : decode prog_12_method_76_code 40 = .ok (.if_icmp .ge 37, 3) := by decide +kernel
theorem d_10_mixesStreet_43 : decode prog_12_method_76_code 43 = .ok (.iconst 0, 1) := by decide +kernel
theorem d_10_mixesStreet_44 : decode prog_12_method_76_code 44 = .ok (.istore 4, 2) := by decide +kernel
theorem d_10_mixesStreet_46 : decode prog_12_method_76_code 46 = .ok (.iload 4, 2) := by decide +kernel
theorem d_10_mixesStreet_48 : decode prog_12_method_76_code 48 = .ok (.iconst 3, 1) := by decide +kernel
theorem d_10_mixesStreet_49 : decode prog_12_method_76_code 49 = .ok (.if_icmp .ge 22, 3) := by decide +kernel
theorem d_10_mixesStreet_52 : decode prog_12_method_76_code 52 = .ok (.aload_n 0, 1) := by decide +kernel
theorem d_10_mixesStreet_53 : decode prog_12_method_76_code 53 = .ok (.aload_n 0, 1) := by decide +kernel
theorem d_10_mixesStreet_54 : decode prog_12_method_76_code 54 = .ok (.iload_n 1, 1) := by decide +kernel
theorem d_10_mixesStreet_55 : decode prog_12_method_76_code 55 = .ok (.iload_n 2, 1) := by decide +kernel
theorem d_10_mixesStreet_56 : decode prog_12_method_76_code 56 = .ok (.iload_n 3, 1) := by decide +kernel
theorem d_10_mixesStreet_57 : decode prog_12_method_76_code 57 = .ok (.iload 4, 2) := by decide +kernel
theorem d_10_mixesStreet_59 : decode prog_12_method_76_code 59 = .ok (.invokevirtual 216, 3) := by decide +kernel
theorem d_10_mixesStreet_62 : decode prog_12_method_76_code 62 = .ok (.invokevirtual 213, 3) := by decide +kernel
theorem d_10_mixesStreet_65 : decode prog_12_method_76_code 65 = .ok (.iinc 4 1, 3) := by decide +kernel
theorem d_10_mixesStreet_68 : decode prog_12_method_76_code 68 = .ok (.goto (-22), 3) := by decide +kernel
theorem d_10_mixesStreet_71 : decode prog_12_method_76_code 71 = .ok (.iinc 3 1, 3) := by decide +kernel
theorem d_10_mixesStreet_74 : decode prog_12_method_76_code 74 = .ok (.goto (-41), 3) := by decide +kernel
theorem d_10_mixesStreet_77 : decode prog_12_method_76_code 77 = .ok (.iinc 2 1, 3) := by decide +kernel
theorem d_10_mixesStreet_80 : decode prog_12_method_76_code 80 = .ok (.goto (-54), 3) := by decide +kernel
theorem d_10_mixesStreet_83 : decode prog_12_method_76_code 83 = .ok (.return_, 1) := by decide +kernel
def m_10_mixesStreet_46 (r0 : Nat) (x1 : Int32) (x2 : Int32) (x3 : Int32) (B26 : Int32 → St → Prop) (B33 : Int32 → St → Prop) (Q : St → Prop) (B46 : Int32 → St → Prop) (x4 : Int32) (σ : St) : Prop :=
  (((3 : Int32) ≤ x4 → ∀ x3_1 : Int32, x3_1 = x3 + 1 → B33 x3_1 σ) ∧ (¬ (3 : Int32) ≤ x4 → m_10_cell r0 x1 x2 x3 x4 (fun (v_3 : Int32) (σ_2 : St) => m_10_mixes r0 v_3 (fun (σ_4 : St) => ∀ x4_6 : Int32, x4_6 = x4 + 1 → B46 x4_6 σ_4) σ_2) σ))
def m_10_mixesStreet_33 (r0 : Nat) (x1 : Int32) (x2 : Int32) (B26 : Int32 → St → Prop) (Q : St → Prop) (B33 : Int32 → St → Prop) (x3 : Int32) (σ : St) : Prop :=
  m_10_of r0 x1 (0 : Int32) (fun (v_2 : Int32) (σ_1 : St) => ((v_2 ≤ x3 → ∀ x2_3 : Int32, x2_3 = x2 + 1 → B26 x2_3 σ_1) ∧ (¬ v_2 ≤ x3 → itN (m_10_mixesStreet_46 r0 x1 x2 x3 B26 B33 Q) (fun _ _ => False) FU (0 : Int32) σ_1))) σ
def m_10_mixesStreet_26 (r0 : Nat) (x1 : Int32) (Q : St → Prop) (B26 : Int32 → St → Prop) (x2 : Int32) (σ : St) : Prop :=
  (((2 : Int32) ≤ x2 → Q σ) ∧ (¬ (2 : Int32) ≤ x2 → itN (m_10_mixesStreet_33 r0 x1 x2 B26 Q) (fun _ _ => False) FU (0 : Int32) σ))
def m_10_mixesStreet_2 (r0 : Nat) (x1 : Int32) (Q : St → Prop) (B2 : Int32 → St → Prop) (x2 : Int32) (σ : St) : Prop :=
  (((8 : Int32) ≤ x2 → itN (m_10_mixesStreet_26 r0 x1 Q) (fun _ _ => False) FU (0 : Int32) σ) ∧ (¬ (8 : Int32) ≤ x2 → m_10_street r0 x1 x2 (fun (v_2 : Int32) (σ_1 : St) => m_10_mixes r0 v_2 (fun (σ_3 : St) => ∀ x2_5 : Int32, x2_5 = x2 + 1 → B2 x2_5 σ_3) σ_1) σ))
def m_10_mixesStreet (r0 : Nat) (x1 : Int32) (Q : St → Prop) (σ : St) : Prop :=
  itN (m_10_mixesStreet_2 r0 x1 Q) (fun _ _ => False) FU (0 : Int32) σ
theorem d_10_digest_0 : decode prog_12_method_77_code 0 = .ok (.aload_n 0, 1) := by decide +kernel
theorem d_10_digest_1 : decode prog_12_method_77_code 1 = .ok (.ldc2_w 220, 3) := by decide +kernel
theorem d_10_digest_4 : decode prog_12_method_77_code 4 = .ok (.putfield 206, 3) := by decide +kernel
theorem d_10_digest_7 : decode prog_12_method_77_code 7 = .ok (.iconst 0, 1) := by decide +kernel
theorem d_10_digest_8 : decode prog_12_method_77_code 8 = .ok (.istore_n 1, 1) := by decide +kernel
theorem d_10_digest_9 : decode prog_12_method_77_code 9 = .ok (.iload_n 1, 1) := by decide +kernel
theorem d_10_digest_10 : decode prog_12_method_77_code 10 = .ok (.bipush 15, 2) := by decide +kernel
theorem d_10_digest_12 : decode prog_12_method_77_code 12 = .ok (.if_icmp .ge 18, 3) := by decide +kernel
theorem d_10_digest_15 : decode prog_12_method_77_code 15 = .ok (.aload_n 0, 1) := by decide +kernel
theorem d_10_digest_16 : decode prog_12_method_77_code 16 = .ok (.aload_n 0, 1) := by decide +kernel
theorem d_10_digest_17 : decode prog_12_method_77_code 17 = .ok (.iload_n 1, 1) := by decide +kernel
theorem d_10_digest_18 : decode prog_12_method_77_code 18 = .ok (.invokevirtual 222, 3) := by decide +kernel
theorem d_10_digest_21 : decode prog_12_method_77_code 21 = .ok (.invokevirtual 213, 3) := by decide +kernel
theorem d_10_digest_24 : decode prog_12_method_77_code 24 = .ok (.iinc 1 1, 3) := by decide +kernel
theorem d_10_digest_27 : decode prog_12_method_77_code 27 = .ok (.goto (-18), 3) := by decide +kernel
theorem d_10_digest_30 : decode prog_12_method_77_code 30 = .ok (.iconst 0, 1) := by decide +kernel
theorem d_10_digest_31 : decode prog_12_method_77_code 31 = .ok (.istore_n 1, 1) := by decide +kernel
theorem d_10_digest_32 : decode prog_12_method_77_code 32 = .ok (.iload_n 1, 1) := by decide +kernel
theorem d_10_digest_33 : decode prog_12_method_77_code 33 = .ok (.aload_n 0, 1) := by decide +kernel
theorem d_10_digest_34 : decode prog_12_method_77_code 34 = .ok (.getfield 7, 3) := by decide +kernel
theorem d_10_digest_37 : decode prog_12_method_77_code 37 = .ok (.iconst 0, 1) := by decide +kernel
theorem d_10_digest_38 : decode prog_12_method_77_code 38 = .ok (.iaload, 1) := by decide +kernel
theorem d_10_digest_39 : decode prog_12_method_77_code 39 = .ok (.if_icmp .ge 14, 3) := by decide +kernel
theorem d_10_digest_42 : decode prog_12_method_77_code 42 = .ok (.aload_n 0, 1) := by decide +kernel
theorem d_10_digest_43 : decode prog_12_method_77_code 43 = .ok (.iload_n 1, 1) := by decide +kernel
theorem d_10_digest_44 : decode prog_12_method_77_code 44 = .ok (.invokevirtual 225, 3) := by decide +kernel
theorem d_10_digest_47 : decode prog_12_method_77_code 47 = .ok (.iinc 1 1, 3) := by decide +kernel
theorem d_10_digest_50 : decode prog_12_method_77_code 50 = .ok (.goto (-18), 3) := by decide +kernel
theorem d_10_digest_53 : decode prog_12_method_77_code 53 = .ok (.iconst 0, 1) := by decide +kernel
theorem d_10_digest_54 : decode prog_12_method_77_code 54 = .ok (.istore_n 1, 1) := by decide +kernel
theorem d_10_digest_55 : decode prog_12_method_77_code 55 = .ok (.iload_n 1, 1) := by decide +kernel
theorem d_10_digest_56 : decode prog_12_method_77_code 56 = .ok (.aload_n 0, 1) := by decide +kernel
theorem d_10_digest_57 : decode prog_12_method_77_code 57 = .ok (.getfield 7, 3) := by decide +kernel
theorem d_10_digest_60 : decode prog_12_method_77_code 60 = .ok (.sipush 507, 3) := by decide +kernel
theorem d_10_digest_63 : decode prog_12_method_77_code 63 = .ok (.iaload, 1) := by decide +kernel
theorem d_10_digest_64 : decode prog_12_method_77_code 64 = .ok (.if_icmp .ge 32, 3) := by decide +kernel
theorem d_10_digest_67 : decode prog_12_method_77_code 67 = .ok (.iconst 0, 1) := by decide +kernel
theorem d_10_digest_68 : decode prog_12_method_77_code 68 = .ok (.istore_n 2, 1) := by decide +kernel
theorem d_10_digest_69 : decode prog_12_method_77_code 69 = .ok (.iload_n 2, 1) := by decide +kernel
theorem d_10_digest_70 : decode prog_12_method_77_code 70 = .ok (.iconst 4, 1) := by decide +kernel
theorem d_10_digest_71 : decode prog_12_method_77_code 71 = .ok (.if_icmp .ge 19, 3) := by decide +kernel
theorem d_10_digest_74 : decode prog_12_method_77_code 74 = .ok (.aload_n 0, 1) := by decide +kernel
theorem d_10_digest_75 : decode prog_12_method_77_code 75 = .ok (.aload_n 0, 1) := by decide +kernel
theorem d_10_digest_76 : decode prog_12_method_77_code 76 = .ok (.iload_n 1, 1) := by decide +kernel
theorem d_10_digest_77 : decode prog_12_method_77_code 77 = .ok (.iload_n 2, 1) := by decide +kernel
theorem d_10_digest_78 : decode prog_12_method_77_code 78 = .ok (.invokevirtual 228, 3) := by decide +kernel
theorem d_10_digest_81 : decode prog_12_method_77_code 81 = .ok (.invokevirtual 213, 3) := by decide +kernel
theorem d_10_digest_84 : decode prog_12_method_77_code 84 = .ok (.iinc 2 1, 3) := by decide +kernel
theorem d_10_digest_87 : decode prog_12_method_77_code 87 = .ok (.goto (-18), 3) := by decide +kernel
theorem d_10_digest_90 : decode prog_12_method_77_code 90 = .ok (.iinc 1 1, 3) := by decide +kernel
theorem d_10_digest_93 : decode prog_12_method_77_code 93 = .ok (.goto (-38), 3) := by decide +kernel
theorem d_10_digest_96 : decode prog_12_method_77_code 96 = .ok (.iconst 0, 1) := by decide +kernel
theorem d_10_digest_97 : decode prog_12_method_77_code 97 = .ok (.istore_n 1, 1) := by decide +kernel
theorem d_10_digest_98 : decode prog_12_method_77_code 98 = .ok (.iload_n 1, 1) := by decide +kernel
theorem d_10_digest_99 : decode prog_12_method_77_code 99 = .ok (.bipush 6, 2) := by decide +kernel
theorem d_10_digest_101 : decode prog_12_method_77_code 101 = .ok (.if_icmp .ge 18, 3) := by decide +kernel
theorem d_10_digest_104 : decode prog_12_method_77_code 104 = .ok (.aload_n 0, 1) := by decide +kernel
theorem d_10_digest_105 : decode prog_12_method_77_code 105 = .ok (.aload_n 0, 1) := by decide +kernel
theorem d_10_digest_106 : decode prog_12_method_77_code 106 = .ok (.iload_n 1, 1) := by decide +kernel
theorem d_10_digest_107 : decode prog_12_method_77_code 107 = .ok (.invokevirtual 231, 3) := by decide +kernel
theorem d_10_digest_110 : decode prog_12_method_77_code 110 = .ok (.invokevirtual 213, 3) := by decide +kernel
theorem d_10_digest_113 : decode prog_12_method_77_code 113 = .ok (.iinc 1 1, 3) := by decide +kernel
theorem d_10_digest_116 : decode prog_12_method_77_code 116 = .ok (.goto (-18), 3) := by decide +kernel
theorem d_10_digest_119 : decode prog_12_method_77_code 119 = .ok (.iconst 0, 1) := by decide +kernel
theorem d_10_digest_120 : decode prog_12_method_77_code 120 = .ok (.istore_n 1, 1) := by decide +kernel
theorem d_10_digest_121 : decode prog_12_method_77_code 121 = .ok (.iload_n 1, 1) := by decide +kernel
theorem d_10_digest_122 : decode prog_12_method_77_code 122 = .ok (.bipush 7, 2) := by decide +kernel
theorem d_10_digest_124 : decode prog_12_method_77_code 124 = .ok (.if_icmp .ge 18, 3) := by decide +kernel
theorem d_10_digest_127 : decode prog_12_method_77_code 127 = .ok (.aload_n 0, 1) := by decide +kernel
theorem d_10_digest_128 : decode prog_12_method_77_code 128 = .ok (.aload_n 0, 1) := by decide +kernel
theorem d_10_digest_129 : decode prog_12_method_77_code 129 = .ok (.iload_n 1, 1) := by decide +kernel
theorem d_10_digest_130 : decode prog_12_method_77_code 130 = .ok (.invokevirtual 234, 3) := by decide +kernel
theorem d_10_digest_133 : decode prog_12_method_77_code 133 = .ok (.invokevirtual 213, 3) := by decide +kernel
theorem d_10_digest_136 : decode prog_12_method_77_code 136 = .ok (.iinc 1 1, 3) := by decide +kernel
theorem d_10_digest_139 : decode prog_12_method_77_code 139 = .ok (.goto (-18), 3) := by decide +kernel
theorem d_10_digest_142 : decode prog_12_method_77_code 142 = .ok (.iconst 1, 1) := by decide +kernel
theorem d_10_digest_143 : decode prog_12_method_77_code 143 = .ok (.istore_n 1, 1) := by decide +kernel
theorem d_10_digest_144 : decode prog_12_method_77_code 144 = .ok (.iload_n 1, 1) := by decide +kernel
theorem d_10_digest_145 : decode prog_12_method_77_code 145 = .ok (.iconst 4, 1) := by decide +kernel
theorem d_10_digest_146 : decode prog_12_method_77_code 146 = .ok (.if_icmp .gt 18, 3) := by decide +kernel
theorem d_10_digest_149 : decode prog_12_method_77_code 149 = .ok (.aload_n 0, 1) := by decide +kernel
theorem d_10_digest_150 : decode prog_12_method_77_code 150 = .ok (.aload_n 0, 1) := by decide +kernel
theorem d_10_digest_151 : decode prog_12_method_77_code 151 = .ok (.iload_n 1, 1) := by decide +kernel
theorem d_10_digest_152 : decode prog_12_method_77_code 152 = .ok (.invokevirtual 237, 3) := by decide +kernel
theorem d_10_digest_155 : decode prog_12_method_77_code 155 = .ok (.invokevirtual 213, 3) := by decide +kernel
theorem d_10_digest_158 : decode prog_12_method_77_code 158 = .ok (.iinc 1 1, 3) := by decide +kernel
theorem d_10_digest_161 : decode prog_12_method_77_code 161 = .ok (.goto (-17), 3) := by decide +kernel
theorem d_10_digest_164 : decode prog_12_method_77_code 164 = .ok (.aload_n 0, 1) := by decide +kernel
theorem d_10_digest_165 : decode prog_12_method_77_code 165 = .ok (.aload_n 0, 1) := by decide +kernel
theorem d_10_digest_166 : decode prog_12_method_77_code 166 = .ok (.invokevirtual 240, 3) := by decide +kernel
theorem d_10_digest_169 : decode prog_12_method_77_code 169 = .ok (.invokevirtual 213, 3) := by decide +kernel
theorem d_10_digest_172 : decode prog_12_method_77_code 172 = .ok (.aload_n 0, 1) := by decide +kernel
theorem d_10_digest_173 : decode prog_12_method_77_code 173 = .ok (.getfield 206, 3) := by decide +kernel
theorem d_10_digest_176 : decode prog_12_method_77_code 176 = .ok (.lreturn, 1) := by decide +kernel
def m_10_digest_144 (r0 : Nat) (Q : Int64 → St → Prop) (B144 : Int32 → St → Prop) (x1 : Int32) (σ : St) : Prop :=
  (((4 : Int32) < x1 → m_10_bestSpeed r0 (fun (v_2 : Int32) (σ_1 : St) => m_10_mixes r0 v_2 (fun (σ_3 : St) => Q σ_3.2 σ_3) σ_1) σ) ∧ (¬ (4 : Int32) < x1 → m_10_ifSpeed r0 x1 (fun (v_6 : Int32) (σ_5 : St) => m_10_mixes r0 v_6 (fun (σ_7 : St) => ∀ x1_9 : Int32, x1_9 = x1 + 1 → B144 x1_9 σ_7) σ_5) σ))
def m_10_digest_121 (r0 : Nat) (Q : Int64 → St → Prop) (B121 : Int32 → St → Prop) (x1 : Int32) (σ : St) : Prop :=
  (((7 : Int32) ≤ x1 → itN (m_10_digest_144 r0 Q) (fun _ _ => False) FU (1 : Int32) σ) ∧ (¬ (7 : Int32) ≤ x1 → m_10_account r0 x1 (fun (v_2 : Int32) (σ_1 : St) => m_10_mixes r0 v_2 (fun (σ_3 : St) => ∀ x1_5 : Int32, x1_5 = x1 + 1 → B121 x1_5 σ_3) σ_1) σ))
def m_10_digest_98 (r0 : Nat) (Q : Int64 → St → Prop) (B98 : Int32 → St → Prop) (x1 : Int32) (σ : St) : Prop :=
  (((6 : Int32) ≤ x1 → itN (m_10_digest_121 r0 Q) (fun _ _ => False) FU (0 : Int32) σ) ∧ (¬ (6 : Int32) ≤ x1 → m_10_latest r0 x1 (fun (v_2 : Int32) (σ_1 : St) => m_10_mixes r0 v_2 (fun (σ_3 : St) => ∀ x1_5 : Int32, x1_5 = x1 + 1 → B98 x1_5 σ_3) σ_1) σ))
def m_10_digest_69 (r0 : Nat) (x1 : Int32) (B55 : Int32 → St → Prop) (Q : Int64 → St → Prop) (B69 : Int32 → St → Prop) (x2 : Int32) (σ : St) : Prop :=
  (((4 : Int32) ≤ x2 → ∀ x1_1 : Int32, x1_1 = x1 + 1 → B55 x1_1 σ) ∧ (¬ (4 : Int32) ≤ x2 → m_10_leg r0 x1 x2 (fun (v_3 : Int32) (σ_2 : St) => m_10_mixes r0 v_3 (fun (σ_4 : St) => ∀ x2_6 : Int32, x2_6 = x2 + 1 → B69 x2_6 σ_4) σ_2) σ))
def m_10_digest_55 (r0 : Nat) (Q : Int64 → St → Prop) (B55 : Int32 → St → Prop) (x1 : Int32) (σ : St) : Prop :=
  vp_in (507 : Int32) 5640 ∧ (((σ.1 (r0 + 1) ((507 : Int32)).toNatClampNeg) ≤ x1 → itN (m_10_digest_98 r0 Q) (fun _ _ => False) FU (0 : Int32) σ) ∧ (¬ (σ.1 (r0 + 1) ((507 : Int32)).toNatClampNeg) ≤ x1 → itN (m_10_digest_69 r0 x1 B55 Q) (fun _ _ => False) FU (0 : Int32) σ))
def m_10_digest_32 (r0 : Nat) (Q : Int64 → St → Prop) (B32 : Int32 → St → Prop) (x1 : Int32) (σ : St) : Prop :=
  vp_in (0 : Int32) 5640 ∧ (((σ.1 (r0 + 1) ((0 : Int32)).toNatClampNeg) ≤ x1 → itN (m_10_digest_55 r0 Q) (fun _ _ => False) FU (0 : Int32) σ) ∧ (¬ (σ.1 (r0 + 1) ((0 : Int32)).toNatClampNeg) ≤ x1 → m_10_mixesStreet r0 x1 (fun (σ_1 : St) => ∀ x1_3 : Int32, x1_3 = x1 + 1 → B32 x1_3 σ_1) σ))
def m_10_digest_9 (r0 : Nat) (Q : Int64 → St → Prop) (B9 : Int32 → St → Prop) (x1 : Int32) (σ : St) : Prop :=
  (((15 : Int32) ≤ x1 → itN (m_10_digest_32 r0 Q) (fun _ _ => False) FU (0 : Int32) σ) ∧ (¬ (15 : Int32) ≤ x1 → m_10_count r0 x1 (fun (v_2 : Int32) (σ_1 : St) => m_10_mixes r0 v_2 (fun (σ_3 : St) => ∀ x1_5 : Int32, x1_5 = x1 + 1 → B9 x1_5 σ_3) σ_1) σ))
def m_10_digest (r0 : Nat) (Q : Int64 → St → Prop) (σ : St) : Prop :=
  ∀ σ_1 : St, σ_1 = wrL σ (18926 : Int64) → itN (m_10_digest_9 r0 Q) (fun _ _ => False) FU (0 : Int32) σ_1
section MB
variable {p : Program} {l : Launch} {e : Env} {R : Room} {s : State} {m : MethodId} {args : Array Value} {below : List Frame} {meth : Method} {c : Code} {cells slots : Nat} {QW : State → Prop}
variable {D : va_G} {ac : Nat → ClassId} {ad st : Nat → Nat} {A : Nat → Prop}
set_option maxHeartbeats 4000000 in
set_option maxRecDepth 100000 in
theorem w_10_mixes_0 {r0 : Nat} {x1 : Int32} {Q : St → Prop} {σ : St} {H : Heap} {locs : List Loc} {ls : Array Slot} (S : SC A D ac st p m c prog_12_method_75_code 2 s args "SweeperRoundsModel" R cells slots 0 0) (hR : RtV A D ac ad p l e R s m args below meth c prog_12_method_75_code cells slots QW Q) (hk_r0 : kd r0 = 10) (hG : DG A D ac ad s σ H locs) (hl : lv_has ls 2 [(0, .ref (ad r0)), (1, .int x1)]) (hf : m_10_mixes r0 x1 Q σ) : W p l e R s m args below meth c H locs cells slots QW (F0 m 0 ls []) := by
  have hx := S.1.1
  have hb := S.1.2.1
  unfold m_10_mixes at hf
  refine lv_aload_n hx hb d_10_mixes_0 rfl (lv_at hl 0 rfl) ?_
  refine lv_ldc2 (v := 31) hx hb S.1.2.2.2.1 (S.1.2.2.2.2 _ wm_1128) d_10_mixes_1 ?_
  refine lv_aload_n hx hb d_10_mixes_4 rfl (lv_at hl 0 rfl) ?_
  refine gf_10_206 S hG hk_r0 d_10_mixes_5 ?_
  refine lv_lmul hx hb d_10_mixes_8 ?_
  refine lv_iload_n hx hb d_10_mixes_9 rfl (lv_at hl 1 rfl) ?_
  refine lv_i2l hx hb d_10_mixes_10 rfl ?_
  refine lv_ladd hx hb d_10_mixes_11 ?_
  refine mpL S hG wm_803 hk_r0 d_10_mixes_12 (fun σ_1 eσ_1 H locs hG => ?_)
  have hf := hf σ_1 eσ_1
  exact hR _ _ _ _ _ hG hf d_10_mixes_15
theorem c_10_mixes (l : Launch) {D : va_G} {ac : Nat → ClassId} {ad st : Nat → Nat} {A : Nat → Prop} {σ : St} {r0 : Nat} {x1 : Int32} {Q : St → Prop} (hk_r0 : kd r0 = 10) (hf : m_10_mixes r0 x1 Q σ) : Met l y_10_mixes (Cond.code y_10_mixes prog_12_method_75_code 2 none :: wA) { frames := 0, cells := 0, slots := 0, locals := 0 } (va_Pc [.ref (ad r0), .int x1] (GSt A D ac ad st σ)) (va_Qv Q (GSt A D ac ad st) A) 0 0 A :=
  mkV l (by decide +kernel) rfl [.ref (ad r0), .int x1] (Nat.le_of_ble_eq_true rfl) (fun p e s m args below meth c ls QW S hR hG hl => w_10_mixes_0 S hR hk_r0 hG hl hf)
set_option maxHeartbeats 4000000 in
set_option maxRecDepth 100000 in
theorem w_10_mixesStreet_46 {r0 : Nat} {x1 : Int32} {x2 : Int32} {x3 : Int32} {B26 : Int32 → St → Prop} {B33 : Int32 → St → Prop} {Q : St → Prop} {B46 : Int32 → St → Prop} {x4 : Int32} {σ : St} {H : Heap} {locs : List Loc} {ls : Array Slot} (S : SC A D ac st p m c prog_12_method_76_code 5 s args "SweeperRoundsModel" R cells slots 4 92) (hR : RtV A D ac ad p l e R s m args below meth c prog_12_method_76_code cells slots QW Q) (hk_r0 : kd r0 = 10) (hB26 : ∀ (x2 : Int32) (σ : St) (H : Heap) (locs : List Loc) (ls : Array Slot), DG A D ac ad s σ H locs → lv_has ls 5 [(0, .ref (ad r0)), (1, .int x1), (2, .int x2)] → B26 x2 σ → W p l e R s m args below meth c H locs cells slots QW (F0 m 26 ls [])) (hB33 : ∀ (x3 : Int32) (σ : St) (H : Heap) (locs : List Loc) (ls : Array Slot), DG A D ac ad s σ H locs → lv_has ls 5 [(0, .ref (ad r0)), (1, .int x1), (2, .int x2), (3, .int x3)] → B33 x3 σ → W p l e R s m args below meth c H locs cells slots QW (F0 m 33 ls [])) (hB46 : ∀ (x4 : Int32) (σ : St) (H : Heap) (locs : List Loc) (ls : Array Slot), DG A D ac ad s σ H locs → lv_has ls 5 [(0, .ref (ad r0)), (1, .int x1), (2, .int x2), (3, .int x3), (4, .int x4)] → B46 x4 σ → W p l e R s m args below meth c H locs cells slots QW (F0 m 46 ls [])) (hG : DG A D ac ad s σ H locs) (hl : lv_has ls 5 [(0, .ref (ad r0)), (1, .int x1), (2, .int x2), (3, .int x3), (4, .int x4)]) (hf : m_10_mixesStreet_46 r0 x1 x2 x3 B26 B33 Q B46 x4 σ) : W p l e R s m args below meth c H locs cells slots QW (F0 m 46 ls []) := by
  have hx := S.1.1
  have hb := S.1.2.1
  unfold m_10_mixesStreet_46 at hf
  refine lv_iload hx hb d_10_mixesStreet_46 (lv_at hl 4 rfl) ?_
  refine lv_iconst (v := (3 : Int32)) hx hb d_10_mixesStreet_48 (by decide) ?_
  refine lv_icmp_ge (tgt := 71) hx hb d_10_mixesStreet_49 (by decide) (fun hc => ?_) (fun hc => ?_)
  · have hf := hf.1 hc
    obtain ⟨x3_1, ex3_1⟩ : ∃ y : Int32, y = x3 + 1 := ⟨_, rfl⟩
    have hf := hf x3_1 ex3_1
    refine lv_iinc (v := x3_1) (lv' := [(3, .int x3_1), (0, .ref (ad r0)), (1, .int x1), (2, .int x2), (4, .int x4)]) hx hb d_10_mixesStreet_71 hl (k := 3) rfl (by rw [ex3_1]; rfl) (by decide) rfl (fun ls hl => ?_)
    refine lv_goto (tgt := 33) hx hb d_10_mixesStreet_74 (by decide) ?_
    exact hB33 _ _ _ _ _  hG (lv_sub hl [1, 2, 3, 0] rfl) hf
  · have hf := hf.2 hc
    refine lv_aload_n hx hb d_10_mixesStreet_52 rfl (lv_at hl 0 rfl) ?_
    refine lv_aload_n hx hb d_10_mixesStreet_53 rfl (lv_at hl 0 rfl) ?_
    refine lv_iload_n hx hb d_10_mixesStreet_54 rfl (lv_at hl 1 rfl) ?_
    refine lv_iload_n hx hb d_10_mixesStreet_55 rfl (lv_at hl 2 rfl) ?_
    refine lv_iload_n hx hb d_10_mixesStreet_56 rfl (lv_at hl 3 rfl) ?_
    refine lv_iload hx hb d_10_mixesStreet_57 (lv_at hl 4 rfl) ?_
    refine iv_10_216 S hl.1 hG hk_r0 (c_10_cell l hk_r0 hf) ⟨Nat.le_of_ble_eq_true rfl, Nat.le_of_ble_eq_true rfl⟩ (Nat.le_of_ble_eq_true rfl) d_10_mixesStreet_59 (fun v_3 σ_2 hf H locs hG => ?_)
    refine iv_10_213 S hl.1 hG hk_r0 (c_10_mixes l hk_r0 hf) ⟨Nat.le_of_ble_eq_true rfl, Nat.le_of_ble_eq_true rfl⟩ (Nat.le_of_ble_eq_true rfl) d_10_mixesStreet_62 (fun σ_4 hf H locs hG => ?_)
    obtain ⟨x4_6, ex4_6⟩ : ∃ y : Int32, y = x4 + 1 := ⟨_, rfl⟩
    have hf := hf x4_6 ex4_6
    refine lv_iinc (v := x4_6) (lv' := [(4, .int x4_6), (0, .ref (ad r0)), (1, .int x1), (2, .int x2), (3, .int x3)]) hx hb d_10_mixesStreet_65 hl (k := 4) rfl (by rw [ex4_6]; rfl) (by decide) rfl (fun ls hl => ?_)
    refine lv_goto (tgt := 46) hx hb d_10_mixesStreet_68 (by decide) ?_
    exact hB46 _ _ _ _ _  hG (lv_sub hl [1, 2, 3, 4, 0] rfl) hf
set_option maxHeartbeats 4000000 in
set_option maxRecDepth 100000 in
theorem lp_10_mixesStreet_46 {r0 : Nat} {x1 : Int32} {x2 : Int32} {x3 : Int32} {B26 : Int32 → St → Prop} {B33 : Int32 → St → Prop} {Q : St → Prop} (S : SC A D ac st p m c prog_12_method_76_code 5 s args "SweeperRoundsModel" R cells slots 4 92) (hR : RtV A D ac ad p l e R s m args below meth c prog_12_method_76_code cells slots QW Q) (hk_r0 : kd r0 = 10) (hB26 : ∀ (x2 : Int32) (σ : St) (H : Heap) (locs : List Loc) (ls : Array Slot), DG A D ac ad s σ H locs → lv_has ls 5 [(0, .ref (ad r0)), (1, .int x1), (2, .int x2)] → B26 x2 σ → W p l e R s m args below meth c H locs cells slots QW (F0 m 26 ls [])) (hB33 : ∀ (x3 : Int32) (σ : St) (H : Heap) (locs : List Loc) (ls : Array Slot), DG A D ac ad s σ H locs → lv_has ls 5 [(0, .ref (ad r0)), (1, .int x1), (2, .int x2), (3, .int x3)] → B33 x3 σ → W p l e R s m args below meth c H locs cells slots QW (F0 m 33 ls [])) : ∀ (n : Nat) (x4 : Int32) (σ : St) (H : Heap) (locs : List Loc) (ls : Array Slot), DG A D ac ad s σ H locs → lv_has ls 5 [(0, .ref (ad r0)), (1, .int x1), (2, .int x2), (3, .int x3), (4, .int x4)] → itN (m_10_mixesStreet_46 r0 x1 x2 x3 B26 B33 Q) (fun _ _ => False) n x4 σ → W p l e R s m args below meth c H locs cells slots QW (F0 m 46 ls []) := by
  intro n
  induction n with
  | zero =>
    intro x4 σ H locs ls  hG hl hf
    exact hf.elim
  | succ n ih =>
    intro x4 σ H locs ls  hG hl hf
    exact w_10_mixesStreet_46 S hR hk_r0 hB26 hB33 ih hG hl hf
set_option maxHeartbeats 4000000 in
set_option maxRecDepth 100000 in
theorem w_10_mixesStreet_33 {r0 : Nat} {x1 : Int32} {x2 : Int32} {B26 : Int32 → St → Prop} {Q : St → Prop} {B33 : Int32 → St → Prop} {x3 : Int32} {σ : St} {H : Heap} {locs : List Loc} {ls : Array Slot} (S : SC A D ac st p m c prog_12_method_76_code 5 s args "SweeperRoundsModel" R cells slots 4 92) (hR : RtV A D ac ad p l e R s m args below meth c prog_12_method_76_code cells slots QW Q) (hk_r0 : kd r0 = 10) (hB26 : ∀ (x2 : Int32) (σ : St) (H : Heap) (locs : List Loc) (ls : Array Slot), DG A D ac ad s σ H locs → lv_has ls 5 [(0, .ref (ad r0)), (1, .int x1), (2, .int x2)] → B26 x2 σ → W p l e R s m args below meth c H locs cells slots QW (F0 m 26 ls [])) (hB33 : ∀ (x3 : Int32) (σ : St) (H : Heap) (locs : List Loc) (ls : Array Slot), DG A D ac ad s σ H locs → lv_has ls 5 [(0, .ref (ad r0)), (1, .int x1), (2, .int x2), (3, .int x3)] → B33 x3 σ → W p l e R s m args below meth c H locs cells slots QW (F0 m 33 ls [])) (hG : DG A D ac ad s σ H locs) (hl : lv_has ls 5 [(0, .ref (ad r0)), (1, .int x1), (2, .int x2), (3, .int x3)]) (hf : m_10_mixesStreet_33 r0 x1 x2 B26 Q B33 x3 σ) : W p l e R s m args below meth c H locs cells slots QW (F0 m 33 ls []) := by
  have hx := S.1.1
  have hb := S.1.2.1
  unfold m_10_mixesStreet_33 at hf
  refine lv_iload_n hx hb d_10_mixesStreet_33 rfl (lv_at hl 3 rfl) ?_
  refine lv_aload_n hx hb d_10_mixesStreet_34 rfl (lv_at hl 0 rfl) ?_
  refine lv_iload_n hx hb d_10_mixesStreet_35 rfl (lv_at hl 1 rfl) ?_
  refine lv_iconst (v := (0 : Int32)) hx hb d_10_mixesStreet_36 (by decide) ?_
  refine iv_10_37 S hl.1 hG hk_r0 (c_10_of l hk_r0 hf) ⟨Nat.le_of_ble_eq_true rfl, Nat.le_of_ble_eq_true rfl⟩ (Nat.le_of_ble_eq_true rfl) d_10_mixesStreet_37 (fun v_2 σ_1 hf H locs hG => ?_)
  refine lv_icmp_ge (tgt := 77) hx hb d_10_mixesStreet_40 (by decide) (fun hc => ?_) (fun hc => ?_)
  · have hf := hf.1 hc
    obtain ⟨x2_3, ex2_3⟩ : ∃ y : Int32, y = x2 + 1 := ⟨_, rfl⟩
    have hf := hf x2_3 ex2_3
    refine lv_iinc (v := x2_3) (lv' := [(2, .int x2_3), (0, .ref (ad r0)), (1, .int x1), (3, .int x3)]) hx hb d_10_mixesStreet_77 hl (k := 2) rfl (by rw [ex2_3]; rfl) (by decide) rfl (fun ls hl => ?_)
    refine lv_goto (tgt := 26) hx hb d_10_mixesStreet_80 (by decide) ?_
    exact hB26 _ _ _ _ _  hG (lv_sub hl [1, 2, 0] rfl) hf
  · have hf := hf.2 hc
    refine lv_iconst (v := (0 : Int32)) hx hb d_10_mixesStreet_43 (by decide) ?_
    refine lv_istore (lv' := [(4, .int (0 : Int32)), (0, .ref (ad r0)), (1, .int x1), (2, .int x2), (3, .int x3)]) hx hb d_10_mixesStreet_44 hl (by decide) rfl (fun ls hl => ?_)
    exact lp_10_mixesStreet_46 S hR hk_r0 hB26 hB33 FU _ _ _ _ _  hG (lv_sub hl [1, 2, 3, 4, 0] rfl) hf
set_option maxHeartbeats 4000000 in
set_option maxRecDepth 100000 in
theorem lp_10_mixesStreet_33 {r0 : Nat} {x1 : Int32} {x2 : Int32} {B26 : Int32 → St → Prop} {Q : St → Prop} (S : SC A D ac st p m c prog_12_method_76_code 5 s args "SweeperRoundsModel" R cells slots 4 92) (hR : RtV A D ac ad p l e R s m args below meth c prog_12_method_76_code cells slots QW Q) (hk_r0 : kd r0 = 10) (hB26 : ∀ (x2 : Int32) (σ : St) (H : Heap) (locs : List Loc) (ls : Array Slot), DG A D ac ad s σ H locs → lv_has ls 5 [(0, .ref (ad r0)), (1, .int x1), (2, .int x2)] → B26 x2 σ → W p l e R s m args below meth c H locs cells slots QW (F0 m 26 ls [])) : ∀ (n : Nat) (x3 : Int32) (σ : St) (H : Heap) (locs : List Loc) (ls : Array Slot), DG A D ac ad s σ H locs → lv_has ls 5 [(0, .ref (ad r0)), (1, .int x1), (2, .int x2), (3, .int x3)] → itN (m_10_mixesStreet_33 r0 x1 x2 B26 Q) (fun _ _ => False) n x3 σ → W p l e R s m args below meth c H locs cells slots QW (F0 m 33 ls []) := by
  intro n
  induction n with
  | zero =>
    intro x3 σ H locs ls  hG hl hf
    exact hf.elim
  | succ n ih =>
    intro x3 σ H locs ls  hG hl hf
    exact w_10_mixesStreet_33 S hR hk_r0 hB26 ih hG hl hf
set_option maxHeartbeats 4000000 in
set_option maxRecDepth 100000 in
theorem w_10_mixesStreet_26 {r0 : Nat} {x1 : Int32} {Q : St → Prop} {B26 : Int32 → St → Prop} {x2 : Int32} {σ : St} {H : Heap} {locs : List Loc} {ls : Array Slot} (S : SC A D ac st p m c prog_12_method_76_code 5 s args "SweeperRoundsModel" R cells slots 4 92) (hR : RtV A D ac ad p l e R s m args below meth c prog_12_method_76_code cells slots QW Q) (hk_r0 : kd r0 = 10) (hB26 : ∀ (x2 : Int32) (σ : St) (H : Heap) (locs : List Loc) (ls : Array Slot), DG A D ac ad s σ H locs → lv_has ls 5 [(0, .ref (ad r0)), (1, .int x1), (2, .int x2)] → B26 x2 σ → W p l e R s m args below meth c H locs cells slots QW (F0 m 26 ls [])) (hG : DG A D ac ad s σ H locs) (hl : lv_has ls 5 [(0, .ref (ad r0)), (1, .int x1), (2, .int x2)]) (hf : m_10_mixesStreet_26 r0 x1 Q B26 x2 σ) : W p l e R s m args below meth c H locs cells slots QW (F0 m 26 ls []) := by
  have hx := S.1.1
  have hb := S.1.2.1
  unfold m_10_mixesStreet_26 at hf
  refine lv_iload_n hx hb d_10_mixesStreet_26 rfl (lv_at hl 2 rfl) ?_
  refine lv_iconst (v := (2 : Int32)) hx hb d_10_mixesStreet_27 (by decide) ?_
  refine lv_icmp_ge (tgt := 83) hx hb d_10_mixesStreet_28 (by decide) (fun hc => ?_) (fun hc => ?_)
  · have hf := hf.1 hc
    exact hR _ _ _ _ _ hG hf d_10_mixesStreet_83
  · have hf := hf.2 hc
    refine lv_iconst (v := (0 : Int32)) hx hb d_10_mixesStreet_31 (by decide) ?_
    refine lv_istore_n (lv' := [(3, .int (0 : Int32)), (0, .ref (ad r0)), (1, .int x1), (2, .int x2)]) hx hb d_10_mixesStreet_32 rfl hl (by decide) rfl (fun ls hl => ?_)
    exact lp_10_mixesStreet_33 S hR hk_r0 hB26 FU _ _ _ _ _  hG (lv_sub hl [1, 2, 3, 0] rfl) hf
set_option maxHeartbeats 4000000 in
set_option maxRecDepth 100000 in
theorem lp_10_mixesStreet_26 {r0 : Nat} {x1 : Int32} {Q : St → Prop} (S : SC A D ac st p m c prog_12_method_76_code 5 s args "SweeperRoundsModel" R cells slots 4 92) (hR : RtV A D ac ad p l e R s m args below meth c prog_12_method_76_code cells slots QW Q) (hk_r0 : kd r0 = 10) : ∀ (n : Nat) (x2 : Int32) (σ : St) (H : Heap) (locs : List Loc) (ls : Array Slot), DG A D ac ad s σ H locs → lv_has ls 5 [(0, .ref (ad r0)), (1, .int x1), (2, .int x2)] → itN (m_10_mixesStreet_26 r0 x1 Q) (fun _ _ => False) n x2 σ → W p l e R s m args below meth c H locs cells slots QW (F0 m 26 ls []) := by
  intro n
  induction n with
  | zero =>
    intro x2 σ H locs ls  hG hl hf
    exact hf.elim
  | succ n ih =>
    intro x2 σ H locs ls  hG hl hf
    exact w_10_mixesStreet_26 S hR hk_r0  ih hG hl hf
set_option maxHeartbeats 4000000 in
set_option maxRecDepth 100000 in
theorem w_10_mixesStreet_2 {r0 : Nat} {x1 : Int32} {Q : St → Prop} {B2 : Int32 → St → Prop} {x2 : Int32} {σ : St} {H : Heap} {locs : List Loc} {ls : Array Slot} (S : SC A D ac st p m c prog_12_method_76_code 5 s args "SweeperRoundsModel" R cells slots 4 92) (hR : RtV A D ac ad p l e R s m args below meth c prog_12_method_76_code cells slots QW Q) (hk_r0 : kd r0 = 10) (hB2 : ∀ (x2 : Int32) (σ : St) (H : Heap) (locs : List Loc) (ls : Array Slot), DG A D ac ad s σ H locs → lv_has ls 5 [(0, .ref (ad r0)), (1, .int x1), (2, .int x2)] → B2 x2 σ → W p l e R s m args below meth c H locs cells slots QW (F0 m 2 ls [])) (hG : DG A D ac ad s σ H locs) (hl : lv_has ls 5 [(0, .ref (ad r0)), (1, .int x1), (2, .int x2)]) (hf : m_10_mixesStreet_2 r0 x1 Q B2 x2 σ) : W p l e R s m args below meth c H locs cells slots QW (F0 m 2 ls []) := by
  have hx := S.1.1
  have hb := S.1.2.1
  unfold m_10_mixesStreet_2 at hf
  refine lv_iload_n hx hb d_10_mixesStreet_2 rfl (lv_at hl 2 rfl) ?_
  refine lv_bipush (v := (8 : Int32)) hx hb d_10_mixesStreet_3 (by decide) ?_
  refine lv_icmp_ge (tgt := 24) hx hb d_10_mixesStreet_5 (by decide) (fun hc => ?_) (fun hc => ?_)
  · have hf := hf.1 hc
    refine lv_iconst (v := (0 : Int32)) hx hb d_10_mixesStreet_24 (by decide) ?_
    refine lv_istore_n (lv' := [(2, .int (0 : Int32)), (0, .ref (ad r0)), (1, .int x1)]) hx hb d_10_mixesStreet_25 rfl hl (by decide) rfl (fun ls hl => ?_)
    exact lp_10_mixesStreet_26 S hR hk_r0  FU _ _ _ _ _  hG (lv_sub hl [1, 2, 0] rfl) hf
  · have hf := hf.2 hc
    refine lv_aload_n hx hb d_10_mixesStreet_8 rfl (lv_at hl 0 rfl) ?_
    refine lv_aload_n hx hb d_10_mixesStreet_9 rfl (lv_at hl 0 rfl) ?_
    refine lv_iload_n hx hb d_10_mixesStreet_10 rfl (lv_at hl 1 rfl) ?_
    refine lv_iload_n hx hb d_10_mixesStreet_11 rfl (lv_at hl 2 rfl) ?_
    refine iv_10_210 S hl.1 hG hk_r0 (c_10_street l hk_r0 hf) ⟨Nat.le_of_ble_eq_true rfl, Nat.le_of_ble_eq_true rfl⟩ (Nat.le_of_ble_eq_true rfl) d_10_mixesStreet_12 (fun v_2 σ_1 hf H locs hG => ?_)
    refine iv_10_213 S hl.1 hG hk_r0 (c_10_mixes l hk_r0 hf) ⟨Nat.le_of_ble_eq_true rfl, Nat.le_of_ble_eq_true rfl⟩ (Nat.le_of_ble_eq_true rfl) d_10_mixesStreet_15 (fun σ_3 hf H locs hG => ?_)
    obtain ⟨x2_5, ex2_5⟩ : ∃ y : Int32, y = x2 + 1 := ⟨_, rfl⟩
    have hf := hf x2_5 ex2_5
    refine lv_iinc (v := x2_5) (lv' := [(2, .int x2_5), (0, .ref (ad r0)), (1, .int x1)]) hx hb d_10_mixesStreet_18 hl (k := 2) rfl (by rw [ex2_5]; rfl) (by decide) rfl (fun ls hl => ?_)
    refine lv_goto (tgt := 2) hx hb d_10_mixesStreet_21 (by decide) ?_
    exact hB2 _ _ _ _ _  hG (lv_sub hl [1, 2, 0] rfl) hf
set_option maxHeartbeats 4000000 in
set_option maxRecDepth 100000 in
theorem lp_10_mixesStreet_2 {r0 : Nat} {x1 : Int32} {Q : St → Prop} (S : SC A D ac st p m c prog_12_method_76_code 5 s args "SweeperRoundsModel" R cells slots 4 92) (hR : RtV A D ac ad p l e R s m args below meth c prog_12_method_76_code cells slots QW Q) (hk_r0 : kd r0 = 10) : ∀ (n : Nat) (x2 : Int32) (σ : St) (H : Heap) (locs : List Loc) (ls : Array Slot), DG A D ac ad s σ H locs → lv_has ls 5 [(0, .ref (ad r0)), (1, .int x1), (2, .int x2)] → itN (m_10_mixesStreet_2 r0 x1 Q) (fun _ _ => False) n x2 σ → W p l e R s m args below meth c H locs cells slots QW (F0 m 2 ls []) := by
  intro n
  induction n with
  | zero =>
    intro x2 σ H locs ls  hG hl hf
    exact hf.elim
  | succ n ih =>
    intro x2 σ H locs ls  hG hl hf
    exact w_10_mixesStreet_2 S hR hk_r0  ih hG hl hf
set_option maxHeartbeats 4000000 in
set_option maxRecDepth 100000 in
theorem w_10_mixesStreet_0 {r0 : Nat} {x1 : Int32} {Q : St → Prop} {σ : St} {H : Heap} {locs : List Loc} {ls : Array Slot} (S : SC A D ac st p m c prog_12_method_76_code 5 s args "SweeperRoundsModel" R cells slots 4 92) (hR : RtV A D ac ad p l e R s m args below meth c prog_12_method_76_code cells slots QW Q) (hk_r0 : kd r0 = 10) (hG : DG A D ac ad s σ H locs) (hl : lv_has ls 5 [(0, .ref (ad r0)), (1, .int x1)]) (hf : m_10_mixesStreet r0 x1 Q σ) : W p l e R s m args below meth c H locs cells slots QW (F0 m 0 ls []) := by
  have hx := S.1.1
  have hb := S.1.2.1
  unfold m_10_mixesStreet at hf
  refine lv_iconst (v := (0 : Int32)) hx hb d_10_mixesStreet_0 (by decide) ?_
  refine lv_istore_n (lv' := [(2, .int (0 : Int32)), (0, .ref (ad r0)), (1, .int x1)]) hx hb d_10_mixesStreet_1 rfl hl (by decide) rfl (fun ls hl => ?_)
  exact lp_10_mixesStreet_2 S hR hk_r0  FU _ _ _ _ _  hG (lv_sub hl [1, 2, 0] rfl) hf
theorem c_10_mixesStreet (l : Launch) {D : va_G} {ac : Nat → ClassId} {ad st : Nat → Nat} {A : Nat → Prop} {σ : St} {r0 : Nat} {x1 : Int32} {Q : St → Prop} (hk_r0 : kd r0 = 10) (hf : m_10_mixesStreet r0 x1 Q σ) : Met l y_10_mixesStreet (Cond.code y_10_mixesStreet prog_12_method_76_code 5 none :: wA) { frames := 4, cells := 0, slots := 0, locals := 92 } (va_Pc [.ref (ad r0), .int x1] (GSt A D ac ad st σ)) (va_Qv Q (GSt A D ac ad st) A) 0 0 A :=
  mkV l (by decide +kernel) rfl [.ref (ad r0), .int x1] (Nat.le_of_ble_eq_true rfl) (fun p e s m args below meth c ls QW S hR hG hl => w_10_mixesStreet_0 S hR hk_r0 hG hl hf)
set_option maxHeartbeats 4000000 in
set_option maxRecDepth 100000 in
theorem w_10_digest_144 {r0 : Nat} {Q : Int64 → St → Prop} {B144 : Int32 → St → Prop} {x1 : Int32} {σ : St} {H : Heap} {locs : List Loc} {ls : Array Slot} (S : SC A D ac st p m c prog_12_method_77_code 3 s args "SweeperRoundsModel" R cells slots 7 167) (hR : RtL A D ac ad p l e R s m args below meth c prog_12_method_77_code cells slots QW Q) (hk_r0 : kd r0 = 10) (hB144 : ∀ (x1 : Int32) (σ : St) (H : Heap) (locs : List Loc) (ls : Array Slot), DG A D ac ad s σ H locs → lv_has ls 3 [(0, .ref (ad r0)), (1, .int x1)] → B144 x1 σ → W p l e R s m args below meth c H locs cells slots QW (F0 m 144 ls [])) (hG : DG A D ac ad s σ H locs) (hl : lv_has ls 3 [(0, .ref (ad r0)), (1, .int x1)]) (hf : m_10_digest_144 r0 Q B144 x1 σ) : W p l e R s m args below meth c H locs cells slots QW (F0 m 144 ls []) := by
  have hx := S.1.1
  have hb := S.1.2.1
  unfold m_10_digest_144 at hf
  refine lv_iload_n hx hb d_10_digest_144 rfl (lv_at hl 1 rfl) ?_
  refine lv_iconst (v := (4 : Int32)) hx hb d_10_digest_145 (by decide) ?_
  refine lv_icmp_gt (tgt := 164) hx hb d_10_digest_146 (by decide) (fun hc => ?_) (fun hc => ?_)
  · have hf := hf.1 hc
    refine lv_aload_n hx hb d_10_digest_164 rfl (lv_at hl 0 rfl) ?_
    refine lv_aload_n hx hb d_10_digest_165 rfl (lv_at hl 0 rfl) ?_
    refine iv_10_240 S hl.1 hG hk_r0 (c_10_bestSpeed l hk_r0 hf) ⟨Nat.le_of_ble_eq_true rfl, Nat.le_of_ble_eq_true rfl⟩ (Nat.le_of_ble_eq_true rfl) d_10_digest_166 (fun v_2 σ_1 hf H locs hG => ?_)
    refine iv_10_213 S hl.1 hG hk_r0 (c_10_mixes l hk_r0 hf) ⟨Nat.le_of_ble_eq_true rfl, Nat.le_of_ble_eq_true rfl⟩ (Nat.le_of_ble_eq_true rfl) d_10_digest_169 (fun σ_3 hf H locs hG => ?_)
    refine lv_aload_n hx hb d_10_digest_172 rfl (lv_at hl 0 rfl) ?_
    refine gf_10_206 S hG hk_r0 d_10_digest_173 ?_
    exact hR _ _ _ _ _ _ hG hf d_10_digest_176
  · have hf := hf.2 hc
    refine lv_aload_n hx hb d_10_digest_149 rfl (lv_at hl 0 rfl) ?_
    refine lv_aload_n hx hb d_10_digest_150 rfl (lv_at hl 0 rfl) ?_
    refine lv_iload_n hx hb d_10_digest_151 rfl (lv_at hl 1 rfl) ?_
    refine iv_10_237 S hl.1 hG hk_r0 (c_10_ifSpeed l hk_r0 hf) ⟨Nat.le_of_ble_eq_true rfl, Nat.le_of_ble_eq_true rfl⟩ (Nat.le_of_ble_eq_true rfl) d_10_digest_152 (fun v_6 σ_5 hf H locs hG => ?_)
    refine iv_10_213 S hl.1 hG hk_r0 (c_10_mixes l hk_r0 hf) ⟨Nat.le_of_ble_eq_true rfl, Nat.le_of_ble_eq_true rfl⟩ (Nat.le_of_ble_eq_true rfl) d_10_digest_155 (fun σ_7 hf H locs hG => ?_)
    obtain ⟨x1_9, ex1_9⟩ : ∃ y : Int32, y = x1 + 1 := ⟨_, rfl⟩
    have hf := hf x1_9 ex1_9
    refine lv_iinc (v := x1_9) (lv' := [(1, .int x1_9), (0, .ref (ad r0))]) hx hb d_10_digest_158 hl (k := 1) rfl (by rw [ex1_9]; rfl) (by decide) rfl (fun ls hl => ?_)
    refine lv_goto (tgt := 144) hx hb d_10_digest_161 (by decide) ?_
    exact hB144 _ _ _ _ _  hG (lv_sub hl [1, 0] rfl) hf
set_option maxHeartbeats 4000000 in
set_option maxRecDepth 100000 in
theorem lp_10_digest_144 {r0 : Nat} {Q : Int64 → St → Prop} (S : SC A D ac st p m c prog_12_method_77_code 3 s args "SweeperRoundsModel" R cells slots 7 167) (hR : RtL A D ac ad p l e R s m args below meth c prog_12_method_77_code cells slots QW Q) (hk_r0 : kd r0 = 10) : ∀ (n : Nat) (x1 : Int32) (σ : St) (H : Heap) (locs : List Loc) (ls : Array Slot), DG A D ac ad s σ H locs → lv_has ls 3 [(0, .ref (ad r0)), (1, .int x1)] → itN (m_10_digest_144 r0 Q) (fun _ _ => False) n x1 σ → W p l e R s m args below meth c H locs cells slots QW (F0 m 144 ls []) := by
  intro n
  induction n with
  | zero =>
    intro x1 σ H locs ls  hG hl hf
    exact hf.elim
  | succ n ih =>
    intro x1 σ H locs ls  hG hl hf
    exact w_10_digest_144 S hR hk_r0  ih hG hl hf
set_option maxHeartbeats 4000000 in
set_option maxRecDepth 100000 in
theorem w_10_digest_121 {r0 : Nat} {Q : Int64 → St → Prop} {B121 : Int32 → St → Prop} {x1 : Int32} {σ : St} {H : Heap} {locs : List Loc} {ls : Array Slot} (S : SC A D ac st p m c prog_12_method_77_code 3 s args "SweeperRoundsModel" R cells slots 7 167) (hR : RtL A D ac ad p l e R s m args below meth c prog_12_method_77_code cells slots QW Q) (hk_r0 : kd r0 = 10) (hB121 : ∀ (x1 : Int32) (σ : St) (H : Heap) (locs : List Loc) (ls : Array Slot), DG A D ac ad s σ H locs → lv_has ls 3 [(0, .ref (ad r0)), (1, .int x1)] → B121 x1 σ → W p l e R s m args below meth c H locs cells slots QW (F0 m 121 ls [])) (hG : DG A D ac ad s σ H locs) (hl : lv_has ls 3 [(0, .ref (ad r0)), (1, .int x1)]) (hf : m_10_digest_121 r0 Q B121 x1 σ) : W p l e R s m args below meth c H locs cells slots QW (F0 m 121 ls []) := by
  have hx := S.1.1
  have hb := S.1.2.1
  unfold m_10_digest_121 at hf
  refine lv_iload_n hx hb d_10_digest_121 rfl (lv_at hl 1 rfl) ?_
  refine lv_bipush (v := (7 : Int32)) hx hb d_10_digest_122 (by decide) ?_
  refine lv_icmp_ge (tgt := 142) hx hb d_10_digest_124 (by decide) (fun hc => ?_) (fun hc => ?_)
  · have hf := hf.1 hc
    refine lv_iconst (v := (1 : Int32)) hx hb d_10_digest_142 (by decide) ?_
    refine lv_istore_n (lv' := [(1, .int (1 : Int32)), (0, .ref (ad r0))]) hx hb d_10_digest_143 rfl hl (by decide) rfl (fun ls hl => ?_)
    exact lp_10_digest_144 S hR hk_r0  FU _ _ _ _ _  hG (lv_sub hl [1, 0] rfl) hf
  · have hf := hf.2 hc
    refine lv_aload_n hx hb d_10_digest_127 rfl (lv_at hl 0 rfl) ?_
    refine lv_aload_n hx hb d_10_digest_128 rfl (lv_at hl 0 rfl) ?_
    refine lv_iload_n hx hb d_10_digest_129 rfl (lv_at hl 1 rfl) ?_
    refine iv_10_234 S hl.1 hG hk_r0 (c_10_account l hk_r0 hf) ⟨Nat.le_of_ble_eq_true rfl, Nat.le_of_ble_eq_true rfl⟩ (Nat.le_of_ble_eq_true rfl) d_10_digest_130 (fun v_2 σ_1 hf H locs hG => ?_)
    refine iv_10_213 S hl.1 hG hk_r0 (c_10_mixes l hk_r0 hf) ⟨Nat.le_of_ble_eq_true rfl, Nat.le_of_ble_eq_true rfl⟩ (Nat.le_of_ble_eq_true rfl) d_10_digest_133 (fun σ_3 hf H locs hG => ?_)
    obtain ⟨x1_5, ex1_5⟩ : ∃ y : Int32, y = x1 + 1 := ⟨_, rfl⟩
    have hf := hf x1_5 ex1_5
    refine lv_iinc (v := x1_5) (lv' := [(1, .int x1_5), (0, .ref (ad r0))]) hx hb d_10_digest_136 hl (k := 1) rfl (by rw [ex1_5]; rfl) (by decide) rfl (fun ls hl => ?_)
    refine lv_goto (tgt := 121) hx hb d_10_digest_139 (by decide) ?_
    exact hB121 _ _ _ _ _  hG (lv_sub hl [1, 0] rfl) hf
set_option maxHeartbeats 4000000 in
set_option maxRecDepth 100000 in
theorem lp_10_digest_121 {r0 : Nat} {Q : Int64 → St → Prop} (S : SC A D ac st p m c prog_12_method_77_code 3 s args "SweeperRoundsModel" R cells slots 7 167) (hR : RtL A D ac ad p l e R s m args below meth c prog_12_method_77_code cells slots QW Q) (hk_r0 : kd r0 = 10) : ∀ (n : Nat) (x1 : Int32) (σ : St) (H : Heap) (locs : List Loc) (ls : Array Slot), DG A D ac ad s σ H locs → lv_has ls 3 [(0, .ref (ad r0)), (1, .int x1)] → itN (m_10_digest_121 r0 Q) (fun _ _ => False) n x1 σ → W p l e R s m args below meth c H locs cells slots QW (F0 m 121 ls []) := by
  intro n
  induction n with
  | zero =>
    intro x1 σ H locs ls  hG hl hf
    exact hf.elim
  | succ n ih =>
    intro x1 σ H locs ls  hG hl hf
    exact w_10_digest_121 S hR hk_r0  ih hG hl hf
set_option maxHeartbeats 4000000 in
set_option maxRecDepth 100000 in
theorem w_10_digest_98 {r0 : Nat} {Q : Int64 → St → Prop} {B98 : Int32 → St → Prop} {x1 : Int32} {σ : St} {H : Heap} {locs : List Loc} {ls : Array Slot} (S : SC A D ac st p m c prog_12_method_77_code 3 s args "SweeperRoundsModel" R cells slots 7 167) (hR : RtL A D ac ad p l e R s m args below meth c prog_12_method_77_code cells slots QW Q) (hk_r0 : kd r0 = 10) (hB98 : ∀ (x1 : Int32) (σ : St) (H : Heap) (locs : List Loc) (ls : Array Slot), DG A D ac ad s σ H locs → lv_has ls 3 [(0, .ref (ad r0)), (1, .int x1)] → B98 x1 σ → W p l e R s m args below meth c H locs cells slots QW (F0 m 98 ls [])) (hG : DG A D ac ad s σ H locs) (hl : lv_has ls 3 [(0, .ref (ad r0)), (1, .int x1)]) (hf : m_10_digest_98 r0 Q B98 x1 σ) : W p l e R s m args below meth c H locs cells slots QW (F0 m 98 ls []) := by
  have hx := S.1.1
  have hb := S.1.2.1
  unfold m_10_digest_98 at hf
  refine lv_iload_n hx hb d_10_digest_98 rfl (lv_at hl 1 rfl) ?_
  refine lv_bipush (v := (6 : Int32)) hx hb d_10_digest_99 (by decide) ?_
  refine lv_icmp_ge (tgt := 119) hx hb d_10_digest_101 (by decide) (fun hc => ?_) (fun hc => ?_)
  · have hf := hf.1 hc
    refine lv_iconst (v := (0 : Int32)) hx hb d_10_digest_119 (by decide) ?_
    refine lv_istore_n (lv' := [(1, .int (0 : Int32)), (0, .ref (ad r0))]) hx hb d_10_digest_120 rfl hl (by decide) rfl (fun ls hl => ?_)
    exact lp_10_digest_121 S hR hk_r0  FU _ _ _ _ _  hG (lv_sub hl [1, 0] rfl) hf
  · have hf := hf.2 hc
    refine lv_aload_n hx hb d_10_digest_104 rfl (lv_at hl 0 rfl) ?_
    refine lv_aload_n hx hb d_10_digest_105 rfl (lv_at hl 0 rfl) ?_
    refine lv_iload_n hx hb d_10_digest_106 rfl (lv_at hl 1 rfl) ?_
    refine iv_10_231 S hl.1 hG hk_r0 (c_10_latest l hk_r0 hf) ⟨Nat.le_of_ble_eq_true rfl, Nat.le_of_ble_eq_true rfl⟩ (Nat.le_of_ble_eq_true rfl) d_10_digest_107 (fun v_2 σ_1 hf H locs hG => ?_)
    refine iv_10_213 S hl.1 hG hk_r0 (c_10_mixes l hk_r0 hf) ⟨Nat.le_of_ble_eq_true rfl, Nat.le_of_ble_eq_true rfl⟩ (Nat.le_of_ble_eq_true rfl) d_10_digest_110 (fun σ_3 hf H locs hG => ?_)
    obtain ⟨x1_5, ex1_5⟩ : ∃ y : Int32, y = x1 + 1 := ⟨_, rfl⟩
    have hf := hf x1_5 ex1_5
    refine lv_iinc (v := x1_5) (lv' := [(1, .int x1_5), (0, .ref (ad r0))]) hx hb d_10_digest_113 hl (k := 1) rfl (by rw [ex1_5]; rfl) (by decide) rfl (fun ls hl => ?_)
    refine lv_goto (tgt := 98) hx hb d_10_digest_116 (by decide) ?_
    exact hB98 _ _ _ _ _  hG (lv_sub hl [1, 0] rfl) hf
set_option maxHeartbeats 4000000 in
set_option maxRecDepth 100000 in
theorem lp_10_digest_98 {r0 : Nat} {Q : Int64 → St → Prop} (S : SC A D ac st p m c prog_12_method_77_code 3 s args "SweeperRoundsModel" R cells slots 7 167) (hR : RtL A D ac ad p l e R s m args below meth c prog_12_method_77_code cells slots QW Q) (hk_r0 : kd r0 = 10) : ∀ (n : Nat) (x1 : Int32) (σ : St) (H : Heap) (locs : List Loc) (ls : Array Slot), DG A D ac ad s σ H locs → lv_has ls 3 [(0, .ref (ad r0)), (1, .int x1)] → itN (m_10_digest_98 r0 Q) (fun _ _ => False) n x1 σ → W p l e R s m args below meth c H locs cells slots QW (F0 m 98 ls []) := by
  intro n
  induction n with
  | zero =>
    intro x1 σ H locs ls  hG hl hf
    exact hf.elim
  | succ n ih =>
    intro x1 σ H locs ls  hG hl hf
    exact w_10_digest_98 S hR hk_r0  ih hG hl hf
set_option maxHeartbeats 4000000 in
set_option maxRecDepth 100000 in
theorem w_10_digest_69 {r0 : Nat} {x1 : Int32} {B55 : Int32 → St → Prop} {Q : Int64 → St → Prop} {B69 : Int32 → St → Prop} {x2 : Int32} {σ : St} {H : Heap} {locs : List Loc} {ls : Array Slot} (S : SC A D ac st p m c prog_12_method_77_code 3 s args "SweeperRoundsModel" R cells slots 7 167) (hR : RtL A D ac ad p l e R s m args below meth c prog_12_method_77_code cells slots QW Q) (hk_r0 : kd r0 = 10) (hB55 : ∀ (x1 : Int32) (σ : St) (H : Heap) (locs : List Loc) (ls : Array Slot), DG A D ac ad s σ H locs → lv_has ls 3 [(0, .ref (ad r0)), (1, .int x1)] → B55 x1 σ → W p l e R s m args below meth c H locs cells slots QW (F0 m 55 ls [])) (hB69 : ∀ (x2 : Int32) (σ : St) (H : Heap) (locs : List Loc) (ls : Array Slot), DG A D ac ad s σ H locs → lv_has ls 3 [(0, .ref (ad r0)), (1, .int x1), (2, .int x2)] → B69 x2 σ → W p l e R s m args below meth c H locs cells slots QW (F0 m 69 ls [])) (hG : DG A D ac ad s σ H locs) (hl : lv_has ls 3 [(0, .ref (ad r0)), (1, .int x1), (2, .int x2)]) (hf : m_10_digest_69 r0 x1 B55 Q B69 x2 σ) : W p l e R s m args below meth c H locs cells slots QW (F0 m 69 ls []) := by
  have hx := S.1.1
  have hb := S.1.2.1
  unfold m_10_digest_69 at hf
  refine lv_iload_n hx hb d_10_digest_69 rfl (lv_at hl 2 rfl) ?_
  refine lv_iconst (v := (4 : Int32)) hx hb d_10_digest_70 (by decide) ?_
  refine lv_icmp_ge (tgt := 90) hx hb d_10_digest_71 (by decide) (fun hc => ?_) (fun hc => ?_)
  · have hf := hf.1 hc
    obtain ⟨x1_1, ex1_1⟩ : ∃ y : Int32, y = x1 + 1 := ⟨_, rfl⟩
    have hf := hf x1_1 ex1_1
    refine lv_iinc (v := x1_1) (lv' := [(1, .int x1_1), (0, .ref (ad r0)), (2, .int x2)]) hx hb d_10_digest_90 hl (k := 1) rfl (by rw [ex1_1]; rfl) (by decide) rfl (fun ls hl => ?_)
    refine lv_goto (tgt := 55) hx hb d_10_digest_93 (by decide) ?_
    exact hB55 _ _ _ _ _  hG (lv_sub hl [1, 0] rfl) hf
  · have hf := hf.2 hc
    refine lv_aload_n hx hb d_10_digest_74 rfl (lv_at hl 0 rfl) ?_
    refine lv_aload_n hx hb d_10_digest_75 rfl (lv_at hl 0 rfl) ?_
    refine lv_iload_n hx hb d_10_digest_76 rfl (lv_at hl 1 rfl) ?_
    refine lv_iload_n hx hb d_10_digest_77 rfl (lv_at hl 2 rfl) ?_
    refine iv_10_228 S hl.1 hG hk_r0 (c_10_leg l hk_r0 hf) ⟨Nat.le_of_ble_eq_true rfl, Nat.le_of_ble_eq_true rfl⟩ (Nat.le_of_ble_eq_true rfl) d_10_digest_78 (fun v_3 σ_2 hf H locs hG => ?_)
    refine iv_10_213 S hl.1 hG hk_r0 (c_10_mixes l hk_r0 hf) ⟨Nat.le_of_ble_eq_true rfl, Nat.le_of_ble_eq_true rfl⟩ (Nat.le_of_ble_eq_true rfl) d_10_digest_81 (fun σ_4 hf H locs hG => ?_)
    obtain ⟨x2_6, ex2_6⟩ : ∃ y : Int32, y = x2 + 1 := ⟨_, rfl⟩
    have hf := hf x2_6 ex2_6
    refine lv_iinc (v := x2_6) (lv' := [(2, .int x2_6), (0, .ref (ad r0)), (1, .int x1)]) hx hb d_10_digest_84 hl (k := 2) rfl (by rw [ex2_6]; rfl) (by decide) rfl (fun ls hl => ?_)
    refine lv_goto (tgt := 69) hx hb d_10_digest_87 (by decide) ?_
    exact hB69 _ _ _ _ _  hG (lv_sub hl [1, 2, 0] rfl) hf
set_option maxHeartbeats 4000000 in
set_option maxRecDepth 100000 in
theorem lp_10_digest_69 {r0 : Nat} {x1 : Int32} {B55 : Int32 → St → Prop} {Q : Int64 → St → Prop} (S : SC A D ac st p m c prog_12_method_77_code 3 s args "SweeperRoundsModel" R cells slots 7 167) (hR : RtL A D ac ad p l e R s m args below meth c prog_12_method_77_code cells slots QW Q) (hk_r0 : kd r0 = 10) (hB55 : ∀ (x1 : Int32) (σ : St) (H : Heap) (locs : List Loc) (ls : Array Slot), DG A D ac ad s σ H locs → lv_has ls 3 [(0, .ref (ad r0)), (1, .int x1)] → B55 x1 σ → W p l e R s m args below meth c H locs cells slots QW (F0 m 55 ls [])) : ∀ (n : Nat) (x2 : Int32) (σ : St) (H : Heap) (locs : List Loc) (ls : Array Slot), DG A D ac ad s σ H locs → lv_has ls 3 [(0, .ref (ad r0)), (1, .int x1), (2, .int x2)] → itN (m_10_digest_69 r0 x1 B55 Q) (fun _ _ => False) n x2 σ → W p l e R s m args below meth c H locs cells slots QW (F0 m 69 ls []) := by
  intro n
  induction n with
  | zero =>
    intro x2 σ H locs ls  hG hl hf
    exact hf.elim
  | succ n ih =>
    intro x2 σ H locs ls  hG hl hf
    exact w_10_digest_69 S hR hk_r0 hB55 ih hG hl hf
set_option maxHeartbeats 4000000 in
set_option maxRecDepth 100000 in
theorem w_10_digest_55 {r0 : Nat} {Q : Int64 → St → Prop} {B55 : Int32 → St → Prop} {x1 : Int32} {σ : St} {H : Heap} {locs : List Loc} {ls : Array Slot} (S : SC A D ac st p m c prog_12_method_77_code 3 s args "SweeperRoundsModel" R cells slots 7 167) (hR : RtL A D ac ad p l e R s m args below meth c prog_12_method_77_code cells slots QW Q) (hk_r0 : kd r0 = 10) (hB55 : ∀ (x1 : Int32) (σ : St) (H : Heap) (locs : List Loc) (ls : Array Slot), DG A D ac ad s σ H locs → lv_has ls 3 [(0, .ref (ad r0)), (1, .int x1)] → B55 x1 σ → W p l e R s m args below meth c H locs cells slots QW (F0 m 55 ls [])) (hG : DG A D ac ad s σ H locs) (hl : lv_has ls 3 [(0, .ref (ad r0)), (1, .int x1)]) (hf : m_10_digest_55 r0 Q B55 x1 σ) : W p l e R s m args below meth c H locs cells slots QW (F0 m 55 ls []) := by
  have hx := S.1.1
  have hb := S.1.2.1
  unfold m_10_digest_55 at hf
  refine lv_iload_n hx hb d_10_digest_55 rfl (lv_at hl 1 rfl) ?_
  refine lv_aload_n hx hb d_10_digest_56 rfl (lv_at hl 0 rfl) ?_
  refine gf_10_7 S hG hk_r0 d_10_digest_57 ?_
  refine lv_sipush (v := (507 : Int32)) hx hb d_10_digest_60 (by decide) ?_
  refine mia S hG 30 rfl rfl (kr_10_0 hk_r0) hf.1 d_10_digest_63 ?_
  have hf := hf.2
  refine lv_icmp_ge (tgt := 96) hx hb d_10_digest_64 (by decide) (fun hc => ?_) (fun hc => ?_)
  · have hf := hf.1 hc
    refine lv_iconst (v := (0 : Int32)) hx hb d_10_digest_96 (by decide) ?_
    refine lv_istore_n (lv' := [(1, .int (0 : Int32)), (0, .ref (ad r0))]) hx hb d_10_digest_97 rfl hl (by decide) rfl (fun ls hl => ?_)
    exact lp_10_digest_98 S hR hk_r0  FU _ _ _ _ _  hG (lv_sub hl [1, 0] rfl) hf
  · have hf := hf.2 hc
    refine lv_iconst (v := (0 : Int32)) hx hb d_10_digest_67 (by decide) ?_
    refine lv_istore_n (lv' := [(2, .int (0 : Int32)), (0, .ref (ad r0)), (1, .int x1)]) hx hb d_10_digest_68 rfl hl (by decide) rfl (fun ls hl => ?_)
    exact lp_10_digest_69 S hR hk_r0 hB55 FU _ _ _ _ _  hG (lv_sub hl [1, 2, 0] rfl) hf
set_option maxHeartbeats 4000000 in
set_option maxRecDepth 100000 in
theorem lp_10_digest_55 {r0 : Nat} {Q : Int64 → St → Prop} (S : SC A D ac st p m c prog_12_method_77_code 3 s args "SweeperRoundsModel" R cells slots 7 167) (hR : RtL A D ac ad p l e R s m args below meth c prog_12_method_77_code cells slots QW Q) (hk_r0 : kd r0 = 10) : ∀ (n : Nat) (x1 : Int32) (σ : St) (H : Heap) (locs : List Loc) (ls : Array Slot), DG A D ac ad s σ H locs → lv_has ls 3 [(0, .ref (ad r0)), (1, .int x1)] → itN (m_10_digest_55 r0 Q) (fun _ _ => False) n x1 σ → W p l e R s m args below meth c H locs cells slots QW (F0 m 55 ls []) := by
  intro n
  induction n with
  | zero =>
    intro x1 σ H locs ls  hG hl hf
    exact hf.elim
  | succ n ih =>
    intro x1 σ H locs ls  hG hl hf
    exact w_10_digest_55 S hR hk_r0  ih hG hl hf
set_option maxHeartbeats 4000000 in
set_option maxRecDepth 100000 in
theorem w_10_digest_32 {r0 : Nat} {Q : Int64 → St → Prop} {B32 : Int32 → St → Prop} {x1 : Int32} {σ : St} {H : Heap} {locs : List Loc} {ls : Array Slot} (S : SC A D ac st p m c prog_12_method_77_code 3 s args "SweeperRoundsModel" R cells slots 7 167) (hR : RtL A D ac ad p l e R s m args below meth c prog_12_method_77_code cells slots QW Q) (hk_r0 : kd r0 = 10) (hB32 : ∀ (x1 : Int32) (σ : St) (H : Heap) (locs : List Loc) (ls : Array Slot), DG A D ac ad s σ H locs → lv_has ls 3 [(0, .ref (ad r0)), (1, .int x1)] → B32 x1 σ → W p l e R s m args below meth c H locs cells slots QW (F0 m 32 ls [])) (hG : DG A D ac ad s σ H locs) (hl : lv_has ls 3 [(0, .ref (ad r0)), (1, .int x1)]) (hf : m_10_digest_32 r0 Q B32 x1 σ) : W p l e R s m args below meth c H locs cells slots QW (F0 m 32 ls []) := by
  have hx := S.1.1
  have hb := S.1.2.1
  unfold m_10_digest_32 at hf
  refine lv_iload_n hx hb d_10_digest_32 rfl (lv_at hl 1 rfl) ?_
  refine lv_aload_n hx hb d_10_digest_33 rfl (lv_at hl 0 rfl) ?_
  refine gf_10_7 S hG hk_r0 d_10_digest_34 ?_
  refine lv_iconst (v := (0 : Int32)) hx hb d_10_digest_37 (by decide) ?_
  refine mia S hG 30 rfl rfl (kr_10_0 hk_r0) hf.1 d_10_digest_38 ?_
  have hf := hf.2
  refine lv_icmp_ge (tgt := 53) hx hb d_10_digest_39 (by decide) (fun hc => ?_) (fun hc => ?_)
  · have hf := hf.1 hc
    refine lv_iconst (v := (0 : Int32)) hx hb d_10_digest_53 (by decide) ?_
    refine lv_istore_n (lv' := [(1, .int (0 : Int32)), (0, .ref (ad r0))]) hx hb d_10_digest_54 rfl hl (by decide) rfl (fun ls hl => ?_)
    exact lp_10_digest_55 S hR hk_r0  FU _ _ _ _ _  hG (lv_sub hl [1, 0] rfl) hf
  · have hf := hf.2 hc
    refine lv_aload_n hx hb d_10_digest_42 rfl (lv_at hl 0 rfl) ?_
    refine lv_iload_n hx hb d_10_digest_43 rfl (lv_at hl 1 rfl) ?_
    refine iv_10_225 S hl.1 hG hk_r0 (c_10_mixesStreet l hk_r0 hf) ⟨Nat.le_of_ble_eq_true rfl, Nat.le_of_ble_eq_true rfl⟩ (Nat.le_of_ble_eq_true rfl) d_10_digest_44 (fun σ_1 hf H locs hG => ?_)
    obtain ⟨x1_3, ex1_3⟩ : ∃ y : Int32, y = x1 + 1 := ⟨_, rfl⟩
    have hf := hf x1_3 ex1_3
    refine lv_iinc (v := x1_3) (lv' := [(1, .int x1_3), (0, .ref (ad r0))]) hx hb d_10_digest_47 hl (k := 1) rfl (by rw [ex1_3]; rfl) (by decide) rfl (fun ls hl => ?_)
    refine lv_goto (tgt := 32) hx hb d_10_digest_50 (by decide) ?_
    exact hB32 _ _ _ _ _  hG (lv_sub hl [1, 0] rfl) hf
set_option maxHeartbeats 4000000 in
set_option maxRecDepth 100000 in
theorem lp_10_digest_32 {r0 : Nat} {Q : Int64 → St → Prop} (S : SC A D ac st p m c prog_12_method_77_code 3 s args "SweeperRoundsModel" R cells slots 7 167) (hR : RtL A D ac ad p l e R s m args below meth c prog_12_method_77_code cells slots QW Q) (hk_r0 : kd r0 = 10) : ∀ (n : Nat) (x1 : Int32) (σ : St) (H : Heap) (locs : List Loc) (ls : Array Slot), DG A D ac ad s σ H locs → lv_has ls 3 [(0, .ref (ad r0)), (1, .int x1)] → itN (m_10_digest_32 r0 Q) (fun _ _ => False) n x1 σ → W p l e R s m args below meth c H locs cells slots QW (F0 m 32 ls []) := by
  intro n
  induction n with
  | zero =>
    intro x1 σ H locs ls  hG hl hf
    exact hf.elim
  | succ n ih =>
    intro x1 σ H locs ls  hG hl hf
    exact w_10_digest_32 S hR hk_r0  ih hG hl hf
set_option maxHeartbeats 4000000 in
set_option maxRecDepth 100000 in
theorem w_10_digest_9 {r0 : Nat} {Q : Int64 → St → Prop} {B9 : Int32 → St → Prop} {x1 : Int32} {σ : St} {H : Heap} {locs : List Loc} {ls : Array Slot} (S : SC A D ac st p m c prog_12_method_77_code 3 s args "SweeperRoundsModel" R cells slots 7 167) (hR : RtL A D ac ad p l e R s m args below meth c prog_12_method_77_code cells slots QW Q) (hk_r0 : kd r0 = 10) (hB9 : ∀ (x1 : Int32) (σ : St) (H : Heap) (locs : List Loc) (ls : Array Slot), DG A D ac ad s σ H locs → lv_has ls 3 [(0, .ref (ad r0)), (1, .int x1)] → B9 x1 σ → W p l e R s m args below meth c H locs cells slots QW (F0 m 9 ls [])) (hG : DG A D ac ad s σ H locs) (hl : lv_has ls 3 [(0, .ref (ad r0)), (1, .int x1)]) (hf : m_10_digest_9 r0 Q B9 x1 σ) : W p l e R s m args below meth c H locs cells slots QW (F0 m 9 ls []) := by
  have hx := S.1.1
  have hb := S.1.2.1
  unfold m_10_digest_9 at hf
  refine lv_iload_n hx hb d_10_digest_9 rfl (lv_at hl 1 rfl) ?_
  refine lv_bipush (v := (15 : Int32)) hx hb d_10_digest_10 (by decide) ?_
  refine lv_icmp_ge (tgt := 30) hx hb d_10_digest_12 (by decide) (fun hc => ?_) (fun hc => ?_)
  · have hf := hf.1 hc
    refine lv_iconst (v := (0 : Int32)) hx hb d_10_digest_30 (by decide) ?_
    refine lv_istore_n (lv' := [(1, .int (0 : Int32)), (0, .ref (ad r0))]) hx hb d_10_digest_31 rfl hl (by decide) rfl (fun ls hl => ?_)
    exact lp_10_digest_32 S hR hk_r0  FU _ _ _ _ _  hG (lv_sub hl [1, 0] rfl) hf
  · have hf := hf.2 hc
    refine lv_aload_n hx hb d_10_digest_15 rfl (lv_at hl 0 rfl) ?_
    refine lv_aload_n hx hb d_10_digest_16 rfl (lv_at hl 0 rfl) ?_
    refine lv_iload_n hx hb d_10_digest_17 rfl (lv_at hl 1 rfl) ?_
    refine iv_10_222 S hl.1 hG hk_r0 (c_10_count l hk_r0 hf) ⟨Nat.le_of_ble_eq_true rfl, Nat.le_of_ble_eq_true rfl⟩ (Nat.le_of_ble_eq_true rfl) d_10_digest_18 (fun v_2 σ_1 hf H locs hG => ?_)
    refine iv_10_213 S hl.1 hG hk_r0 (c_10_mixes l hk_r0 hf) ⟨Nat.le_of_ble_eq_true rfl, Nat.le_of_ble_eq_true rfl⟩ (Nat.le_of_ble_eq_true rfl) d_10_digest_21 (fun σ_3 hf H locs hG => ?_)
    obtain ⟨x1_5, ex1_5⟩ : ∃ y : Int32, y = x1 + 1 := ⟨_, rfl⟩
    have hf := hf x1_5 ex1_5
    refine lv_iinc (v := x1_5) (lv' := [(1, .int x1_5), (0, .ref (ad r0))]) hx hb d_10_digest_24 hl (k := 1) rfl (by rw [ex1_5]; rfl) (by decide) rfl (fun ls hl => ?_)
    refine lv_goto (tgt := 9) hx hb d_10_digest_27 (by decide) ?_
    exact hB9 _ _ _ _ _  hG (lv_sub hl [1, 0] rfl) hf
set_option maxHeartbeats 4000000 in
set_option maxRecDepth 100000 in
theorem lp_10_digest_9 {r0 : Nat} {Q : Int64 → St → Prop} (S : SC A D ac st p m c prog_12_method_77_code 3 s args "SweeperRoundsModel" R cells slots 7 167) (hR : RtL A D ac ad p l e R s m args below meth c prog_12_method_77_code cells slots QW Q) (hk_r0 : kd r0 = 10) : ∀ (n : Nat) (x1 : Int32) (σ : St) (H : Heap) (locs : List Loc) (ls : Array Slot), DG A D ac ad s σ H locs → lv_has ls 3 [(0, .ref (ad r0)), (1, .int x1)] → itN (m_10_digest_9 r0 Q) (fun _ _ => False) n x1 σ → W p l e R s m args below meth c H locs cells slots QW (F0 m 9 ls []) := by
  intro n
  induction n with
  | zero =>
    intro x1 σ H locs ls  hG hl hf
    exact hf.elim
  | succ n ih =>
    intro x1 σ H locs ls  hG hl hf
    exact w_10_digest_9 S hR hk_r0  ih hG hl hf
set_option maxHeartbeats 4000000 in
set_option maxRecDepth 100000 in
theorem w_10_digest_0 {r0 : Nat} {Q : Int64 → St → Prop} {σ : St} {H : Heap} {locs : List Loc} {ls : Array Slot} (S : SC A D ac st p m c prog_12_method_77_code 3 s args "SweeperRoundsModel" R cells slots 7 167) (hR : RtL A D ac ad p l e R s m args below meth c prog_12_method_77_code cells slots QW Q) (hk_r0 : kd r0 = 10) (hG : DG A D ac ad s σ H locs) (hl : lv_has ls 3 [(0, .ref (ad r0))]) (hf : m_10_digest r0 Q σ) : W p l e R s m args below meth c H locs cells slots QW (F0 m 0 ls []) := by
  have hx := S.1.1
  have hb := S.1.2.1
  unfold m_10_digest at hf
  refine lv_aload_n hx hb d_10_digest_0 rfl (lv_at hl 0 rfl) ?_
  refine lv_ldc2 (v := 18926) hx hb S.1.2.2.2.1 (S.1.2.2.2.2 _ wm_1122) d_10_digest_1 ?_
  refine mpL S hG wm_803 hk_r0 d_10_digest_4 (fun σ_1 eσ_1 H locs hG => ?_)
  have hf := hf σ_1 eσ_1
  refine lv_iconst (v := (0 : Int32)) hx hb d_10_digest_7 (by decide) ?_
  refine lv_istore_n (lv' := [(1, .int (0 : Int32)), (0, .ref (ad r0))]) hx hb d_10_digest_8 rfl hl (by decide) rfl (fun ls hl => ?_)
  exact lp_10_digest_9 S hR hk_r0  FU _ _ _ _ _  hG (lv_sub hl [1, 0] rfl) hf
theorem c_10_digest (l : Launch) {D : va_G} {ac : Nat → ClassId} {ad st : Nat → Nat} {A : Nat → Prop} {σ : St} {r0 : Nat} {Q : Int64 → St → Prop} (hk_r0 : kd r0 = 10) (hf : m_10_digest r0 Q σ) : Met l y_10_digest (Cond.code y_10_digest prog_12_method_77_code 3 (some .long) :: wA) { frames := 7, cells := 0, slots := 0, locals := 167 } (va_Pc [.ref (ad r0)] (GSt A D ac ad st σ)) (va_Ql Q (GSt A D ac ad st) A) 0 0 A :=
  mkL l (by decide +kernel) rfl [.ref (ad r0)] (Nat.le_of_ble_eq_true rfl) (fun p e s m args below meth c ls QW S hR hG hl => w_10_digest_0 S hR hk_r0 hG hl hf)
end MB
