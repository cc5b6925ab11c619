theorem d_6_copyFrom_0 : decode prog_8_method_3_code 0 = .ok (.aload_n 0, 1) := by decide +kernel
theorem d_6_copyFrom_1 : decode prog_8_method_3_code 1 = .ok (.aload_n 1, 1) := by decide +kernel
theorem d_6_copyFrom_2 : decode prog_8_method_3_code 2 = .ok (.getfield 19, 3) := by decide +kernel
theorem d_6_copyFrom_5 : decode prog_8_method_3_code 5 = .ok (.putfield 19, 3) := by decide +kernel
theorem d_6_copyFrom_8 : decode prog_8_method_3_code 8 = .ok (.aload_n 0, 1) := by decide +kernel
theorem d_6_copyFrom_9 : decode prog_8_method_3_code 9 = .ok (.aload_n 1, 1) := by decide +kernel
theorem d_6_copyFrom_10 : decode prog_8_method_3_code 10 = .ok (.getfield 23, 3) := by decide +kernel
theorem d_6_copyFrom_13 : decode prog_8_method_3_code 13 = .ok (.putfield 23, 3) := by decide +kernel
theorem d_6_copyFrom_16 : decode prog_8_method_3_code 16 = .ok (.aload_n 0, 1) := by decide +kernel
theorem d_6_copyFrom_17 : decode prog_8_method_3_code 17 = .ok (.aload_n 1, 1) := by decide +kernel
theorem d_6_copyFrom_18 : decode prog_8_method_3_code 18 = .ok (.getfield 26, 3) := by decide +kernel
theorem d_6_copyFrom_21 : decode prog_8_method_3_code 21 = .ok (.putfield 26, 3) := by decide +kernel
theorem d_6_copyFrom_24 : decode prog_8_method_3_code 24 = .ok (.iconst 0, 1) := by decide +kernel
theorem d_6_copyFrom_25 : decode prog_8_method_3_code 25 = .ok (.istore_n 2, 1) := by decide +kernel
theorem d_6_copyFrom_26 : decode prog_8_method_3_code 26 = .ok (.iload_n 2, 1) := by decide +kernel
theorem d_6_copyFrom_27 : decode prog_8_method_3_code 27 = .ok (.bipush 40, 2) := by decide +kernel
theorem d_6_copyFrom_29 : decode prog_8_method_3_code 29 = .ok (.if_icmp .ge 33, 3) := by decide +kernel
theorem d_6_copyFrom_32 : decode prog_8_method_3_code 32 = .ok (.aload_n 0, 1) := by decide +kernel
theorem d_6_copyFrom_33 : decode prog_8_method_3_code 33 = .ok (.getfield 9, 3) := by decide +kernel
theorem d_6_copyFrom_36 : decode prog_8_method_3_code 36 = .ok (.iload_n 2, 1) := by decide +kernel
theorem d_6_copyFrom_37 : decode prog_8_method_3_code 37 = .ok (.aload_n 1, 1) := by decide +kernel
theorem d_6_copyFrom_38 : decode prog_8_method_3_code 38 = .ok (.getfield 9, 3) := by decide +kernel
theorem d_6_copyFrom_41 : decode prog_8_method_3_code 41 = .ok (.iload_n 2, 1) := by decide +kernel
theorem d_6_copyFrom_42 : decode prog_8_method_3_code 42 = .ok (.iaload, 1) := by decide +kernel
theorem d_6_copyFrom_43 : decode prog_8_method_3_code 43 = .ok (.iastore, 1) := by decide +kernel
theorem d_6_copyFrom_44 : decode prog_8_method_3_code 44 = .ok (.aload_n 0, 1) := by decide +kernel
theorem d_6_copyFrom_45 : decode prog_8_method_3_code 45 = .ok (.getfield 15, 3) := by decide +kernel
theorem d_6_copyFrom_48 : decode prog_8_method_3_code 48 = .ok (.iload_n 2, 1) := by decide +kernel
theorem d_6_copyFrom_49 : decode prog_8_method_3_code 49 = .ok (.aload_n 1, 1) := by decide +kernel
theorem d_6_copyFrom_50 : decode prog_8_method_3_code 50 = .ok (.getfield 15, 3) := by decide +kernel
theorem d_6_copyFrom_53 : decode prog_8_method_3_code 53 = .ok (.iload_n 2, 1) := by decide +kernel
theorem d_6_copyFrom_54 : decode prog_8_method_3_code 54 = .ok (.baload, 1) := by decide +kernel
theorem d_6_copyFrom_55 : decode prog_8_method_3_code 55 = .ok (.bastore, 1) := by decide +kernel
theorem d_6_copyFrom_56 : decode prog_8_method_3_code 56 = .ok (.iinc 2 1, 3) := by decide +kernel
theorem d_6_copyFrom_59 : decode prog_8_method_3_code 59 = .ok (.goto (-33), 3) := by decide +kernel
theorem d_6_copyFrom_62 : decode prog_8_method_3_code 62 = .ok (.return_, 1) := by decide +kernel
def m_6_copyFrom_26 (r0 : Nat) (r1 : Nat) (Q : St → Prop) (B26 : Int32 → St → Prop) (x2 : Int32) (σ : St) : Prop :=
  (((40 : Int32) ≤ x2 → Q σ) ∧ (¬ (40 : Int32) ≤ x2 → vp_in x2 40 ∧ vp_in x2 40 ∧ ∀ σ_1 : St, σ_1 = wr σ (r0 + 1) (x2).toNatClampNeg (σ.1 (r1 + 1) (x2).toNatClampNeg) → vp_in x2 40 ∧ vp_in x2 40 ∧ ∀ σ_2 : St, σ_2 = wr σ_1 (r0 + 2) (x2).toNatClampNeg (vp_nar .boolean (σ_1.1 (r1 + 2) (x2).toNatClampNeg)) → ∀ x2_3 : Int32, x2_3 = x2 + 1 → B26 x2_3 σ_2))
def m_6_copyFrom (r0 : Nat) (r1 : Nat) (Q : St → Prop) (σ : St) : Prop :=
  ∀ σ_1 : St, σ_1 = wr σ r0 0 (σ.1 r1 0) → ∀ σ_2 : St, σ_2 = wr σ_1 r0 1 (σ_1.1 r1 1) → ∀ σ_3 : St, σ_3 = wr σ_2 r0 2 (σ_2.1 r1 2) → itN (m_6_copyFrom_26 r0 r1 Q) (fun _ _ => False) FU (0 : Int32) σ_3
theorem d_1_copyFrom_0 : decode prog_3_method_2_code 0 = .ok (.aload_n 0, 1) := by decide +kernel
theorem d_1_copyFrom_1 : decode prog_3_method_2_code 1 = .ok (.aload_n 1, 1) := by decide +kernel
theorem d_1_copyFrom_2 : decode prog_3_method_2_code 2 = .ok (.getfield 7, 3) := by decide +kernel
theorem d_1_copyFrom_5 : decode prog_3_method_2_code 5 = .ok (.putfield 7, 3) := by decide +kernel
theorem d_1_copyFrom_8 : decode prog_3_method_2_code 8 = .ok (.aload_n 0, 1) := by decide +kernel
theorem d_1_copyFrom_9 : decode prog_3_method_2_code 9 = .ok (.aload_n 1, 1) := by decide +kernel
theorem d_1_copyFrom_10 : decode prog_3_method_2_code 10 = .ok (.getfield 13, 3) := by decide +kernel
theorem d_1_copyFrom_13 : decode prog_3_method_2_code 13 = .ok (.putfield 13, 3) := by decide +kernel
theorem d_1_copyFrom_16 : decode prog_3_method_2_code 16 = .ok (.aload_n 0, 1) := by decide +kernel
theorem d_1_copyFrom_17 : decode prog_3_method_2_code 17 = .ok (.aload_n 1, 1) := by decide +kernel
theorem d_1_copyFrom_18 : decode prog_3_method_2_code 18 = .ok (.getfield 16, 3) := by decide +kernel
theorem d_1_copyFrom_21 : decode prog_3_method_2_code 21 = .ok (.putfield 16, 3) := by decide +kernel
theorem d_1_copyFrom_24 : decode prog_3_method_2_code 24 = .ok (.aload_n 0, 1) := by decide +kernel
theorem d_1_copyFrom_25 : decode prog_3_method_2_code 25 = .ok (.aload_n 1, 1) := by decide +kernel
theorem d_1_copyFrom_26 : decode prog_3_method_2_code 26 = .ok (.getfield 19, 3) := by decide +kernel
theorem d_1_copyFrom_29 : decode prog_3_method_2_code 29 = .ok (.putfield 19, 3) := by decide +kernel
theorem d_1_copyFrom_32 : decode prog_3_method_2_code 32 = .ok (.return_, 1) := by decide +kernel
def m_1_copyFrom (r0 : Nat) (r1 : Nat) (Q : St → Prop) (σ : St) : Prop :=
  ∀ σ_1 : St, σ_1 = wr σ r0 0 (σ.1 r1 0) → ∀ σ_2 : St, σ_2 = wr σ_1 r0 1 (σ_1.1 r1 1) → ∀ σ_3 : St, σ_3 = wr σ_2 r0 2 (σ_2.1 r1 2) → ∀ σ_4 : St, σ_4 = wr σ_3 r0 3 (σ_3.1 r1 3) → Q σ_4
theorem d_4_copyFrom_0 : decode prog_6_method_3_code 0 = .ok (.aload_n 0, 1) := by decide +kernel
theorem d_4_copyFrom_1 : decode prog_6_method_3_code 1 = .ok (.aload_n 1, 1) := by decide +kernel
theorem d_4_copyFrom_2 : decode prog_6_method_3_code 2 = .ok (.getfield 9, 3) := by decide +kernel
theorem d_4_copyFrom_5 : decode prog_6_method_3_code 5 = .ok (.putfield 9, 3) := by decide +kernel
theorem d_4_copyFrom_8 : decode prog_6_method_3_code 8 = .ok (.aload_n 0, 1) := by decide +kernel
theorem d_4_copyFrom_9 : decode prog_6_method_3_code 9 = .ok (.aload_n 1, 1) := by decide +kernel
theorem d_4_copyFrom_10 : decode prog_6_method_3_code 10 = .ok (.getfield 15, 3) := by decide +kernel
theorem d_4_copyFrom_13 : decode prog_6_method_3_code 13 = .ok (.putfield 15, 3) := by decide +kernel
theorem d_4_copyFrom_16 : decode prog_6_method_3_code 16 = .ok (.aload_n 0, 1) := by decide +kernel
theorem d_4_copyFrom_17 : decode prog_6_method_3_code 17 = .ok (.aload_n 1, 1) := by decide +kernel
theorem d_4_copyFrom_18 : decode prog_6_method_3_code 18 = .ok (.getfield 18, 3) := by decide +kernel
theorem d_4_copyFrom_21 : decode prog_6_method_3_code 21 = .ok (.putfield 18, 3) := by decide +kernel
theorem d_4_copyFrom_24 : decode prog_6_method_3_code 24 = .ok (.aload_n 0, 1) := by decide +kernel
theorem d_4_copyFrom_25 : decode prog_6_method_3_code 25 = .ok (.aload_n 1, 1) := by decide +kernel
theorem d_4_copyFrom_26 : decode prog_6_method_3_code 26 = .ok (.getfield 21, 3) := by decide +kernel
theorem d_4_copyFrom_29 : decode prog_6_method_3_code 29 = .ok (.putfield 21, 3) := by decide +kernel
theorem d_4_copyFrom_32 : decode prog_6_method_3_code 32 = .ok (.aload_n 0, 1) := by decide +kernel
theorem d_4_copyFrom_33 : decode prog_6_method_3_code 33 = .ok (.aload_n 1, 1) := by decide +kernel
theorem d_4_copyFrom_34 : decode prog_6_method_3_code 34 = .ok (.getfield 24, 3) := by decide +kernel
theorem d_4_copyFrom_37 : decode prog_6_method_3_code 37 = .ok (.putfield 24, 3) := by decide +kernel
theorem d_4_copyFrom_40 : decode prog_6_method_3_code 40 = .ok (.aload_n 0, 1) := by decide +kernel
theorem d_4_copyFrom_41 : decode prog_6_method_3_code 41 = .ok (.aload_n 1, 1) := by decide +kernel
theorem d_4_copyFrom_42 : decode prog_6_method_3_code 42 = .ok (.getfield 27, 3) := by decide +kernel
theorem d_4_copyFrom_45 : decode prog_6_method_3_code 45 = .ok (.putfield 27, 3) := by decide +kernel
theorem d_4_copyFrom_48 : decode prog_6_method_3_code 48 = .ok (.return_, 1) := by decide +kernel
def m_4_copyFrom (r0 : Nat) (r1 : Nat) (Q : St → Prop) (σ : St) : Prop :=
  ∀ σ_1 : St, σ_1 = wr σ r0 0 (σ.1 r1 0) → ∀ σ_2 : St, σ_2 = wr σ_1 r0 1 (σ_1.1 r1 1) → ∀ σ_3 : St, σ_3 = wr σ_2 r0 2 (σ_2.1 r1 2) → ∀ σ_4 : St, σ_4 = wr σ_3 r0 3 (σ_3.1 r1 3) → ∀ σ_5 : St, σ_5 = wr σ_4 r0 4 (σ_4.1 r1 4) → ∀ σ_6 : St, σ_6 = wr σ_5 r0 5 (σ_5.1 r1 5) → Q σ_6
theorem d_8_copyFrom_0 : decode prog_10_method_2_code 0 = .ok (.aload_n 0, 1) := by decide +kernel
theorem d_8_copyFrom_1 : decode prog_10_method_2_code 1 = .ok (.aload_n 1, 1) := by decide +kernel
theorem d_8_copyFrom_2 : decode prog_10_method_2_code 2 = .ok (.getfield 52, 3) := by decide +kernel
theorem d_8_copyFrom_5 : decode prog_10_method_2_code 5 = .ok (.putfield 52, 3) := by decide +kernel
theorem d_8_copyFrom_8 : decode prog_10_method_2_code 8 = .ok (.iconst 0, 1) := by decide +kernel
theorem d_8_copyFrom_9 : decode prog_10_method_2_code 9 = .ok (.istore_n 2, 1) := by decide +kernel
theorem d_8_copyFrom_10 : decode prog_10_method_2_code 10 = .ok (.iload_n 2, 1) := by decide +kernel
theorem d_8_copyFrom_11 : decode prog_10_method_2_code 11 = .ok (.aload_n 0, 1) := by decide +kernel
theorem d_8_copyFrom_12 : decode prog_10_method_2_code 12 = .ok (.getfield 52, 3) := by decide +kernel
theorem d_8_copyFrom_15 : decode prog_10_method_2_code 15 = .ok (.if_icmp .ge 24, 3) := by decide +kernel
theorem d_8_copyFrom_18 : decode prog_10_method_2_code 18 = .ok (.aload_n 0, 1) := by decide +kernel
theorem d_8_copyFrom_19 : decode prog_10_method_2_code 19 = .ok (.getfield 11, 3) := by decide +kernel
theorem d_8_copyFrom_22 : decode prog_10_method_2_code 22 = .ok (.iload_n 2, 1) := by decide +kernel
theorem d_8_copyFrom_23 : decode prog_10_method_2_code 23 = .ok (.aaload, 1) := by decide +kernel
theorem d_8_copyFrom_24 : decode prog_10_method_2_code 24 = .ok (.aload_n 1, 1) := by decide +kernel
theorem d_8_copyFrom_25 : decode prog_10_method_2_code 25 = .ok (.getfield 11, 3) := by decide +kernel
theorem d_8_copyFrom_28 : decode prog_10_method_2_code 28 = .ok (.iload_n 2, 1) := by decide +kernel
theorem d_8_copyFrom_29 : decode prog_10_method_2_code 29 = .ok (.aaload, 1) := by decide +kernel
theorem d_8_copyFrom_30 : decode prog_10_method_2_code 30 = .ok (.invokevirtual 55, 3) := by decide +kernel
theorem d_8_copyFrom_33 : decode prog_10_method_2_code 33 = .ok (.iinc 2 1, 3) := by decide +kernel
theorem d_8_copyFrom_36 : decode prog_10_method_2_code 36 = .ok (.goto (-26), 3) := by decide +kernel
theorem d_8_copyFrom_39 : decode prog_10_method_2_code 39 = .ok (.aload_n 0, 1) := by decide +kernel
theorem d_8_copyFrom_40 : decode prog_10_method_2_code 40 = .ok (.aload_n 1, 1) := by decide +kernel
theorem d_8_copyFrom_41 : decode prog_10_method_2_code 41 = .ok (.getfield 59, 3) := by decide +kernel
theorem d_8_copyFrom_44 : decode prog_10_method_2_code 44 = .ok (.putfield 59, 3) := by decide +kernel
theorem d_8_copyFrom_47 : decode prog_10_method_2_code 47 = .ok (.iconst 0, 1) := by decide +kernel
theorem d_8_copyFrom_48 : decode prog_10_method_2_code 48 = .ok (.istore_n 2, 1) := by decide +kernel
theorem d_8_copyFrom_49 : decode prog_10_method_2_code 49 = .ok (.iload_n 2, 1) := by decide +kernel
theorem d_8_copyFrom_50 : decode prog_10_method_2_code 50 = .ok (.aload_n 0, 1) := by decide +kernel
theorem d_8_copyFrom_51 : decode prog_10_method_2_code 51 = .ok (.getfield 59, 3) := by decide +kernel
theorem d_8_copyFrom_54 : decode prog_10_method_2_code 54 = .ok (.if_icmp .ge 24, 3) := by decide +kernel
theorem d_8_copyFrom_57 : decode prog_10_method_2_code 57 = .ok (.aload_n 0, 1) := by decide +kernel
theorem d_8_copyFrom_58 : decode prog_10_method_2_code 58 = .ok (.getfield 19, 3) := by decide +kernel
theorem d_8_copyFrom_61 : decode prog_10_method_2_code 61 = .ok (.iload_n 2, 1) := by decide +kernel
theorem d_8_copyFrom_62 : decode prog_10_method_2_code 62 = .ok (.aaload, 1) := by decide +kernel
theorem d_8_copyFrom_63 : decode prog_10_method_2_code 63 = .ok (.aload_n 1, 1) := by decide +kernel
theorem d_8_copyFrom_64 : decode prog_10_method_2_code 64 = .ok (.getfield 19, 3) := by decide +kernel
theorem d_8_copyFrom_67 : decode prog_10_method_2_code 67 = .ok (.iload_n 2, 1) := by decide +kernel
theorem d_8_copyFrom_68 : decode prog_10_method_2_code 68 = .ok (.aaload, 1) := by decide +kernel
theorem d_8_copyFrom_69 : decode prog_10_method_2_code 69 = .ok (.invokevirtual 62, 3) := by decide +kernel
theorem d_8_copyFrom_72 : decode prog_10_method_2_code 72 = .ok (.iinc 2 1, 3) := by decide +kernel
theorem d_8_copyFrom_75 : decode prog_10_method_2_code 75 = .ok (.goto (-26), 3) := by decide +kernel
theorem d_8_copyFrom_78 : decode prog_10_method_2_code 78 = .ok (.aload_n 0, 1) := by decide +kernel
theorem d_8_copyFrom_79 : decode prog_10_method_2_code 79 = .ok (.aload_n 1, 1) := by decide +kernel
theorem d_8_copyFrom_80 : decode prog_10_method_2_code 80 = .ok (.getfield 65, 3) := by decide +kernel
theorem d_8_copyFrom_83 : decode prog_10_method_2_code 83 = .ok (.putfield 65, 3) := by decide +kernel
theorem d_8_copyFrom_86 : decode prog_10_method_2_code 86 = .ok (.aload_n 1, 1) := by decide +kernel
theorem d_8_copyFrom_87 : decode prog_10_method_2_code 87 = .ok (.getfield 23, 3) := by decide +kernel
theorem d_8_copyFrom_90 : decode prog_10_method_2_code 90 = .ok (.iconst 0, 1) := by decide +kernel
theorem d_8_copyFrom_91 : decode prog_10_method_2_code 91 = .ok (.aload_n 0, 1) := by decide +kernel
theorem d_8_copyFrom_92 : decode prog_10_method_2_code 92 = .ok (.getfield 23, 3) := by decide +kernel
theorem d_8_copyFrom_95 : decode prog_10_method_2_code 95 = .ok (.iconst 0, 1) := by decide +kernel
theorem d_8_copyFrom_96 : decode prog_10_method_2_code 96 = .ok (.bipush 6, 2) := by decide +kernel
theorem d_8_copyFrom_98 : decode prog_10_method_2_code 98 = .ok (.invokestatic 42, 3) := by decide +kernel
theorem d_8_copyFrom_101 : decode prog_10_method_2_code 101 = .ok (.aload_n 0, 1) := by decide +kernel
theorem d_8_copyFrom_102 : decode prog_10_method_2_code 102 = .ok (.aload_n 1, 1) := by decide +kernel
theorem d_8_copyFrom_103 : decode prog_10_method_2_code 103 = .ok (.getfield 48, 3) := by decide +kernel
theorem d_8_copyFrom_106 : decode prog_10_method_2_code 106 = .ok (.putfield 48, 3) := by decide +kernel
theorem d_8_copyFrom_109 : decode prog_10_method_2_code 109 = .ok (.aload_n 0, 1) := by decide +kernel
theorem d_8_copyFrom_110 : decode prog_10_method_2_code 110 = .ok (.aload_n 1, 1) := by decide +kernel
theorem d_8_copyFrom_111 : decode prog_10_method_2_code 111 = .ok (.getfield 69, 3) := by decide +kernel
theorem d_8_copyFrom_114 : decode prog_10_method_2_code 114 = .ok (.putfield 69, 3) := by decide +kernel
theorem d_8_copyFrom_117 : decode prog_10_method_2_code 117 = .ok (.aload_n 1, 1) := by decide +kernel
theorem d_8_copyFrom_118 : decode prog_10_method_2_code 118 = .ok (.getfield 27, 3) := by decide +kernel
theorem d_8_copyFrom_121 : decode prog_10_method_2_code 121 = .ok (.iconst 0, 1) := by decide +kernel
theorem d_8_copyFrom_122 : decode prog_10_method_2_code 122 = .ok (.aload_n 0, 1) := by decide +kernel
theorem d_8_copyFrom_123 : decode prog_10_method_2_code 123 = .ok (.getfield 27, 3) := by decide +kernel
theorem d_8_copyFrom_126 : decode prog_10_method_2_code 126 = .ok (.iconst 0, 1) := by decide +kernel
theorem d_8_copyFrom_127 : decode prog_10_method_2_code 127 = .ok (.bipush 6, 2) := by decide +kernel
theorem d_8_copyFrom_129 : decode prog_10_method_2_code 129 = .ok (.invokestatic 42, 3) := by decide +kernel
theorem d_8_copyFrom_132 : decode prog_10_method_2_code 132 = .ok (.aload_n 0, 1) := by decide +kernel
theorem d_8_copyFrom_133 : decode prog_10_method_2_code 133 = .ok (.getfield 33, 3) := by decide +kernel
theorem d_8_copyFrom_136 : decode prog_10_method_2_code 136 = .ok (.aload_n 1, 1) := by decide +kernel
theorem d_8_copyFrom_137 : decode prog_10_method_2_code 137 = .ok (.getfield 33, 3) := by decide +kernel
theorem d_8_copyFrom_140 : decode prog_10_method_2_code 140 = .ok (.invokevirtual 72, 3) := by decide +kernel
theorem d_8_copyFrom_143 : decode prog_10_method_2_code 143 = .ok (.aload_n 0, 1) := by decide +kernel
theorem d_8_copyFrom_144 : decode prog_10_method_2_code 144 = .ok (.aload_n 1, 1) := by decide +kernel
theorem d_8_copyFrom_145 : decode prog_10_method_2_code 145 = .ok (.getfield 75, 3) := by decide +kernel
theorem d_8_copyFrom_148 : decode prog_10_method_2_code 148 = .ok (.putfield 75, 3) := by decide +kernel
theorem d_8_copyFrom_151 : decode prog_10_method_2_code 151 = .ok (.aload_n 0, 1) := by decide +kernel
theorem d_8_copyFrom_152 : decode prog_10_method_2_code 152 = .ok (.aload_n 1, 1) := by decide +kernel
theorem d_8_copyFrom_153 : decode prog_10_method_2_code 153 = .ok (.getfield 78, 3) := by decide +kernel
theorem d_8_copyFrom_156 : decode prog_10_method_2_code 156 = .ok (.putfield 78, 3) := by decide +kernel
theorem d_8_copyFrom_159 : decode prog_10_method_2_code 159 = .ok (.return_, 1) := by decide +kernel
def m_8_copyFrom_49 (r0 : Nat) (r1 : Nat) (Q : St → Prop) (B49 : Int32 → St → Prop) (x2 : Int32) (σ : St) : Prop :=
  (((σ.1 r0 3) ≤ x2 → isB (σ.1 r1 4) ∧ ∀ σ_1 : St, σ_1 = wr σ r0 4 (σ.1 r1 4) → ¬ (6 : Int32) < 0 ∧ ((6 : Int32)).toNatClampNeg ≤ 6 ∧ ((6 : Int32)).toNatClampNeg ≤ 6 ∧ ∀ σ_2 : St, σ_2 = wrA σ_1 (r0 + 3) (va_cpy (σ_1.1 (r1 + 3)) (σ_1.1 (r0 + 3)) 0 0 ((6 : Int32)).toNatClampNeg) → ∀ σ_3 : St, σ_3 = wr σ_2 r0 6 (σ_2.1 r1 6) → ∀ σ_4 : St, σ_4 = wr σ_3 r0 7 (σ_3.1 r1 7) → ¬ (6 : Int32) < 0 ∧ ((6 : Int32)).toNatClampNeg ≤ 6 ∧ ((6 : Int32)).toNatClampNeg ≤ 6 ∧ ∀ σ_5 : St, σ_5 = wrA σ_4 (r0 + 4) (va_cpy (σ_4.1 (r1 + 4)) (σ_4.1 (r0 + 4)) 0 0 ((6 : Int32)).toNatClampNeg) → m_4_copyFrom (r0 + 5) (r1 + 5) (fun (σ_6 : St) => ∀ σ_8 : St, σ_8 = wr σ_6 r0 10 (σ_6.1 r1 10) → ∀ σ_9 : St, σ_9 = wr σ_8 r0 11 (σ_8.1 r1 11) → Q σ_9) σ_5) ∧ (¬ (σ.1 r0 3) ≤ x2 → vp_in x2 10 ∧ vp_in x2 10 ∧ m_1_copyFrom ((r0 + 2) + 22 + (x2).toNatClampNeg) ((r1 + 2) + 22 + (x2).toNatClampNeg) (fun (σ_12 : St) => ∀ x2_14 : Int32, x2_14 = x2 + 1 → B49 x2_14 σ_12) σ))
def m_8_copyFrom_10 (r0 : Nat) (r1 : Nat) (Q : St → Prop) (B10 : Int32 → St → Prop) (x2 : Int32) (σ : St) : Prop :=
  (((σ.1 r0 1) ≤ x2 → ∀ σ_1 : St, σ_1 = wr σ r0 3 (σ.1 r1 3) → itN (m_8_copyFrom_49 r0 r1 Q) (fun _ _ => False) FU (0 : Int32) σ_1) ∧ (¬ (σ.1 r0 1) ≤ x2 → vp_in x2 6 ∧ vp_in x2 6 ∧ m_6_copyFrom ((r0 + 1) + 5 + 3 * (x2).toNatClampNeg) ((r1 + 1) + 5 + 3 * (x2).toNatClampNeg) (fun (σ_4 : St) => ∀ x2_6 : Int32, x2_6 = x2 + 1 → B10 x2_6 σ_4) σ))
def m_8_copyFrom (r0 : Nat) (r1 : Nat) (Q : St → Prop) (σ : St) : Prop :=
  ∀ σ_1 : St, σ_1 = wr σ r0 1 (σ.1 r1 1) → itN (m_8_copyFrom_10 r0 r1 Q) (fun _ _ => False) FU (0 : Int32) σ_1
theorem d_0_remember_0 : decode prog_2_method_2_code 0 = .ok (.aload_n 0, 1) := by decide +kernel
theorem d_0_remember_1 : decode prog_2_method_2_code 1 = .ok (.getfield 11, 3) := by decide +kernel
theorem d_0_remember_4 : decode prog_2_method_2_code 4 = .ok (.aload_n 0, 1) := by decide +kernel
theorem d_0_remember_5 : decode prog_2_method_2_code 5 = .ok (.getfield 18, 3) := by decide +kernel
theorem d_0_remember_8 : decode prog_2_method_2_code 8 = .ok (.aaload, 1) := by decide +kernel
theorem d_0_remember_9 : decode prog_2_method_2_code 9 = .ok (.aload_n 1, 1) := by decide +kernel
theorem d_0_remember_10 : decode prog_2_method_2_code 10 = .ok (.invokevirtual 22, 3) := by decide +kernel
theorem d_0_remember_13 : decode prog_2_method_2_code 13 = .ok (.aload_n 0, 1) := by decide +kernel
theorem d_0_remember_14 : decode prog_2_method_2_code 14 = .ok (.aload_n 0, 1) := by decide +kernel
theorem d_0_remember_15 : decode prog_2_method_2_code 15 = .ok (.getfield 18, 3) := by decide +kernel
theorem d_0_remember_18 : decode prog_2_method_2_code 18 = .ok (.iconst 1, 1) := by decide +kernel
theorem d_0_remember_19 : decode prog_2_method_2_code 19 = .ok (.iadd, 1) := by decide +kernel
theorem d_0_remember_20 : decode prog_2_method_2_code 20 = .ok (.bipush 8, 2) := by decide +kernel
theorem d_0_remember_22 : decode prog_2_method_2_code 22 = .ok (.irem, 1) := by decide +kernel
theorem d_0_remember_23 : decode prog_2_method_2_code 23 = .ok (.putfield 18, 3) := by decide +kernel
theorem d_0_remember_26 : decode prog_2_method_2_code 26 = .ok (.aload_n 0, 1) := by decide +kernel
theorem d_0_remember_27 : decode prog_2_method_2_code 27 = .ok (.aload_n 0, 1) := by decide +kernel
theorem d_0_remember_28 : decode prog_2_method_2_code 28 = .ok (.getfield 26, 3) := by decide +kernel
theorem d_0_remember_31 : decode prog_2_method_2_code 31 = .ok (.iconst 1, 1) := by decide +kernel
theorem d_0_remember_32 : decode prog_2_method_2_code 32 = .ok (.iadd, 1) := by decide +kernel
theorem d_0_remember_33 : decode prog_2_method_2_code 33 = .ok (.bipush 8, 2) := by decide +kernel
theorem d_0_remember_35 : decode prog_2_method_2_code 35 = .ok (.invokestatic 29, 3) := by decide +kernel
theorem d_0_remember_38 : decode prog_2_method_2_code 38 = .ok (.putfield 26, 3) := by decide +kernel
theorem d_0_remember_41 : decode prog_2_method_2_code 41 = .ok (.return_, 1) := by decide +kernel
def m_0_remember (r0 : Nat) (r1 : Nat) (Q : St → Prop) (σ : St) : Prop :=
  vp_in (σ.1 r0 1) 8 ∧ m_8_copyFrom ((r0 + 1) + 1 + 34 * ((σ.1 r0 1)).toNatClampNeg) r1 (fun (σ_2 : St) => ∀ σ_4 : St, σ_4 = wr σ_2 r0 1 (((σ_2.1 r0 1) + (1 : Int32)) - ((σ_2.1 r0 1) + (1 : Int32)) / (8 : Int32) * (8 : Int32)) → ∀ σ_5 : St, σ_5 = wr σ_4 r0 2 (if (8 : Int32) < ((σ_4.1 r0 2) + (1 : Int32)) then (8 : Int32) else ((σ_4.1 r0 2) + (1 : Int32))) → Q σ_5) σ
theorem d_6_clear_0 : decode prog_8_method_2_code 0 = .ok (.aload_n 0, 1) := by decide +kernel
theorem d_6_clear_1 : decode prog_8_method_2_code 1 = .ok (.iconst 0, 1) := by decide +kernel
theorem d_6_clear_2 : decode prog_8_method_2_code 2 = .ok (.putfield 19, 3) := by decide +kernel
theorem d_6_clear_5 : decode prog_8_method_2_code 5 = .ok (.aload_n 0, 1) := by decide +kernel
theorem d_6_clear_6 : decode prog_8_method_2_code 6 = .ok (.iconst 0, 1) := by decide +kernel
theorem d_6_clear_7 : decode prog_8_method_2_code 7 = .ok (.putfield 23, 3) := by decide +kernel
theorem d_6_clear_10 : decode prog_8_method_2_code 10 = .ok (.aload_n 0, 1) := by decide +kernel
theorem d_6_clear_11 : decode prog_8_method_2_code 11 = .ok (.iconst 0, 1) := by decide +kernel
theorem d_6_clear_12 : decode prog_8_method_2_code 12 = .ok (.putfield 26, 3) := by decide +kernel
theorem d_6_clear_15 : decode prog_8_method_2_code 15 = .ok (.iconst 0, 1) := by decide +kernel
theorem d_6_clear_16 : decode prog_8_method_2_code 16 = .ok (.istore_n 1, 1) := by decide +kernel
theorem d_6_clear_17 : decode prog_8_method_2_code 17 = .ok (.iload_n 1, 1) := by decide +kernel
theorem d_6_clear_18 : decode prog_8_method_2_code 18 = .ok (.bipush 40, 2) := by decide +kernel
theorem d_6_clear_20 : decode prog_8_method_2_code 20 = .ok (.if_icmp .ge 23, 3) := by decide +kernel
theorem d_6_clear_23 : decode prog_8_method_2_code 23 = .ok (.aload_n 0, 1) := by decide +kernel
theorem d_6_clear_24 : decode prog_8_method_2_code 24 = .ok (.getfield 9, 3) := by decide +kernel
theorem d_6_clear_27 : decode prog_8_method_2_code 27 = .ok (.iload_n 1, 1) := by decide +kernel
theorem d_6_clear_28 : decode prog_8_method_2_code 28 = .ok (.iconst 0, 1) := by decide +kernel
theorem d_6_clear_29 : decode prog_8_method_2_code 29 = .ok (.iastore, 1) := by decide +kernel
theorem d_6_clear_30 : decode prog_8_method_2_code 30 = .ok (.aload_n 0, 1) := by decide +kernel
theorem d_6_clear_31 : decode prog_8_method_2_code 31 = .ok (.getfield 15, 3) := by decide +kernel
theorem d_6_clear_34 : decode prog_8_method_2_code 34 = .ok (.iload_n 1, 1) := by decide +kernel
theorem d_6_clear_35 : decode prog_8_method_2_code 35 = .ok (.iconst 0, 1) := by decide +kernel
theorem d_6_clear_36 : decode prog_8_method_2_code 36 = .ok (.bastore, 1) := by decide +kernel
theorem d_6_clear_37 : decode prog_8_method_2_code 37 = .ok (.iinc 1 1, 3) := by decide +kernel
theorem d_6_clear_40 : decode prog_8_method_2_code 40 = .ok (.goto (-23), 3) := by decide +kernel
theorem d_6_clear_43 : decode prog_8_method_2_code 43 = .ok (.return_, 1) := by decide +kernel
def m_6_clear_17 (r0 : Nat) (Q : St → Prop) (B17 : Int32 → St → Prop) (x1 : Int32) (σ : St) : Prop :=
  (((40 : Int32) ≤ x1 → Q σ) ∧ (¬ (40 : Int32) ≤ x1 → vp_in x1 40 ∧ ∀ σ_1 : St, σ_1 = wr σ (r0 + 1) (x1).toNatClampNeg (0 : Int32) → vp_in x1 40 ∧ ∀ σ_2 : St, σ_2 = wr σ_1 (r0 + 2) (x1).toNatClampNeg (vp_nar .boolean (0 : Int32)) → ∀ x1_3 : Int32, x1_3 = x1 + 1 → B17 x1_3 σ_2))
def m_6_clear (r0 : Nat) (Q : St → Prop) (σ : St) : Prop :=
  ∀ σ_1 : St, σ_1 = wr σ r0 0 (0 : Int32) → ∀ σ_2 : St, σ_2 = wr σ_1 r0 1 (0 : Int32) → ∀ σ_3 : St, σ_3 = wr σ_2 r0 2 (0 : Int32) → itN (m_6_clear_17 r0 Q) (fun _ _ => False) FU (0 : Int32) σ_3
theorem d_8_appendStreet_0 : decode prog_10_method_9_code 0 = .ok (.aload_n 0, 1) := by decide +kernel
theorem d_8_appendStreet_1 : decode prog_10_method_9_code 1 = .ok (.getfield 11, 3) := by decide +kernel
theorem d_8_appendStreet_4 : decode prog_10_method_9_code 4 = .ok (.aload_n 0, 1) := by decide +kernel
theorem d_8_appendStreet_5 : decode prog_10_method_9_code 5 = .ok (.getfield 52, 3) := by decide +kernel
theorem d_8_appendStreet_8 : decode prog_10_method_9_code 8 = .ok (.aaload, 1) := by decide +kernel
theorem d_8_appendStreet_9 : decode prog_10_method_9_code 9 = .ok (.astore 4, 2) := by decide +kernel
theorem d_8_appendStreet_11 : decode prog_10_method_9_code 11 = .ok (.aload 4, 2) := by decide +kernel
theorem d_8_appendStreet_13 : decode prog_10_method_9_code 13 = .ok (.invokevirtual 95, 3) := by decide +kernel
theorem d_8_appendStreet_16 : decode prog_10_method_9_code 16 = .ok (.aload 4, 2) := by decide +kernel
theorem d_8_appendStreet_18 : decode prog_10_method_9_code 18 = .ok (.iload_n 1, 1) := by decide +kernel
theorem d_8_appendStreet_19 : decode prog_10_method_9_code 19 = .ok (.putfield 85, 3) := by decide +kernel
theorem d_8_appendStreet_22 : decode prog_10_method_9_code 22 = .ok (.aload 4, 2) := by decide +kernel
theorem d_8_appendStreet_24 : decode prog_10_method_9_code 24 = .ok (.iload_n 2, 1) := by decide +kernel
theorem d_8_appendStreet_25 : decode prog_10_method_9_code 25 = .ok (.putfield 98, 3) := by decide +kernel
theorem d_8_appendStreet_28 : decode prog_10_method_9_code 28 = .ok (.aload 4, 2) := by decide +kernel
theorem d_8_appendStreet_30 : decode prog_10_method_9_code 30 = .ok (.iload_n 3, 1) := by decide +kernel
theorem d_8_appendStreet_31 : decode prog_10_method_9_code 31 = .ok (.putfield 101, 3) := by decide +kernel
theorem d_8_appendStreet_34 : decode prog_10_method_9_code 34 = .ok (.aload_n 0, 1) := by decide +kernel
theorem d_8_appendStreet_35 : decode prog_10_method_9_code 35 = .ok (.dup, 1) := by decide +kernel
theorem d_8_appendStreet_36 : decode prog_10_method_9_code 36 = .ok (.getfield 52, 3) := by decide +kernel
theorem d_8_appendStreet_39 : decode prog_10_method_9_code 39 = .ok (.iconst 1, 1) := by decide +kernel
theorem d_8_appendStreet_40 : decode prog_10_method_9_code 40 = .ok (.iadd, 1) := by decide +kernel
theorem d_8_appendStreet_41 : decode prog_10_method_9_code 41 = .ok (.putfield 52, 3) := by decide +kernel
theorem d_8_appendStreet_44 : decode prog_10_method_9_code 44 = .ok (.aload_n 0, 1) := by decide +kernel
theorem d_8_appendStreet_45 : decode prog_10_method_9_code 45 = .ok (.iconst 0, 1) := by decide +kernel
theorem d_8_appendStreet_46 : decode prog_10_method_9_code 46 = .ok (.putfield 65, 3) := by decide +kernel
theorem d_8_appendStreet_49 : decode prog_10_method_9_code 49 = .ok (.aload_n 0, 1) := by decide +kernel
theorem d_8_appendStreet_50 : decode prog_10_method_9_code 50 = .ok (.getfield 52, 3) := by decide +kernel
theorem d_8_appendStreet_53 : decode prog_10_method_9_code 53 = .ok (.iconst 1, 1) := by decide +kernel
theorem d_8_appendStreet_54 : decode prog_10_method_9_code 54 = .ok (.isub, 1) := by decide +kernel
theorem d_8_appendStreet_55 : decode prog_10_method_9_code 55 = .ok (.ireturn, 1) := by decide +kernel
def m_8_appendStreet (r0 : Nat) (x1 : Int32) (x2 : Int32) (x3 : Int32) (Q : Int32 → St → Prop) (σ : St) : Prop :=
  vp_in (σ.1 r0 1) 6 ∧ ∀ r4_2 : Nat, r4_2 = ((r0 + 1) + 5 + 3 * ((σ.1 r0 1)).toNatClampNeg) → m_6_clear r4_2 (fun (σ_3 : St) => ∀ σ_5 : St, σ_5 = wr σ_3 r4_2 0 x1 → ∀ σ_6 : St, σ_6 = wr σ_5 r4_2 1 x2 → ∀ σ_7 : St, σ_7 = wr σ_6 r4_2 2 x3 → ∀ σ_8 : St, σ_8 = wr σ_7 r0 1 ((σ_7.1 r0 1) + (1 : Int32)) → ∀ σ_9 : St, σ_9 = wr σ_8 r0 4 (0 : Int32) → Q ((σ_9.1 r0 1) - (1 : Int32)) σ_9) σ
theorem d_9_addStreet_0 : decode prog_1_method_6_code 0 = .ok (.iload_n 1, 1) := by decide +kernel
theorem d_9_addStreet_1 : decode prog_1_method_6_code 1 = .ok (.iconst 1, 1) := by decide +kernel
theorem d_9_addStreet_2 : decode prog_1_method_6_code 2 = .ok (.if_icmp .lt 29, 3) := by decide +kernel
theorem d_9_addStreet_5 : decode prog_1_method_6_code 5 = .ok (.iload_n 1, 1) := by decide +kernel
theorem d_9_addStreet_6 : decode prog_1_method_6_code 6 = .ok (.bipush 20, 2) := by decide +kernel
theorem d_9_addStreet_8 : decode prog_1_method_6_code 8 = .ok (.if_icmp .gt 23, 3) := by decide +kernel
theorem d_9_addStreet_11 : decode prog_1_method_6_code 11 = .ok (.iload_n 2, 1) := by decide +kernel
theorem d_9_addStreet_12 : decode prog_1_method_6_code 12 = .ok (.ifCond .lt 19, 3) := by decide +kernel
theorem d_9_addStreet_15 : decode prog_1_method_6_code 15 = .ok (.iload_n 2, 1) := by decide +kernel
theorem d_9_addStreet_16 : decode prog_1_method_6_code 16 = .ok (.bipush 60, 2) := by decide +kernel
theorem d_9_addStreet_18 : decode prog_1_method_6_code 18 = .ok (.if_icmp .gt 13, 3) := by decide +kernel
theorem d_9_addStreet_21 : decode prog_1_method_6_code 21 = .ok (.iload_n 3, 1) := by decide +kernel
theorem d_9_addStreet_22 : decode prog_1_method_6_code 22 = .ok (.ifCond .lt 9, 3) := by decide +kernel
theorem d_9_addStreet_25 : decode prog_1_method_6_code 25 = .ok (.iload_n 3, 1) := by decide +kernel
theorem d_9_addStreet_26 : decode prog_1_method_6_code 26 = .ok (.bipush 9, 2) := by decide +kernel
theorem d_9_addStreet_28 : decode prog_1_method_6_code 28 = .ok (.if_icmp .le 5, 3) := by decide +kernel
theorem d_9_addStreet_31 : decode prog_1_method_6_code 31 = .ok (.iconst (-1), 1) := by decide +kernel
theorem d_9_addStreet_32 : decode prog_1_method_6_code 32 = .ok (.ireturn, 1) := by decide +kernel
theorem d_9_addStreet_33 : decode prog_1_method_6_code 33 = .ok (.aload_n 0, 1) := by decide +kernel
theorem d_9_addStreet_34 : decode prog_1_method_6_code 34 = .ok (.getfield 26, 3) := by decide +kernel
theorem d_9_addStreet_37 : decode prog_1_method_6_code 37 = .ok (.getfield 70, 3) := by decide +kernel
theorem d_9_addStreet_40 : decode prog_1_method_6_code 40 = .ok (.bipush 6, 2) := by decide +kernel
theorem d_9_addStreet_42 : decode prog_1_method_6_code 42 = .ok (.if_icmp .lt 6, 3) := by decide +kernel
theorem d_9_addStreet_45 : decode prog_1_method_6_code 45 = .ok (.bipush (-3), 2) := by decide +kernel
theorem d_9_addStreet_47 : decode prog_1_method_6_code 47 = .ok (.ireturn, 1) := by decide +kernel
theorem d_9_addStreet_48 : decode prog_1_method_6_code 48 = .ok (.aload_n 0, 1) := by decide +kernel
theorem d_9_addStreet_49 : decode prog_1_method_6_code 49 = .ok (.getfield 42, 3) := by decide +kernel
theorem d_9_addStreet_52 : decode prog_1_method_6_code 52 = .ok (.aload_n 0, 1) := by decide +kernel
theorem d_9_addStreet_53 : decode prog_1_method_6_code 53 = .ok (.getfield 26, 3) := by decide +kernel
theorem d_9_addStreet_56 : decode prog_1_method_6_code 56 = .ok (.invokevirtual 80, 3) := by decide +kernel
theorem d_9_addStreet_59 : decode prog_1_method_6_code 59 = .ok (.aload_n 0, 1) := by decide +kernel
theorem d_9_addStreet_60 : decode prog_1_method_6_code 60 = .ok (.getfield 26, 3) := by decide +kernel
theorem d_9_addStreet_63 : decode prog_1_method_6_code 63 = .ok (.iload_n 1, 1) := by decide +kernel
theorem d_9_addStreet_64 : decode prog_1_method_6_code 64 = .ok (.iload_n 2, 1) := by decide +kernel
theorem d_9_addStreet_65 : decode prog_1_method_6_code 65 = .ok (.iload_n 3, 1) := by decide +kernel
theorem d_9_addStreet_66 : decode prog_1_method_6_code 66 = .ok (.invokevirtual 96, 3) := by decide +kernel
theorem d_9_addStreet_69 : decode prog_1_method_6_code 69 = .ok (.ireturn, 1) := by decide +kernel
def m_9_addStreet (r0 : Nat) (x1 : Int32) (x2 : Int32) (x3 : Int32) (Q : Int32 → St → Prop) (σ : St) : Prop :=
  ((x1 < (1 : Int32) → Q (-1 : Int32) σ) ∧ (¬ x1 < (1 : Int32) → (((20 : Int32) < x1 → Q (-1 : Int32) σ) ∧ (¬ (20 : Int32) < x1 → ((x2 < 0 → Q (-1 : Int32) σ) ∧ (¬ x2 < 0 → (((60 : Int32) < x2 → Q (-1 : Int32) σ) ∧ (¬ (60 : Int32) < x2 → ((x3 < 0 → Q (-1 : Int32) σ) ∧ (¬ x3 < 0 → ((x3 ≤ (9 : Int32) → (((σ.1 (r0 + 7) 1) < (6 : Int32) → m_0_remember (r0 + 42) (r0 + 7) (fun (σ_1 : St) => m_8_appendStreet (r0 + 7) x1 x2 x3 (fun (v_4 : Int32) (σ_3 : St) => Q v_4 σ_3) σ_1) σ) ∧ (¬ (σ.1 (r0 + 7) 1) < (6 : Int32) → Q (-3 : Int32) σ))) ∧ (¬ x3 ≤ (9 : Int32) → Q (-1 : Int32) σ))))))))))))
theorem d_8_hasStreet_0 : decode prog_10_method_3_code 0 = .ok (.iload_n 1, 1) := by decide +kernel
theorem d_8_hasStreet_1 : decode prog_10_method_3_code 1 = .ok (.ifCond .lt 15, 3) := by decide +kernel
theorem d_8_hasStreet_4 : decode prog_10_method_3_code 4 = .ok (.iload_n 1, 1) := by decide +kernel
theorem d_8_hasStreet_5 : decode prog_10_method_3_code 5 = .ok (.aload_n 0, 1) := by decide +kernel
theorem d_8_hasStreet_6 : decode prog_10_method_3_code 6 = .ok (.getfield 52, 3) := by decide +kernel
theorem d_8_hasStreet_9 : decode prog_10_method_3_code 9 = .ok (.if_icmp .ge 7, 3) := by decide +kernel
theorem d_8_hasStreet_12 : decode prog_10_method_3_code 12 = .ok (.iconst 1, 1) := by decide +kernel
theorem d_8_hasStreet_13 : decode prog_10_method_3_code 13 = .ok (.goto 4, 3) := by decide +kernel
theorem d_8_hasStreet_16 : decode prog_10_method_3_code 16 = .ok (.iconst 0, 1) := by decide +kernel
theorem d_8_hasStreet_17 : decode prog_10_method_3_code 17 = .ok (.ireturn, 1) := by decide +kernel
def m_8_hasStreet (r0 : Nat) (x1 : Int32) (Q : Int32 → St → Prop) (σ : St) : Prop :=
  ((x1 < 0 → Q (0 : Int32) σ) ∧ (¬ x1 < 0 → (((σ.1 r0 1) ≤ x1 → Q (0 : Int32) σ) ∧ (¬ (σ.1 r0 1) ≤ x1 → Q (1 : Int32) σ))))
theorem d_8_hasCell_0 : decode prog_10_method_4_code 0 = .ok (.aload_n 0, 1) := by decide +kernel
theorem d_8_hasCell_1 : decode prog_10_method_4_code 1 = .ok (.iload_n 1, 1) := by decide +kernel
theorem d_8_hasCell_2 : decode prog_10_method_4_code 2 = .ok (.invokevirtual 81, 3) := by decide +kernel
theorem d_8_hasCell_5 : decode prog_10_method_4_code 5 = .ok (.ifCond .eq 33, 3) := by decide +kernel
theorem d_8_hasCell_8 : decode prog_10_method_4_code 8 = .ok (.iload_n 2, 1) := by decide +kernel
theorem d_8_hasCell_9 : decode prog_10_method_4_code 9 = .ok (.ifCond .lt 29, 3) := by decide +kernel
theorem d_8_hasCell_12 : decode prog_10_method_4_code 12 = .ok (.iload_n 2, 1) := by decide +kernel
theorem d_8_hasCell_13 : decode prog_10_method_4_code 13 = .ok (.iconst 2, 1) := by decide +kernel
theorem d_8_hasCell_14 : decode prog_10_method_4_code 14 = .ok (.if_icmp .ge 24, 3) := by decide +kernel
theorem d_8_hasCell_17 : decode prog_10_method_4_code 17 = .ok (.iload_n 3, 1) := by decide +kernel
theorem d_8_hasCell_18 : decode prog_10_method_4_code 18 = .ok (.ifCond .lt 20, 3) := by decide +kernel
theorem d_8_hasCell_21 : decode prog_10_method_4_code 21 = .ok (.iload_n 3, 1) := by decide +kernel
theorem d_8_hasCell_22 : decode prog_10_method_4_code 22 = .ok (.aload_n 0, 1) := by decide +kernel
theorem d_8_hasCell_23 : decode prog_10_method_4_code 23 = .ok (.getfield 11, 3) := by decide +kernel
theorem d_8_hasCell_26 : decode prog_10_method_4_code 26 = .ok (.iload_n 1, 1) := by decide +kernel
theorem d_8_hasCell_27 : decode prog_10_method_4_code 27 = .ok (.aaload, 1) := by decide +kernel
theorem d_8_hasCell_28 : decode prog_10_method_4_code 28 = .ok (.getfield 85, 3) := by decide +kernel
theorem d_8_hasCell_31 : decode prog_10_method_4_code 31 = .ok (.if_icmp .ge 7, 3) := by decide +kernel
theorem d_8_hasCell_34 : decode prog_10_method_4_code 34 = .ok (.iconst 1, 1) := by decide +kernel
theorem d_8_hasCell_35 : decode prog_10_method_4_code 35 = .ok (.goto 4, 3) := by decide +kernel
theorem d_8_hasCell_38 : decode prog_10_method_4_code 38 = .ok (.iconst 0, 1) := by decide +kernel
theorem d_8_hasCell_39 : decode prog_10_method_4_code 39 = .ok (.ireturn, 1) := by decide +kernel
def m_8_hasCell (r0 : Nat) (x1 : Int32) (x2 : Int32) (x3 : Int32) (Q : Int32 → St → Prop) (σ : St) : Prop :=
  m_8_hasStreet r0 x1 (fun (v_2 : Int32) (σ_1 : St) => ((v_2 = 0 → Q (0 : Int32) σ_1) ∧ (¬ v_2 = 0 → ((x2 < 0 → Q (0 : Int32) σ_1) ∧ (¬ x2 < 0 → (((2 : Int32) ≤ x2 → Q (0 : Int32) σ_1) ∧ (¬ (2 : Int32) ≤ x2 → ((x3 < 0 → Q (0 : Int32) σ_1) ∧ (¬ x3 < 0 → vp_in x1 6 ∧ (((σ_1.1 ((r0 + 1) + 5 + 3 * (x1).toNatClampNeg) 0) ≤ x3 → Q (0 : Int32) σ_1) ∧ (¬ (σ_1.1 ((r0 + 1) + 5 + 3 * (x1).toNatClampNeg) 0) ≤ x3 → Q (1 : Int32) σ_1))))))))))) σ
theorem d_9_placeOf_0 : decode prog_1_method_32_code 0 = .ok (.iload_n 0, 1) := by decide +kernel
theorem d_9_placeOf_1 : decode prog_1_method_32_code 1 = .ok (.bipush 20, 2) := by decide +kernel
theorem d_9_placeOf_3 : decode prog_1_method_32_code 3 = .ok (.imul, 1) := by decide +kernel
theorem d_9_placeOf_4 : decode prog_1_method_32_code 4 = .ok (.iload_n 1, 1) := by decide +kernel
theorem d_9_placeOf_5 : decode prog_1_method_32_code 5 = .ok (.iadd, 1) := by decide +kernel
theorem d_9_placeOf_6 : decode prog_1_method_32_code 6 = .ok (.ireturn, 1) := by decide +kernel
def m_9_placeOf (x0 : Int32) (x1 : Int32) (Q : Int32 → St → Prop) (σ : St) : Prop :=
  Q ((x0 * (20 : Int32)) + x1) σ
theorem d_8_layDirt_0 : decode prog_10_method_14_code 0 = .ok (.aload_n 0, 1) := by decide +kernel
theorem d_8_layDirt_1 : decode prog_10_method_14_code 1 = .ok (.getfield 11, 3) := by decide +kernel
theorem d_8_layDirt_4 : decode prog_10_method_14_code 4 = .ok (.iload_n 1, 1) := by decide +kernel
theorem d_8_layDirt_5 : decode prog_10_method_14_code 5 = .ok (.aaload, 1) := by decide +kernel
theorem d_8_layDirt_6 : decode prog_10_method_14_code 6 = .ok (.getfield 111, 3) := by decide +kernel
theorem d_8_layDirt_9 : decode prog_10_method_14_code 9 = .ok (.astore 4, 2) := by decide +kernel
theorem d_8_layDirt_11 : decode prog_10_method_14_code 11 = .ok (.aload 4, 2) := by decide +kernel
theorem d_8_layDirt_13 : decode prog_10_method_14_code 13 = .ok (.iload_n 2, 1) := by decide +kernel
theorem d_8_layDirt_14 : decode prog_10_method_14_code 14 = .ok (.iaload, 1) := by decide +kernel
theorem d_8_layDirt_15 : decode prog_10_method_14_code 15 = .ok (.istore 5, 2) := by decide +kernel
theorem d_8_layDirt_17 : decode prog_10_method_14_code 17 = .ok (.aload 4, 2) := by decide +kernel
theorem d_8_layDirt_19 : decode prog_10_method_14_code 19 = .ok (.iload_n 2, 1) := by decide +kernel
theorem d_8_layDirt_20 : decode prog_10_method_14_code 20 = .ok (.iload_n 3, 1) := by decide +kernel
theorem d_8_layDirt_21 : decode prog_10_method_14_code 21 = .ok (.iastore, 1) := by decide +kernel
theorem d_8_layDirt_22 : decode prog_10_method_14_code 22 = .ok (.aload_n 0, 1) := by decide +kernel
theorem d_8_layDirt_23 : decode prog_10_method_14_code 23 = .ok (.getfield 27, 3) := by decide +kernel
theorem d_8_layDirt_26 : decode prog_10_method_14_code 26 = .ok (.iconst 0, 1) := by decide +kernel
theorem d_8_layDirt_27 : decode prog_10_method_14_code 27 = .ok (.dup2, 1) := by decide +kernel
theorem d_8_layDirt_28 : decode prog_10_method_14_code 28 = .ok (.iaload, 1) := by decide +kernel
theorem d_8_layDirt_29 : decode prog_10_method_14_code 29 = .ok (.iconst 0, 1) := by decide +kernel
theorem d_8_layDirt_30 : decode prog_10_method_14_code 30 = .ok (.iload_n 3, 1) := by decide +kernel
theorem d_8_layDirt_31 : decode prog_10_method_14_code 31 = .ok (.iload 5, 2) := by decide +kernel
theorem d_8_layDirt_33 : decode prog_10_method_14_code 33 = .ok (.isub, 1) := by decide +kernel
theorem d_8_layDirt_34 : decode prog_10_method_14_code 34 = .ok (.invokestatic 114, 3) := by decide +kernel
theorem d_8_layDirt_37 : decode prog_10_method_14_code 37 = .ok (.iadd, 1) := by decide +kernel
theorem d_8_layDirt_38 : decode prog_10_method_14_code 38 = .ok (.iastore, 1) := by decide +kernel
theorem d_8_layDirt_39 : decode prog_10_method_14_code 39 = .ok (.aload_n 0, 1) := by decide +kernel
theorem d_8_layDirt_40 : decode prog_10_method_14_code 40 = .ok (.getfield 27, 3) := by decide +kernel
theorem d_8_layDirt_43 : decode prog_10_method_14_code 43 = .ok (.iconst 2, 1) := by decide +kernel
theorem d_8_layDirt_44 : decode prog_10_method_14_code 44 = .ok (.dup2, 1) := by decide +kernel
theorem d_8_layDirt_45 : decode prog_10_method_14_code 45 = .ok (.iaload, 1) := by decide +kernel
theorem d_8_layDirt_46 : decode prog_10_method_14_code 46 = .ok (.iconst 0, 1) := by decide +kernel
theorem d_8_layDirt_47 : decode prog_10_method_14_code 47 = .ok (.iload 5, 2) := by decide +kernel
theorem d_8_layDirt_49 : decode prog_10_method_14_code 49 = .ok (.iload_n 3, 1) := by decide +kernel
theorem d_8_layDirt_50 : decode prog_10_method_14_code 50 = .ok (.isub, 1) := by decide +kernel
theorem d_8_layDirt_51 : decode prog_10_method_14_code 51 = .ok (.invokestatic 114, 3) := by decide +kernel
theorem d_8_layDirt_54 : decode prog_10_method_14_code 54 = .ok (.iadd, 1) := by decide +kernel
theorem d_8_layDirt_55 : decode prog_10_method_14_code 55 = .ok (.iastore, 1) := by decide +kernel
theorem d_8_layDirt_56 : decode prog_10_method_14_code 56 = .ok (.iload 5, 2) := by decide +kernel
theorem d_8_layDirt_58 : decode prog_10_method_14_code 58 = .ok (.ireturn, 1) := by decide +kernel
def m_8_layDirt (r0 : Nat) (x1 : Int32) (x2 : Int32) (x3 : Int32) (Q : Int32 → St → Prop) (σ : St) : Prop :=
  vp_in x1 6 ∧ ∀ r4_2 : Nat, r4_2 = (((r0 + 1) + 5 + 3 * (x1).toNatClampNeg) + 1) → vp_in x2 40 ∧ ∀ x5_3 : Int32, x5_3 = (σ.1 r4_2 (x2).toNatClampNeg) → vp_in x2 40 ∧ ∀ σ_4 : St, σ_4 = wr σ r4_2 (x2).toNatClampNeg x3 → vp_in (0 : Int32) 6 ∧ vp_in (0 : Int32) 6 ∧ ∀ σ_5 : St, σ_5 = wr σ_4 (r0 + 4) ((0 : Int32)).toNatClampNeg ((σ_4.1 (r0 + 4) ((0 : Int32)).toNatClampNeg) + (if (0 : Int32) < (x3 - x5_3) then (x3 - x5_3) else (0 : Int32))) → vp_in (2 : Int32) 6 ∧ vp_in (2 : Int32) 6 ∧ ∀ σ_6 : St, σ_6 = wr σ_5 (r0 + 4) ((2 : Int32)).toNatClampNeg ((σ_5.1 (r0 + 4) ((2 : Int32)).toNatClampNeg) + (if (0 : Int32) < (x5_3 - x3) then (x5_3 - x3) else (0 : Int32))) → Q x5_3 σ_6
theorem d_9_lay_0 : decode prog_1_method_8_code 0 = .ok (.aload_n 0, 1) := by decide +kernel
theorem d_9_lay_1 : decode prog_1_method_8_code 1 = .ok (.getfield 26, 3) := by decide +kernel
theorem d_9_lay_4 : decode prog_1_method_8_code 4 = .ok (.iload_n 1, 1) := by decide +kernel
theorem d_9_lay_5 : decode prog_1_method_8_code 5 = .ok (.iload_n 2, 1) := by decide +kernel
theorem d_9_lay_6 : decode prog_1_method_8_code 6 = .ok (.iload_n 3, 1) := by decide +kernel
theorem d_9_lay_7 : decode prog_1_method_8_code 7 = .ok (.invokevirtual 111, 3) := by decide +kernel
theorem d_9_lay_10 : decode prog_1_method_8_code 10 = .ok (.ifCond .eq 15, 3) := by decide +kernel
theorem d_9_lay_13 : decode prog_1_method_8_code 13 = .ok (.iload 4, 2) := by decide +kernel
theorem d_9_lay_15 : decode prog_1_method_8_code 15 = .ok (.ifCond .lt 10, 3) := by decide +kernel
theorem d_9_lay_18 : decode prog_1_method_8_code 18 = .ok (.iload 4, 2) := by decide +kernel
theorem d_9_lay_20 : decode prog_1_method_8_code 20 = .ok (.bipush 99, 2) := by decide +kernel
theorem d_9_lay_22 : decode prog_1_method_8_code 22 = .ok (.if_icmp .le 5, 3) := by decide +kernel
theorem d_9_lay_25 : decode prog_1_method_8_code 25 = .ok (.iconst (-1), 1) := by decide +kernel
theorem d_9_lay_26 : decode prog_1_method_8_code 26 = .ok (.ireturn, 1) := by decide +kernel
theorem d_9_lay_27 : decode prog_1_method_8_code 27 = .ok (.aload_n 0, 1) := by decide +kernel
theorem d_9_lay_28 : decode prog_1_method_8_code 28 = .ok (.getfield 42, 3) := by decide +kernel
theorem d_9_lay_31 : decode prog_1_method_8_code 31 = .ok (.aload_n 0, 1) := by decide +kernel
theorem d_9_lay_32 : decode prog_1_method_8_code 32 = .ok (.getfield 26, 3) := by decide +kernel
theorem d_9_lay_35 : decode prog_1_method_8_code 35 = .ok (.invokevirtual 80, 3) := by decide +kernel
theorem d_9_lay_38 : decode prog_1_method_8_code 38 = .ok (.aload_n 0, 1) := by decide +kernel
theorem d_9_lay_39 : decode prog_1_method_8_code 39 = .ok (.getfield 26, 3) := by decide +kernel
theorem d_9_lay_42 : decode prog_1_method_8_code 42 = .ok (.iload_n 1, 1) := by decide +kernel
theorem d_9_lay_43 : decode prog_1_method_8_code 43 = .ok (.iload_n 2, 1) := by decide +kernel
theorem d_9_lay_44 : decode prog_1_method_8_code 44 = .ok (.iload_n 3, 1) := by decide +kernel
theorem d_9_lay_45 : decode prog_1_method_8_code 45 = .ok (.invokestatic 115, 3) := by decide +kernel
theorem d_9_lay_48 : decode prog_1_method_8_code 48 = .ok (.iload 4, 2) := by decide +kernel
theorem d_9_lay_50 : decode prog_1_method_8_code 50 = .ok (.invokevirtual 119, 3) := by decide +kernel
theorem d_9_lay_53 : decode prog_1_method_8_code 53 = .ok (.ireturn, 1) := by decide +kernel
def m_9_lay (r0 : Nat) (x1 : Int32) (x2 : Int32) (x3 : Int32) (x4 : Int32) (Q : Int32 → St → Prop) (σ : St) : Prop :=
  m_8_hasCell (r0 + 7) x1 x2 x3 (fun (v_2 : Int32) (σ_1 : St) => ((v_2 = 0 → Q (-1 : Int32) σ_1) ∧ (¬ v_2 = 0 → ((x4 < 0 → Q (-1 : Int32) σ_1) ∧ (¬ x4 < 0 → ((x4 ≤ (99 : Int32) → m_0_remember (r0 + 42) (r0 + 7) (fun (σ_3 : St) => m_9_placeOf x2 x3 (fun (v_6 : Int32) (σ_5 : St) => m_8_layDirt (r0 + 7) x1 v_6 x4 (fun (v_8 : Int32) (σ_7 : St) => Q v_8 σ_7) σ_5) σ_3) σ_1) ∧ (¬ x4 ≤ (99 : Int32) → Q (-1 : Int32) σ_1))))))) σ
theorem d_9_park_0 : decode prog_1_method_9_code 0 = .ok (.aload_n 0, 1) := by decide +kernel
theorem d_9_park_1 : decode prog_1_method_9_code 1 = .ok (.getfield 26, 3) := by decide +kernel
theorem d_9_park_4 : decode prog_1_method_9_code 4 = .ok (.iload_n 1, 1) := by decide +kernel
theorem d_9_park_5 : decode prog_1_method_9_code 5 = .ok (.iload_n 2, 1) := by decide +kernel
theorem d_9_park_6 : decode prog_1_method_9_code 6 = .ok (.iload_n 3, 1) := by decide +kernel
theorem d_9_park_7 : decode prog_1_method_9_code 7 = .ok (.invokevirtual 111, 3) := by decide +kernel
theorem d_9_park_10 : decode prog_1_method_9_code 10 = .ok (.ifCond .ne 5, 3) := by decide +kernel
theorem d_9_park_13 : decode prog_1_method_9_code 13 = .ok (.iconst (-1), 1) := by decide +kernel
theorem d_9_park_14 : decode prog_1_method_9_code 14 = .ok (.ireturn, 1) := by decide +kernel
theorem d_9_park_15 : decode prog_1_method_9_code 15 = .ok (.aload_n 0, 1) := by decide +kernel
theorem d_9_park_16 : decode prog_1_method_9_code 16 = .ok (.getfield 42, 3) := by decide +kernel
theorem d_9_park_19 : decode prog_1_method_9_code 19 = .ok (.aload_n 0, 1) := by decide +kernel
theorem d_9_park_20 : decode prog_1_method_9_code 20 = .ok (.getfield 26, 3) := by decide +kernel
theorem d_9_park_23 : decode prog_1_method_9_code 23 = .ok (.invokevirtual 80, 3) := by decide +kernel
theorem d_9_park_26 : decode prog_1_method_9_code 26 = .ok (.aload_n 0, 1) := by decide +kernel
theorem d_9_park_27 : decode prog_1_method_9_code 27 = .ok (.getfield 26, 3) := by decide +kernel
theorem d_9_park_30 : decode prog_1_method_9_code 30 = .ok (.getfield 122, 3) := by decide +kernel
theorem d_9_park_33 : decode prog_1_method_9_code 33 = .ok (.iload_n 1, 1) := by decide +kernel
theorem d_9_park_34 : decode prog_1_method_9_code 34 = .ok (.aaload, 1) := by decide +kernel
theorem d_9_park_35 : decode prog_1_method_9_code 35 = .ok (.getfield 126, 3) := by decide +kernel
theorem d_9_park_38 : decode prog_1_method_9_code 38 = .ok (.astore 5, 2) := by decide +kernel
theorem d_9_park_40 : decode prog_1_method_9_code 40 = .ok (.iload_n 2, 1) := by decide +kernel
theorem d_9_park_41 : decode prog_1_method_9_code 41 = .ok (.iload_n 3, 1) := by decide +kernel
theorem d_9_park_42 : decode prog_1_method_9_code 42 = .ok (.invokestatic 115, 3) := by decide +kernel
theorem d_9_park_45 : decode prog_1_method_9_code 45 = .ok (.istore 6, 2) := by decide +kernel
theorem d_9_park_47 : decode prog_1_method_9_code 47 = .ok (.aload 5, 2) := by decide +kernel
theorem d_9_park_49 : decode prog_1_method_9_code 49 = .ok (.iload 6, 2) := by decide +kernel
theorem d_9_park_51 : decode prog_1_method_9_code 51 = .ok (.baload, 1) := by decide +kernel
theorem d_9_park_52 : decode prog_1_method_9_code 52 = .ok (.istore 7, 2) := by decide +kernel
theorem d_9_park_54 : decode prog_1_method_9_code 54 = .ok (.aload 5, 2) := by decide +kernel
theorem d_9_park_56 : decode prog_1_method_9_code 56 = .ok (.iload 6, 2) := by decide +kernel
theorem d_9_park_58 : decode prog_1_method_9_code 58 = .ok (.iload 4, 2) := by decide +kernel
theorem d_9_park_60 : decode prog_1_method_9_code 60 = .ok (.bastore, 1) := by decide +kernel
theorem d_9_park_61 : decode prog_1_method_9_code 61 = .ok (.iload 7, 2) := by decide +kernel
theorem d_9_park_63 : decode prog_1_method_9_code 63 = .ok (.ifCond .eq 7, 3) := by decide +kernel
theorem d_9_park_66 : decode prog_1_method_9_code 66 = .ok (.iconst 1, 1) := by decide +kernel
theorem d_9_park_67 : decode prog_1_method_9_code 67 = .ok (.goto 4, 3) := by decide +kernel
theorem d_9_park_70 : decode prog_1_method_9_code 70 = .ok (.iconst 0, 1) := by decide +kernel
theorem d_9_park_71 : decode prog_1_method_9_code 71 = .ok (.ireturn, 1) := by decide +kernel
def m_9_park (r0 : Nat) (x1 : Int32) (x2 : Int32) (x3 : Int32) (x4 : Int32) (Q : Int32 → St → Prop) (σ : St) : Prop :=
  m_8_hasCell (r0 + 7) x1 x2 x3 (fun (v_2 : Int32) (σ_1 : St) => ((¬ v_2 = 0 → m_0_remember (r0 + 42) (r0 + 7) (fun (σ_3 : St) => vp_in x1 6 ∧ ∀ r5_6 : Nat, r5_6 = ((((r0 + 7) + 1) + 5 + 3 * (x1).toNatClampNeg) + 2) → m_9_placeOf x2 x3 (fun (v_8 : Int32) (σ_7 : St) => vp_in v_8 40 ∧ ∀ x7_9 : Int32, x7_9 = (σ_7.1 r5_6 (v_8).toNatClampNeg) → vp_in v_8 40 ∧ ∀ σ_10 : St, σ_10 = wr σ_7 r5_6 (v_8).toNatClampNeg (vp_nar .boolean x4) → ((x7_9 = 0 → Q (0 : Int32) σ_10) ∧ (¬ x7_9 = 0 → Q (1 : Int32) σ_10))) σ_3) σ_1) ∧ (v_2 = 0 → Q (-1 : Int32) σ_1))) σ
theorem d_8_grip_0 : decode prog_10_method_16_code 0 = .ok (.bipush 100, 2) := by decide +kernel
theorem d_8_grip_2 : decode prog_10_method_16_code 2 = .ok (.bipush 15, 2) := by decide +kernel
theorem d_8_grip_4 : decode prog_10_method_16_code 4 = .ok (.aload_n 0, 1) := by decide +kernel
theorem d_8_grip_5 : decode prog_10_method_16_code 5 = .ok (.getfield 23, 3) := by decide +kernel
theorem d_8_grip_8 : decode prog_10_method_16_code 8 = .ok (.iconst 0, 1) := by decide +kernel
theorem d_8_grip_9 : decode prog_10_method_16_code 9 = .ok (.iaload, 1) := by decide +kernel
theorem d_8_grip_10 : decode prog_10_method_16_code 10 = .ok (.iconst 1, 1) := by decide +kernel
theorem d_8_grip_11 : decode prog_10_method_16_code 11 = .ok (.isub, 1) := by decide +kernel
theorem d_8_grip_12 : decode prog_10_method_16_code 12 = .ok (.imul, 1) := by decide +kernel
theorem d_8_grip_13 : decode prog_10_method_16_code 13 = .ok (.isub, 1) := by decide +kernel
theorem d_8_grip_14 : decode prog_10_method_16_code 14 = .ok (.aload_n 0, 1) := by decide +kernel
theorem d_8_grip_15 : decode prog_10_method_16_code 15 = .ok (.getfield 48, 3) := by decide +kernel
theorem d_8_grip_18 : decode prog_10_method_16_code 18 = .ok (.imul, 1) := by decide +kernel
theorem d_8_grip_19 : decode prog_10_method_16_code 19 = .ok (.sipush 1000, 3) := by decide +kernel
theorem d_8_grip_22 : decode prog_10_method_16_code 22 = .ok (.idiv, 1) := by decide +kernel
theorem d_8_grip_23 : decode prog_10_method_16_code 23 = .ok (.ireturn, 1) := by decide +kernel
def m_8_grip (r0 : Nat) (Q : Int32 → St → Prop) (σ : St) : Prop :=
  vp_in (0 : Int32) 6 ∧ Q ((((100 : Int32) - ((15 : Int32) * ((σ.1 (r0 + 3) ((0 : Int32)).toNatClampNeg) - (1 : Int32)))) * (σ.1 r0 6)) / (1000 : Int32)) σ
theorem d_6_couldGive_0 : decode prog_8_method_8_code 0 = .ok (.aload_n 0, 1) := by decide +kernel
theorem d_6_couldGive_1 : decode prog_8_method_8_code 1 = .ok (.getfield 15, 3) := by decide +kernel
theorem d_6_couldGive_4 : decode prog_8_method_8_code 4 = .ok (.iload_n 1, 1) := by decide +kernel
theorem d_6_couldGive_5 : decode prog_8_method_8_code 5 = .ok (.baload, 1) := by decide +kernel
theorem d_6_couldGive_6 : decode prog_8_method_8_code 6 = .ok (.ifCond .eq 7, 3) := by decide +kernel
theorem d_6_couldGive_9 : decode prog_8_method_8_code 9 = .ok (.iconst 0, 1) := by decide +kernel
theorem d_6_couldGive_10 : decode prog_8_method_8_code 10 = .ok (.goto 14, 3) := by decide +kernel
theorem d_6_couldGive_13 : decode prog_8_method_8_code 13 = .ok (.aload_n 0, 1) := by decide +kernel
theorem d_6_couldGive_14 : decode prog_8_method_8_code 14 = .ok (.getfield 9, 3) := by decide +kernel
theorem d_6_couldGive_17 : decode prog_8_method_8_code 17 = .ok (.iload_n 1, 1) := by decide +kernel
theorem d_6_couldGive_18 : decode prog_8_method_8_code 18 = .ok (.iaload, 1) := by decide +kernel
theorem d_6_couldGive_19 : decode prog_8_method_8_code 19 = .ok (.iload_n 2, 1) := by decide +kernel
theorem d_6_couldGive_20 : decode prog_8_method_8_code 20 = .ok (.imul, 1) := by decide +kernel
theorem d_6_couldGive_21 : decode prog_8_method_8_code 21 = .ok (.bipush 100, 2) := by decide +kernel
theorem d_6_couldGive_23 : decode prog_8_method_8_code 23 = .ok (.idiv, 1) := by decide +kernel
theorem d_6_couldGive_24 : decode prog_8_method_8_code 24 = .ok (.ireturn, 1) := by decide +kernel
def m_6_couldGive (r0 : Nat) (x1 : Int32) (x2 : Int32) (Q : Int32 → St → Prop) (σ : St) : Prop :=
  vp_in x1 40 ∧ (((σ.1 (r0 + 2) (x1).toNatClampNeg) = 0 → vp_in x1 40 ∧ Q (((σ.1 (r0 + 1) (x1).toNatClampNeg) * x2) / (100 : Int32)) σ) ∧ (¬ (σ.1 (r0 + 2) (x1).toNatClampNeg) = 0 → Q (0 : Int32) σ))
theorem d_8_room_0 : decode prog_10_method_17_code 0 = .ok (.aload_n 0, 1) := by decide +kernel
theorem d_8_room_1 : decode prog_10_method_17_code 1 = .ok (.getfield 23, 3) := by decide +kernel
theorem d_8_room_4 : decode prog_10_method_17_code 4 = .ok (.iconst 1, 1) := by decide +kernel
theorem d_8_room_5 : decode prog_10_method_17_code 5 = .ok (.iaload, 1) := by decide +kernel
theorem d_8_room_6 : decode prog_10_method_17_code 6 = .ok (.aload_n 0, 1) := by decide +kernel
theorem d_8_room_7 : decode prog_10_method_17_code 7 = .ok (.getfield 69, 3) := by decide +kernel
theorem d_8_room_10 : decode prog_10_method_17_code 10 = .ok (.isub, 1) := by decide +kernel
theorem d_8_room_11 : decode prog_10_method_17_code 11 = .ok (.ireturn, 1) := by decide +kernel
def m_8_room (r0 : Nat) (Q : Int32 → St → Prop) (σ : St) : Prop :=
  vp_in (1 : Int32) 6 ∧ Q ((σ.1 (r0 + 3) ((1 : Int32)).toNatClampNeg) - (σ.1 r0 7)) σ
theorem d_9_cell_0 : decode prog_1_method_10_code 0 = .ok (.aload_n 0, 1) := by decide +kernel
theorem d_9_cell_1 : decode prog_1_method_10_code 1 = .ok (.getfield 26, 3) := by decide +kernel
theorem d_9_cell_4 : decode prog_1_method_10_code 4 = .ok (.iload_n 1, 1) := by decide +kernel
theorem d_9_cell_5 : decode prog_1_method_10_code 5 = .ok (.iload_n 2, 1) := by decide +kernel
theorem d_9_cell_6 : decode prog_1_method_10_code 6 = .ok (.iload_n 3, 1) := by decide +kernel
theorem d_9_cell_7 : decode prog_1_method_10_code 7 = .ok (.invokevirtual 111, 3) := by decide +kernel
theorem d_9_cell_10 : decode prog_1_method_10_code 10 = .ok (.ifCond .ne 5, 3) := by decide +kernel
theorem d_9_cell_13 : decode prog_1_method_10_code 13 = .ok (.iconst (-1), 1) := by decide +kernel
theorem d_9_cell_14 : decode prog_1_method_10_code 14 = .ok (.ireturn, 1) := by decide +kernel
theorem d_9_cell_15 : decode prog_1_method_10_code 15 = .ok (.aload_n 0, 1) := by decide +kernel
theorem d_9_cell_16 : decode prog_1_method_10_code 16 = .ok (.getfield 26, 3) := by decide +kernel
theorem d_9_cell_19 : decode prog_1_method_10_code 19 = .ok (.getfield 122, 3) := by decide +kernel
theorem d_9_cell_22 : decode prog_1_method_10_code 22 = .ok (.iload_n 1, 1) := by decide +kernel
theorem d_9_cell_23 : decode prog_1_method_10_code 23 = .ok (.aaload, 1) := by decide +kernel
theorem d_9_cell_24 : decode prog_1_method_10_code 24 = .ok (.astore 5, 2) := by decide +kernel
theorem d_9_cell_26 : decode prog_1_method_10_code 26 = .ok (.iload_n 2, 1) := by decide +kernel
theorem d_9_cell_27 : decode prog_1_method_10_code 27 = .ok (.iload_n 3, 1) := by decide +kernel
theorem d_9_cell_28 : decode prog_1_method_10_code 28 = .ok (.invokestatic 115, 3) := by decide +kernel
theorem d_9_cell_31 : decode prog_1_method_10_code 31 = .ok (.istore 6, 2) := by decide +kernel
theorem d_9_cell_33 : decode prog_1_method_10_code 33 = .ok (.iload 4, 2) := by decide +kernel
theorem d_9_cell_35 : decode prog_1_method_10_code 35 = .ok (.tableswitch 76 0 2 #[25, 34, 51], 25) := by decide +kernel
theorem d_9_cell_60 : decode prog_1_method_10_code 60 = .ok (.aload 5, 2) := by decide +kernel
theorem d_9_cell_62 : decode prog_1_method_10_code 62 = .ok (.getfield 130, 3) := by decide +kernel
theorem d_9_cell_65 : decode prog_1_method_10_code 65 = .ok (.iload 6, 2) := by decide +kernel
theorem d_9_cell_67 : decode prog_1_method_10_code 67 = .ok (.iaload, 1) := by decide +kernel
theorem d_9_cell_68 : decode prog_1_method_10_code 68 = .ok (.ireturn, 1) := by decide +kernel
theorem d_9_cell_69 : decode prog_1_method_10_code 69 = .ok (.aload 5, 2) := by decide +kernel
theorem d_9_cell_71 : decode prog_1_method_10_code 71 = .ok (.getfield 126, 3) := by decide +kernel
theorem d_9_cell_74 : decode prog_1_method_10_code 74 = .ok (.iload 6, 2) := by decide +kernel
theorem d_9_cell_76 : decode prog_1_method_10_code 76 = .ok (.baload, 1) := by decide +kernel
theorem d_9_cell_77 : decode prog_1_method_10_code 77 = .ok (.ifCond .eq 7, 3) := by decide +kernel
theorem d_9_cell_80 : decode prog_1_method_10_code 80 = .ok (.iconst 1, 1) := by decide +kernel
theorem d_9_cell_81 : decode prog_1_method_10_code 81 = .ok (.goto 4, 3) := by decide +kernel
theorem d_9_cell_84 : decode prog_1_method_10_code 84 = .ok (.iconst 0, 1) := by decide +kernel
theorem d_9_cell_85 : decode prog_1_method_10_code 85 = .ok (.ireturn, 1) := by decide +kernel
theorem d_9_cell_86 : decode prog_1_method_10_code 86 = .ok (.aload 5, 2) := by decide +kernel
theorem d_9_cell_88 : decode prog_1_method_10_code 88 = .ok (.iload 6, 2) := by decide +kernel
theorem d_9_cell_90 : decode prog_1_method_10_code 90 = .ok (.aload_n 0, 1) := by decide +kernel
theorem d_9_cell_91 : decode prog_1_method_10_code 91 = .ok (.getfield 26, 3) := by decide +kernel
theorem d_9_cell_94 : decode prog_1_method_10_code 94 = .ok (.invokevirtual 134, 3) := by decide +kernel
theorem d_9_cell_97 : decode prog_1_method_10_code 97 = .ok (.invokevirtual 138, 3) := by decide +kernel
theorem d_9_cell_100 : decode prog_1_method_10_code 100 = .ok (.aload_n 0, 1) := by decide +kernel
theorem d_9_cell_101 : decode prog_1_method_10_code 101 = .ok (.getfield 26, 3) := by decide +kernel
theorem d_9_cell_104 : decode prog_1_method_10_code 104 = .ok (.invokevirtual 141, 3) := by decide +kernel
theorem d_9_cell_107 : decode prog_1_method_10_code 107 = .ok (.invokestatic 144, 3) := by decide +kernel
theorem d_9_cell_110 : decode prog_1_method_10_code 110 = .ok (.ireturn, 1) := by decide +kernel
theorem d_9_cell_111 : decode prog_1_method_10_code 111 = .ok (.iconst (-1), 1) := by decide +kernel
theorem d_9_cell_112 : decode prog_1_method_10_code 112 = .ok (.ireturn, 1) := by decide +kernel
def m_9_cell (r0 : Nat) (x1 : Int32) (x2 : Int32) (x3 : Int32) (x4 : Int32) (Q : Int32 → St → Prop) (σ : St) : Prop :=
  m_8_hasCell (r0 + 7) x1 x2 x3 (fun (v_2 : Int32) (σ_1 : St) => ((¬ v_2 = 0 → vp_in x1 6 ∧ ∀ r5_4 : Nat, r5_4 = (((r0 + 7) + 1) + 5 + 3 * (x1).toNatClampNeg) → m_9_placeOf x2 x3 (fun (v_6 : Int32) (σ_5 : St) => (((x4.toInt < 0 ∨ 2 < x4.toInt) → Q (-1 : Int32) σ_5) ∧ (x4 = 0 → vp_in v_6 40 ∧ Q (σ_5.1 (r5_4 + 1) (v_6).toNatClampNeg) σ_5) ∧ (x4 = 1 → vp_in v_6 40 ∧ (((σ_5.1 (r5_4 + 2) (v_6).toNatClampNeg) = 0 → Q (0 : Int32) σ_5) ∧ (¬ (σ_5.1 (r5_4 + 2) (v_6).toNatClampNeg) = 0 → Q (1 : Int32) σ_5))) ∧ (x4 = 2 → m_8_grip (r0 + 7) (fun (v_9 : Int32) (σ_8 : St) => m_6_couldGive r5_4 v_6 v_9 (fun (v_11 : Int32) (σ_10 : St) => m_8_room (r0 + 7) (fun (v_13 : Int32) (σ_12 : St) => Q (if v_13 < v_11 then v_13 else v_11) σ_12) σ_10) σ_8) σ_5))) σ_1) ∧ (v_2 = 0 → Q (-1 : Int32) σ_1))) σ
section MB
variable {p : Program} {l : Launch} {e : Env} {R : Room} {s : State} {m : MethodId} {args : Array Value} {below : List Frame} {meth : Method} {c : Code} {cells slots : Nat} {QW : State → Prop}
variable {D : va_G} {ac : Nat → ClassId} {ad : Nat → Nat} {st : SS} {A : Nat → Prop}
set_option maxHeartbeats 4000000 in
set_option maxRecDepth 100000 in
theorem w_6_copyFrom_26 {r0 : Nat} {r1 : Nat} {Q : St → Prop} {B26 : Int32 → St → Prop} {x2 : Int32} {σ : St} {H : Heap} {locs : List Loc} {ls : Array Slot} (S : SC A D ac st p m c prog_8_method_3_code 3 s args "SweeperRounds$Street" R cells slots 0 0) (hR : RtV A D ac ad p l e R s m args below meth c prog_8_method_3_code cells slots QW Q) (hk_r0 : kd r0 = 6) (hk_r1 : kd r1 = 6) (hB26 : ∀ (x2 : Int32) (σ : St) (H : Heap) (locs : List Loc) (ls : Array Slot), DG A D ac ad s σ H locs → lv_has ls 3 [(0, .ref (ad r0)), (1, .ref (ad r1)), (2, .int x2)] → B26 x2 σ → W p l e R s m args below meth c H locs cells slots QW (F0 m 26 ls [])) (hG : DG A D ac ad s σ H locs) (hl : lv_has ls 3 [(0, .ref (ad r0)), (1, .ref (ad r1)), (2, .int x2)]) (hf : m_6_copyFrom_26 r0 r1 Q B26 x2 σ) : W p l e R s m args below meth c H locs cells slots QW (F0 m 26 ls []) := by
  have hx := S.1.1
  have hb := S.1.2.1
  unfold m_6_copyFrom_26 at hf
  refine lv_iload_n hx hb d_6_copyFrom_26 rfl (lv_at hl 2 rfl) ?_
  refine lv_bipush (v := (40 : Int32)) hx hb d_6_copyFrom_27 (by decide) ?_
  refine lv_icmp_ge (tgt := 62) hx hb d_6_copyFrom_29 (by decide) (fun hc => ?_) (fun hc => ?_)
  · have hf := hf.1 hc
    exact hR _ _ _ _ _ hG hf d_6_copyFrom_62
  · have hf := hf.2 hc
    refine lv_aload_n hx hb d_6_copyFrom_32 rfl (lv_at hl 0 rfl) ?_
    refine gf_6_9 S hG hk_r0 d_6_copyFrom_33 ?_
    refine lv_iload_n hx hb d_6_copyFrom_36 rfl (lv_at hl 2 rfl) ?_
    refine lv_aload_n hx hb d_6_copyFrom_37 rfl (lv_at hl 1 rfl) ?_
    refine gf_6_9 S hG hk_r1 d_6_copyFrom_38 ?_
    refine lv_iload_n hx hb d_6_copyFrom_41 rfl (lv_at hl 2 rfl) ?_
    refine mia S hG 20 rfl rfl (kr_6_3 hk_r1) hf.1 d_6_copyFrom_42 ?_
    have hf := hf.2
    refine mis S hG 20 rfl rfl (kr_6_3 hk_r0) hf.1 d_6_copyFrom_43 (fun σ_1 eσ_1 H locs hG => ?_)
    have hf := hf.2 σ_1 eσ_1
    refine lv_aload_n hx hb d_6_copyFrom_44 rfl (lv_at hl 0 rfl) ?_
    refine gf_6_15 S hG hk_r0 d_6_copyFrom_45 ?_
    refine lv_iload_n hx hb d_6_copyFrom_48 rfl (lv_at hl 2 rfl) ?_
    refine lv_aload_n hx hb d_6_copyFrom_49 rfl (lv_at hl 1 rfl) ?_
    refine gf_6_15 S hG hk_r1 d_6_copyFrom_50 ?_
    refine lv_iload_n hx hb d_6_copyFrom_53 rfl (lv_at hl 2 rfl) ?_
    refine mza S hG (kr_6_4 hk_r1) hf.1 d_6_copyFrom_54 ?_
    have hf := hf.2
    refine mzs S hG (kr_6_4 hk_r0) hf.1 d_6_copyFrom_55 (fun σ_2 eσ_2 H locs hG => ?_)
    have hf := hf.2 σ_2 eσ_2
    obtain ⟨x2_3, ex2_3⟩ : ∃ y : Int32, y = x2 + 1 := ⟨_, rfl⟩
    have hf := hf x2_3 ex2_3
    refine lv_iinc (v := x2_3) (lv' := [(2, .int x2_3), (0, .ref (ad r0)), (1, .ref (ad r1))]) hx hb d_6_copyFrom_56 hl (k := 2) rfl (by rw [ex2_3]; rfl) (by decide) rfl (fun ls hl => ?_)
    refine lv_goto (tgt := 26) hx hb d_6_copyFrom_59 (by decide) ?_
    exact hB26 _ _ _ _ _   hG (lv_sub hl [1, 2, 0] rfl) hf
set_option maxHeartbeats 4000000 in
set_option maxRecDepth 100000 in
theorem lp_6_copyFrom_26 {r0 : Nat} {r1 : Nat} {Q : St → Prop} (S : SC A D ac st p m c prog_8_method_3_code 3 s args "SweeperRounds$Street" R cells slots 0 0) (hR : RtV A D ac ad p l e R s m args below meth c prog_8_method_3_code cells slots QW Q) (hk_r0 : kd r0 = 6) (hk_r1 : kd r1 = 6) : ∀ (n : Nat) (x2 : Int32) (σ : St) (H : Heap) (locs : List Loc) (ls : Array Slot), DG A D ac ad s σ H locs → lv_has ls 3 [(0, .ref (ad r0)), (1, .ref (ad r1)), (2, .int x2)] → itN (m_6_copyFrom_26 r0 r1 Q) (fun _ _ => False) n x2 σ → W p l e R s m args below meth c H locs cells slots QW (F0 m 26 ls []) := by
  intro n
  induction n with
  | zero =>
    intro x2 σ H locs ls  hG hl hf
    exact hf.elim
  | succ n ih =>
    intro x2 σ H locs ls  hG hl hf
    exact w_6_copyFrom_26 S hR hk_r0 hk_r1  ih hG hl hf
set_option maxHeartbeats 4000000 in
set_option maxRecDepth 100000 in
theorem w_6_copyFrom_0 {r0 : Nat} {r1 : Nat} {Q : St → Prop} {σ : St} {H : Heap} {locs : List Loc} {ls : Array Slot} (S : SC A D ac st p m c prog_8_method_3_code 3 s args "SweeperRounds$Street" R cells slots 0 0) (hR : RtV A D ac ad p l e R s m args below meth c prog_8_method_3_code cells slots QW Q) (hk_r0 : kd r0 = 6) (hk_r1 : kd r1 = 6) (hG : DG A D ac ad s σ H locs) (hl : lv_has ls 3 [(0, .ref (ad r0)), (1, .ref (ad r1))]) (hf : m_6_copyFrom r0 r1 Q σ) : W p l e R s m args below meth c H locs cells slots QW (F0 m 0 ls []) := by
  have hx := S.1.1
  have hb := S.1.2.1
  unfold m_6_copyFrom at hf
  refine lv_aload_n hx hb d_6_copyFrom_0 rfl (lv_at hl 0 rfl) ?_
  refine lv_aload_n hx hb d_6_copyFrom_1 rfl (lv_at hl 1 rfl) ?_
  refine gf_6_19 S hG hk_r1 d_6_copyFrom_2 ?_
  refine pf_6_19 S hG hk_r0 d_6_copyFrom_5 (fun σ_1 eσ_1 H locs hG => ?_)
  have hf := hf σ_1 eσ_1
  refine lv_aload_n hx hb d_6_copyFrom_8 rfl (lv_at hl 0 rfl) ?_
  refine lv_aload_n hx hb d_6_copyFrom_9 rfl (lv_at hl 1 rfl) ?_
  refine gf_6_23 S hG hk_r1 d_6_copyFrom_10 ?_
  refine pf_6_23 S hG hk_r0 d_6_copyFrom_13 (fun σ_2 eσ_2 H locs hG => ?_)
  have hf := hf σ_2 eσ_2
  refine lv_aload_n hx hb d_6_copyFrom_16 rfl (lv_at hl 0 rfl) ?_
  refine lv_aload_n hx hb d_6_copyFrom_17 rfl (lv_at hl 1 rfl) ?_
  refine gf_6_26 S hG hk_r1 d_6_copyFrom_18 ?_
  refine pf_6_26 S hG hk_r0 d_6_copyFrom_21 (fun σ_3 eσ_3 H locs hG => ?_)
  have hf := hf σ_3 eσ_3
  refine lv_iconst (v := (0 : Int32)) hx hb d_6_copyFrom_24 (by decide) ?_
  refine lv_istore_n (lv' := [(2, .int (0 : Int32)), (0, .ref (ad r0)), (1, .ref (ad r1))]) hx hb d_6_copyFrom_25 rfl hl (by decide) rfl (fun ls hl => ?_)
  exact lp_6_copyFrom_26 S hR hk_r0 hk_r1  FU _ _ _ _ _  hG (lv_sub hl [1, 2, 0] rfl) hf
theorem c_6_copyFrom (l : Launch) {D : va_G} {ac : Nat → ClassId} {ad : Nat → Nat} {st : SS} {A : Nat → Prop} {σ : St} {r0 : Nat} {r1 : Nat} {Q : St → Prop} (hk_r0 : kd r0 = 6) (hk_r1 : kd r1 = 6) (hf : m_6_copyFrom r0 r1 Q σ) : Met l y_6_copyFrom (Cond.code y_6_copyFrom prog_8_method_3_code 3 none :: wA) { frames := 0, cells := 0, slots := 0, locals := 0 } (va_Pc [.ref (ad r0), .ref (ad r1)] (GSt A D ac ad st σ)) (va_Qv Q (GSt A D ac ad st) A) 0 0 A :=
  mkV l (by decide +kernel) rfl [.ref (ad r0), .ref (ad r1)] (Nat.le_of_ble_eq_true rfl) (fun p e s m args below meth c ls QW S hR hG hl => w_6_copyFrom_0 S hR hk_r0 hk_r1 hG hl hf)
set_option maxHeartbeats 4000000 in
set_option maxRecDepth 100000 in
theorem w_1_copyFrom_0 {r0 : Nat} {r1 : Nat} {Q : St → Prop} {σ : St} {H : Heap} {locs : List Loc} {ls : Array Slot} (S : SC A D ac st p m c prog_3_method_2_code 2 s args "SweeperRounds$Leg" R cells slots 0 0) (hR : RtV A D ac ad p l e R s m args below meth c prog_3_method_2_code cells slots QW Q) (hk_r0 : kd r0 = 1) (hk_r1 : kd r1 = 1) (hG : DG A D ac ad s σ H locs) (hl : lv_has ls 2 [(0, .ref (ad r0)), (1, .ref (ad r1))]) (hf : m_1_copyFrom r0 r1 Q σ) : W p l e R s m args below meth c H locs cells slots QW (F0 m 0 ls []) := by
  have hx := S.1.1
  have hb := S.1.2.1
  unfold m_1_copyFrom at hf
  refine lv_aload_n hx hb d_1_copyFrom_0 rfl (lv_at hl 0 rfl) ?_
  refine lv_aload_n hx hb d_1_copyFrom_1 rfl (lv_at hl 1 rfl) ?_
  refine gf_1_7 S hG hk_r1 d_1_copyFrom_2 ?_
  refine pf_1_7 S hG hk_r0 d_1_copyFrom_5 (fun σ_1 eσ_1 H locs hG => ?_)
  have hf := hf σ_1 eσ_1
  refine lv_aload_n hx hb d_1_copyFrom_8 rfl (lv_at hl 0 rfl) ?_
  refine lv_aload_n hx hb d_1_copyFrom_9 rfl (lv_at hl 1 rfl) ?_
  refine gf_1_13 S hG hk_r1 d_1_copyFrom_10 ?_
  refine pf_1_13 S hG hk_r0 d_1_copyFrom_13 (fun σ_2 eσ_2 H locs hG => ?_)
  have hf := hf σ_2 eσ_2
  refine lv_aload_n hx hb d_1_copyFrom_16 rfl (lv_at hl 0 rfl) ?_
  refine lv_aload_n hx hb d_1_copyFrom_17 rfl (lv_at hl 1 rfl) ?_
  refine gf_1_16 S hG hk_r1 d_1_copyFrom_18 ?_
  refine pf_1_16 S hG hk_r0 d_1_copyFrom_21 (fun σ_3 eσ_3 H locs hG => ?_)
  have hf := hf σ_3 eσ_3
  refine lv_aload_n hx hb d_1_copyFrom_24 rfl (lv_at hl 0 rfl) ?_
  refine lv_aload_n hx hb d_1_copyFrom_25 rfl (lv_at hl 1 rfl) ?_
  refine gf_1_19 S hG hk_r1 d_1_copyFrom_26 ?_
  refine pf_1_19 S hG hk_r0 d_1_copyFrom_29 (fun σ_4 eσ_4 H locs hG => ?_)
  have hf := hf σ_4 eσ_4
  exact hR _ _ _ _ _ hG hf d_1_copyFrom_32
theorem c_1_copyFrom (l : Launch) {D : va_G} {ac : Nat → ClassId} {ad : Nat → Nat} {st : SS} {A : Nat → Prop} {σ : St} {r0 : Nat} {r1 : Nat} {Q : St → Prop} (hk_r0 : kd r0 = 1) (hk_r1 : kd r1 = 1) (hf : m_1_copyFrom r0 r1 Q σ) : Met l y_1_copyFrom (Cond.code y_1_copyFrom prog_3_method_2_code 2 none :: wA) { frames := 0, cells := 0, slots := 0, locals := 0 } (va_Pc [.ref (ad r0), .ref (ad r1)] (GSt A D ac ad st σ)) (va_Qv Q (GSt A D ac ad st) A) 0 0 A :=
  mkV l (by decide +kernel) rfl [.ref (ad r0), .ref (ad r1)] (Nat.le_of_ble_eq_true rfl) (fun p e s m args below meth c ls QW S hR hG hl => w_1_copyFrom_0 S hR hk_r0 hk_r1 hG hl hf)
set_option maxHeartbeats 4000000 in
set_option maxRecDepth 100000 in
theorem w_4_copyFrom_0 {r0 : Nat} {r1 : Nat} {Q : St → Prop} {σ : St} {H : Heap} {locs : List Loc} {ls : Array Slot} (S : SC A D ac st p m c prog_6_method_3_code 2 s args "SweeperRounds$Report" R cells slots 0 0) (hR : RtV A D ac ad p l e R s m args below meth c prog_6_method_3_code cells slots QW Q) (hk_r0 : kd r0 = 4) (hk_r1 : kd r1 = 4) (hG : DG A D ac ad s σ H locs) (hl : lv_has ls 2 [(0, .ref (ad r0)), (1, .ref (ad r1))]) (hf : m_4_copyFrom r0 r1 Q σ) : W p l e R s m args below meth c H locs cells slots QW (F0 m 0 ls []) := by
  have hx := S.1.1
  have hb := S.1.2.1
  unfold m_4_copyFrom at hf
  refine lv_aload_n hx hb d_4_copyFrom_0 rfl (lv_at hl 0 rfl) ?_
  refine lv_aload_n hx hb d_4_copyFrom_1 rfl (lv_at hl 1 rfl) ?_
  refine gf_4_9 S hG hk_r1 d_4_copyFrom_2 ?_
  refine pf_4_9 S hG hk_r0 d_4_copyFrom_5 (fun σ_1 eσ_1 H locs hG => ?_)
  have hf := hf σ_1 eσ_1
  refine lv_aload_n hx hb d_4_copyFrom_8 rfl (lv_at hl 0 rfl) ?_
  refine lv_aload_n hx hb d_4_copyFrom_9 rfl (lv_at hl 1 rfl) ?_
  refine gf_4_15 S hG hk_r1 d_4_copyFrom_10 ?_
  refine pf_4_15 S hG hk_r0 d_4_copyFrom_13 (fun σ_2 eσ_2 H locs hG => ?_)
  have hf := hf σ_2 eσ_2
  refine lv_aload_n hx hb d_4_copyFrom_16 rfl (lv_at hl 0 rfl) ?_
  refine lv_aload_n hx hb d_4_copyFrom_17 rfl (lv_at hl 1 rfl) ?_
  refine gf_4_18 S hG hk_r1 d_4_copyFrom_18 ?_
  refine pf_4_18 S hG hk_r0 d_4_copyFrom_21 (fun σ_3 eσ_3 H locs hG => ?_)
  have hf := hf σ_3 eσ_3
  refine lv_aload_n hx hb d_4_copyFrom_24 rfl (lv_at hl 0 rfl) ?_
  refine lv_aload_n hx hb d_4_copyFrom_25 rfl (lv_at hl 1 rfl) ?_
  refine gf_4_21 S hG hk_r1 d_4_copyFrom_26 ?_
  refine pf_4_21 S hG hk_r0 d_4_copyFrom_29 (fun σ_4 eσ_4 H locs hG => ?_)
  have hf := hf σ_4 eσ_4
  refine lv_aload_n hx hb d_4_copyFrom_32 rfl (lv_at hl 0 rfl) ?_
  refine lv_aload_n hx hb d_4_copyFrom_33 rfl (lv_at hl 1 rfl) ?_
  refine gf_4_24 S hG hk_r1 d_4_copyFrom_34 ?_
  refine pf_4_24 S hG hk_r0 d_4_copyFrom_37 (fun σ_5 eσ_5 H locs hG => ?_)
  have hf := hf σ_5 eσ_5
  refine lv_aload_n hx hb d_4_copyFrom_40 rfl (lv_at hl 0 rfl) ?_
  refine lv_aload_n hx hb d_4_copyFrom_41 rfl (lv_at hl 1 rfl) ?_
  refine gf_4_27 S hG hk_r1 d_4_copyFrom_42 ?_
  refine pf_4_27 S hG hk_r0 d_4_copyFrom_45 (fun σ_6 eσ_6 H locs hG => ?_)
  have hf := hf σ_6 eσ_6
  exact hR _ _ _ _ _ hG hf d_4_copyFrom_48
theorem c_4_copyFrom (l : Launch) {D : va_G} {ac : Nat → ClassId} {ad : Nat → Nat} {st : SS} {A : Nat → Prop} {σ : St} {r0 : Nat} {r1 : Nat} {Q : St → Prop} (hk_r0 : kd r0 = 4) (hk_r1 : kd r1 = 4) (hf : m_4_copyFrom r0 r1 Q σ) : Met l y_4_copyFrom (Cond.code y_4_copyFrom prog_6_method_3_code 2 none :: wA) { frames := 0, cells := 0, slots := 0, locals := 0 } (va_Pc [.ref (ad r0), .ref (ad r1)] (GSt A D ac ad st σ)) (va_Qv Q (GSt A D ac ad st) A) 0 0 A :=
  mkV l (by decide +kernel) rfl [.ref (ad r0), .ref (ad r1)] (Nat.le_of_ble_eq_true rfl) (fun p e s m args below meth c ls QW S hR hG hl => w_4_copyFrom_0 S hR hk_r0 hk_r1 hG hl hf)
set_option maxHeartbeats 4000000 in
set_option maxRecDepth 100000 in
theorem w_8_copyFrom_49 {r0 : Nat} {r1 : Nat} {Q : St → Prop} {B49 : Int32 → St → Prop} {x2 : Int32} {σ : St} {H : Heap} {locs : List Loc} {ls : Array Slot} (S : SC A D ac st p m c prog_10_method_2_code 3 s args "SweeperRounds$World" R cells slots 1 22) (hR : RtV A D ac ad p l e R s m args below meth c prog_10_method_2_code cells slots QW Q) (hk_r0 : kd r0 = 8) (hk_r1 : kd r1 = 8) (hB49 : ∀ (x2 : Int32) (σ : St) (H : Heap) (locs : List Loc) (ls : Array Slot), DG A D ac ad s σ H locs → lv_has ls 3 [(0, .ref (ad r0)), (1, .ref (ad r1)), (2, .int x2)] → B49 x2 σ → W p l e R s m args below meth c H locs cells slots QW (F0 m 49 ls [])) (hG : DG A D ac ad s σ H locs) (hl : lv_has ls 3 [(0, .ref (ad r0)), (1, .ref (ad r1)), (2, .int x2)]) (hf : m_8_copyFrom_49 r0 r1 Q B49 x2 σ) : W p l e R s m args below meth c H locs cells slots QW (F0 m 49 ls []) := by
  have hx := S.1.1
  have hb := S.1.2.1
  unfold m_8_copyFrom_49 at hf
  refine lv_iload_n hx hb d_8_copyFrom_49 rfl (lv_at hl 2 rfl) ?_
  refine lv_aload_n hx hb d_8_copyFrom_50 rfl (lv_at hl 0 rfl) ?_
  refine gf_8_59 S hG hk_r0 d_8_copyFrom_51 ?_
  refine lv_icmp_ge (tgt := 78) hx hb d_8_copyFrom_54 (by decide) (fun hc => ?_) (fun hc => ?_)
  · have hf := hf.1 hc
    refine lv_aload_n hx hb d_8_copyFrom_78 rfl (lv_at hl 0 rfl) ?_
    refine lv_aload_n hx hb d_8_copyFrom_79 rfl (lv_at hl 1 rfl) ?_
    refine gf_8_65 S hG hk_r1 d_8_copyFrom_80 ?_
    refine pf_8_65 S hG hk_r0 hf.1 d_8_copyFrom_83 (fun σ_1 eσ_1 H locs hG => ?_)
    have hf := hf.2
    have hf := hf σ_1 eσ_1
    refine lv_aload_n hx hb d_8_copyFrom_86 rfl (lv_at hl 1 rfl) ?_
    refine gf_8_23 S hG hk_r1 d_8_copyFrom_87 ?_
    refine lv_iconst (v := (0 : Int32)) hx hb d_8_copyFrom_90 (by decide) ?_
    refine lv_aload_n hx hb d_8_copyFrom_91 rfl (lv_at hl 0 rfl) ?_
    refine gf_8_23 S hG hk_r0 d_8_copyFrom_92 ?_
    refine lv_iconst (v := (0 : Int32)) hx hb d_8_copyFrom_95 (by decide) ?_
    refine lv_bipush (v := (6 : Int32)) hx hb d_8_copyFrom_96 (by decide) ?_
    refine mcp S hl.1 hG wm_173 wm_175 wm_174 wm_16 26 26 rfl rfl rfl rfl (kr_8_5 hk_r1) (kr_8_5 hk_r0) hf.1 hf.2.1 hf.2.2.1 (by decide) (Nat.le_of_ble_eq_true rfl) d_8_copyFrom_98 (fun σ_2 eσ_2 H locs hG => ?_)
    have hf := hf.2.2.2 σ_2 eσ_2
    refine lv_aload_n hx hb d_8_copyFrom_101 rfl (lv_at hl 0 rfl) ?_
    refine lv_aload_n hx hb d_8_copyFrom_102 rfl (lv_at hl 1 rfl) ?_
    refine gf_8_48 S hG hk_r1 d_8_copyFrom_103 ?_
    refine pf_8_48 S hG hk_r0 d_8_copyFrom_106 (fun σ_3 eσ_3 H locs hG => ?_)
    have hf := hf σ_3 eσ_3
    refine lv_aload_n hx hb d_8_copyFrom_109 rfl (lv_at hl 0 rfl) ?_
    refine lv_aload_n hx hb d_8_copyFrom_110 rfl (lv_at hl 1 rfl) ?_
    refine gf_8_69 S hG hk_r1 d_8_copyFrom_111 ?_
    refine pf_8_69 S hG hk_r0 d_8_copyFrom_114 (fun σ_4 eσ_4 H locs hG => ?_)
    have hf := hf σ_4 eσ_4
    refine lv_aload_n hx hb d_8_copyFrom_117 rfl (lv_at hl 1 rfl) ?_
    refine gf_8_27 S hG hk_r1 d_8_copyFrom_118 ?_
    refine lv_iconst (v := (0 : Int32)) hx hb d_8_copyFrom_121 (by decide) ?_
    refine lv_aload_n hx hb d_8_copyFrom_122 rfl (lv_at hl 0 rfl) ?_
    refine gf_8_27 S hG hk_r0 d_8_copyFrom_123 ?_
    refine lv_iconst (v := (0 : Int32)) hx hb d_8_copyFrom_126 (by decide) ?_
    refine lv_bipush (v := (6 : Int32)) hx hb d_8_copyFrom_127 (by decide) ?_
    refine mcp S hl.1 hG wm_173 wm_175 wm_174 wm_16 27 27 rfl rfl rfl rfl (kr_8_8 hk_r1) (kr_8_8 hk_r0) hf.1 hf.2.1 hf.2.2.1 (by decide) (Nat.le_of_ble_eq_true rfl) d_8_copyFrom_129 (fun σ_5 eσ_5 H locs hG => ?_)
    have hf := hf.2.2.2 σ_5 eσ_5
    refine lv_aload_n hx hb d_8_copyFrom_132 rfl (lv_at hl 0 rfl) ?_
    refine gf_8_33 S hG hk_r0 d_8_copyFrom_133 ?_
    refine lv_aload_n hx hb d_8_copyFrom_136 rfl (lv_at hl 1 rfl) ?_
    refine gf_8_33 S hG hk_r1 d_8_copyFrom_137 ?_
    refine iv_8_72 S hl.1 hG (kr_8_9 hk_r0) (c_4_copyFrom l (kr_8_9 hk_r0) (kr_8_9 hk_r1) hf) ⟨Nat.le_of_ble_eq_true rfl, Nat.le_of_ble_eq_true rfl⟩ (Nat.le_of_ble_eq_true rfl) d_8_copyFrom_140 (fun σ_6 hf H locs hG => ?_)
    refine lv_aload_n hx hb d_8_copyFrom_143 rfl (lv_at hl 0 rfl) ?_
    refine lv_aload_n hx hb d_8_copyFrom_144 rfl (lv_at hl 1 rfl) ?_
    refine gf_8_75 S hG hk_r1 d_8_copyFrom_145 ?_
    refine pf_8_75 S hG hk_r0 d_8_copyFrom_148 (fun σ_8 eσ_8 H locs hG => ?_)
    have hf := hf σ_8 eσ_8
    refine lv_aload_n hx hb d_8_copyFrom_151 rfl (lv_at hl 0 rfl) ?_
    refine lv_aload_n hx hb d_8_copyFrom_152 rfl (lv_at hl 1 rfl) ?_
    refine gf_8_78 S hG hk_r1 d_8_copyFrom_153 ?_
    refine pf_8_78 S hG hk_r0 d_8_copyFrom_156 (fun σ_9 eσ_9 H locs hG => ?_)
    have hf := hf σ_9 eσ_9
    exact hR _ _ _ _ _ hG hf d_8_copyFrom_159
  · have hf := hf.2 hc
    refine lv_aload_n hx hb d_8_copyFrom_57 rfl (lv_at hl 0 rfl) ?_
    refine gf_8_19 S hG hk_r0 d_8_copyFrom_58 ?_
    refine lv_iload_n hx hb d_8_copyFrom_61 rfl (lv_at hl 2 rfl) ?_
    refine mq4 S hG (kr_8_2 hk_r0) hf.1 d_8_copyFrom_62 ?_
    have hi_10 := vin_lt hf.1
    have hf := hf.2
    refine lv_aload_n hx hb d_8_copyFrom_63 rfl (lv_at hl 1 rfl) ?_
    refine gf_8_19 S hG hk_r1 d_8_copyFrom_64 ?_
    refine lv_iload_n hx hb d_8_copyFrom_67 rfl (lv_at hl 2 rfl) ?_
    refine mq4 S hG (kr_8_2 hk_r1) hf.1 d_8_copyFrom_68 ?_
    have hi_11 := vin_lt hf.1
    have hf := hf.2
    refine iv_8_62 S hl.1 hG (ke_24 (kr_8_2 hk_r0) hi_10) (c_1_copyFrom l (ke_24 (kr_8_2 hk_r0) hi_10) (ke_24 (kr_8_2 hk_r1) hi_11) hf) ⟨Nat.le_of_ble_eq_true rfl, Nat.le_of_ble_eq_true rfl⟩ (Nat.le_of_ble_eq_true rfl) d_8_copyFrom_69 (fun σ_12 hf H locs hG => ?_)
    obtain ⟨x2_14, ex2_14⟩ : ∃ y : Int32, y = x2 + 1 := ⟨_, rfl⟩
    have hf := hf x2_14 ex2_14
    refine lv_iinc (v := x2_14) (lv' := [(2, .int x2_14), (0, .ref (ad r0)), (1, .ref (ad r1))]) hx hb d_8_copyFrom_72 hl (k := 2) rfl (by rw [ex2_14]; rfl) (by decide) rfl (fun ls hl => ?_)
    refine lv_goto (tgt := 49) hx hb d_8_copyFrom_75 (by decide) ?_
    exact hB49 _ _ _ _ _   hG (lv_sub hl [1, 2, 0] rfl) hf
set_option maxHeartbeats 4000000 in
set_option maxRecDepth 100000 in
theorem lp_8_copyFrom_49 {r0 : Nat} {r1 : Nat} {Q : St → Prop} (S : SC A D ac st p m c prog_10_method_2_code 3 s args "SweeperRounds$World" R cells slots 1 22) (hR : RtV A D ac ad p l e R s m args below meth c prog_10_method_2_code cells slots QW Q) (hk_r0 : kd r0 = 8) (hk_r1 : kd r1 = 8) : ∀ (n : Nat) (x2 : Int32) (σ : St) (H : Heap) (locs : List Loc) (ls : Array Slot), DG A D ac ad s σ H locs → lv_has ls 3 [(0, .ref (ad r0)), (1, .ref (ad r1)), (2, .int x2)] → itN (m_8_copyFrom_49 r0 r1 Q) (fun _ _ => False) n x2 σ → W p l e R s m args below meth c H locs cells slots QW (F0 m 49 ls []) := by
  intro n
  induction n with
  | zero =>
    intro x2 σ H locs ls  hG hl hf
    exact hf.elim
  | succ n ih =>
    intro x2 σ H locs ls  hG hl hf
    exact w_8_copyFrom_49 S hR hk_r0 hk_r1  ih hG hl hf
set_option maxHeartbeats 4000000 in
set_option maxRecDepth 100000 in
theorem w_8_copyFrom_10 {r0 : Nat} {r1 : Nat} {Q : St → Prop} {B10 : Int32 → St → Prop} {x2 : Int32} {σ : St} {H : Heap} {locs : List Loc} {ls : Array Slot} (S : SC A D ac st p m c prog_10_method_2_code 3 s args "SweeperRounds$World" R cells slots 1 22) (hR : RtV A D ac ad p l e R s m args below meth c prog_10_method_2_code cells slots QW Q) (hk_r0 : kd r0 = 8) (hk_r1 : kd r1 = 8) (hB10 : ∀ (x2 : Int32) (σ : St) (H : Heap) (locs : List Loc) (ls : Array Slot), DG A D ac ad s σ H locs → lv_has ls 3 [(0, .ref (ad r0)), (1, .ref (ad r1)), (2, .int x2)] → B10 x2 σ → W p l e R s m args below meth c H locs cells slots QW (F0 m 10 ls [])) (hG : DG A D ac ad s σ H locs) (hl : lv_has ls 3 [(0, .ref (ad r0)), (1, .ref (ad r1)), (2, .int x2)]) (hf : m_8_copyFrom_10 r0 r1 Q B10 x2 σ) : W p l e R s m args below meth c H locs cells slots QW (F0 m 10 ls []) := by
  have hx := S.1.1
  have hb := S.1.2.1
  unfold m_8_copyFrom_10 at hf
  refine lv_iload_n hx hb d_8_copyFrom_10 rfl (lv_at hl 2 rfl) ?_
  refine lv_aload_n hx hb d_8_copyFrom_11 rfl (lv_at hl 0 rfl) ?_
  refine gf_8_52 S hG hk_r0 d_8_copyFrom_12 ?_
  refine lv_icmp_ge (tgt := 39) hx hb d_8_copyFrom_15 (by decide) (fun hc => ?_) (fun hc => ?_)
  · have hf := hf.1 hc
    refine lv_aload_n hx hb d_8_copyFrom_39 rfl (lv_at hl 0 rfl) ?_
    refine lv_aload_n hx hb d_8_copyFrom_40 rfl (lv_at hl 1 rfl) ?_
    refine gf_8_59 S hG hk_r1 d_8_copyFrom_41 ?_
    refine pf_8_59 S hG hk_r0 d_8_copyFrom_44 (fun σ_1 eσ_1 H locs hG => ?_)
    have hf := hf σ_1 eσ_1
    refine lv_iconst (v := (0 : Int32)) hx hb d_8_copyFrom_47 (by decide) ?_
    refine lv_istore_n (lv' := [(2, .int (0 : Int32)), (0, .ref (ad r0)), (1, .ref (ad r1))]) hx hb d_8_copyFrom_48 rfl hl (by decide) rfl (fun ls hl => ?_)
    exact lp_8_copyFrom_49 S hR hk_r0 hk_r1  FU _ _ _ _ _  hG (lv_sub hl [1, 2, 0] rfl) hf
  · have hf := hf.2 hc
    refine lv_aload_n hx hb d_8_copyFrom_18 rfl (lv_at hl 0 rfl) ?_
    refine gf_8_11 S hG hk_r0 d_8_copyFrom_19 ?_
    refine lv_iload_n hx hb d_8_copyFrom_22 rfl (lv_at hl 2 rfl) ?_
    refine mq3 S hG (kr_8_0 hk_r0) hf.1 d_8_copyFrom_23 ?_
    have hi_2 := vin_lt hf.1
    have hf := hf.2
    refine lv_aload_n hx hb d_8_copyFrom_24 rfl (lv_at hl 1 rfl) ?_
    refine gf_8_11 S hG hk_r1 d_8_copyFrom_25 ?_
    refine lv_iload_n hx hb d_8_copyFrom_28 rfl (lv_at hl 2 rfl) ?_
    refine mq3 S hG (kr_8_0 hk_r1) hf.1 d_8_copyFrom_29 ?_
    have hi_3 := vin_lt hf.1
    have hf := hf.2
    refine iv_8_55 S hl.1 hG (ke_23 (kr_8_0 hk_r0) hi_2) (c_6_copyFrom l (ke_23 (kr_8_0 hk_r0) hi_2) (ke_23 (kr_8_0 hk_r1) hi_3) hf) ⟨Nat.le_of_ble_eq_true rfl, Nat.le_of_ble_eq_true rfl⟩ (Nat.le_of_ble_eq_true rfl) d_8_copyFrom_30 (fun σ_4 hf H locs hG => ?_)
    obtain ⟨x2_6, ex2_6⟩ : ∃ y : Int32, y = x2 + 1 := ⟨_, rfl⟩
    have hf := hf x2_6 ex2_6
    refine lv_iinc (v := x2_6) (lv' := [(2, .int x2_6), (0, .ref (ad r0)), (1, .ref (ad r1))]) hx hb d_8_copyFrom_33 hl (k := 2) rfl (by rw [ex2_6]; rfl) (by decide) rfl (fun ls hl => ?_)
    refine lv_goto (tgt := 10) hx hb d_8_copyFrom_36 (by decide) ?_
    exact hB10 _ _ _ _ _   hG (lv_sub hl [1, 2, 0] rfl) hf
set_option maxHeartbeats 4000000 in
set_option maxRecDepth 100000 in
theorem lp_8_copyFrom_10 {r0 : Nat} {r1 : Nat} {Q : St → Prop} (S : SC A D ac st p m c prog_10_method_2_code 3 s args "SweeperRounds$World" R cells slots 1 22) (hR : RtV A D ac ad p l e R s m args below meth c prog_10_method_2_code cells slots QW Q) (hk_r0 : kd r0 = 8) (hk_r1 : kd r1 = 8) : ∀ (n : Nat) (x2 : Int32) (σ : St) (H : Heap) (locs : List Loc) (ls : Array Slot), DG A D ac ad s σ H locs → lv_has ls 3 [(0, .ref (ad r0)), (1, .ref (ad r1)), (2, .int x2)] → itN (m_8_copyFrom_10 r0 r1 Q) (fun _ _ => False) n x2 σ → W p l e R s m args below meth c H locs cells slots QW (F0 m 10 ls []) := by
  intro n
  induction n with
  | zero =>
    intro x2 σ H locs ls  hG hl hf
    exact hf.elim
  | succ n ih =>
    intro x2 σ H locs ls  hG hl hf
    exact w_8_copyFrom_10 S hR hk_r0 hk_r1  ih hG hl hf
set_option maxHeartbeats 4000000 in
set_option maxRecDepth 100000 in
theorem w_8_copyFrom_0 {r0 : Nat} {r1 : Nat} {Q : St → Prop} {σ : St} {H : Heap} {locs : List Loc} {ls : Array Slot} (S : SC A D ac st p m c prog_10_method_2_code 3 s args "SweeperRounds$World" R cells slots 1 22) (hR : RtV A D ac ad p l e R s m args below meth c prog_10_method_2_code cells slots QW Q) (hk_r0 : kd r0 = 8) (hk_r1 : kd r1 = 8) (hG : DG A D ac ad s σ H locs) (hl : lv_has ls 3 [(0, .ref (ad r0)), (1, .ref (ad r1))]) (hf : m_8_copyFrom r0 r1 Q σ) : W p l e R s m args below meth c H locs cells slots QW (F0 m 0 ls []) := by
  have hx := S.1.1
  have hb := S.1.2.1
  unfold m_8_copyFrom at hf
  refine lv_aload_n hx hb d_8_copyFrom_0 rfl (lv_at hl 0 rfl) ?_
  refine lv_aload_n hx hb d_8_copyFrom_1 rfl (lv_at hl 1 rfl) ?_
  refine gf_8_52 S hG hk_r1 d_8_copyFrom_2 ?_
  refine pf_8_52 S hG hk_r0 d_8_copyFrom_5 (fun σ_1 eσ_1 H locs hG => ?_)
  have hf := hf σ_1 eσ_1
  refine lv_iconst (v := (0 : Int32)) hx hb d_8_copyFrom_8 (by decide) ?_
  refine lv_istore_n (lv' := [(2, .int (0 : Int32)), (0, .ref (ad r0)), (1, .ref (ad r1))]) hx hb d_8_copyFrom_9 rfl hl (by decide) rfl (fun ls hl => ?_)
  exact lp_8_copyFrom_10 S hR hk_r0 hk_r1  FU _ _ _ _ _  hG (lv_sub hl [1, 2, 0] rfl) hf
theorem c_8_copyFrom (l : Launch) {D : va_G} {ac : Nat → ClassId} {ad : Nat → Nat} {st : SS} {A : Nat → Prop} {σ : St} {r0 : Nat} {r1 : Nat} {Q : St → Prop} (hk_r0 : kd r0 = 8) (hk_r1 : kd r1 = 8) (hf : m_8_copyFrom r0 r1 Q σ) : Met l y_8_copyFrom (Cond.code y_8_copyFrom prog_10_method_2_code 3 none :: wA) { frames := 1, cells := 0, slots := 0, locals := 22 } (va_Pc [.ref (ad r0), .ref (ad r1)] (GSt A D ac ad st σ)) (va_Qv Q (GSt A D ac ad st) A) 0 0 A :=
  mkV l (by decide +kernel) rfl [.ref (ad r0), .ref (ad r1)] (Nat.le_of_ble_eq_true rfl) (fun p e s m args below meth c ls QW S hR hG hl => w_8_copyFrom_0 S hR hk_r0 hk_r1 hG hl hf)
set_option maxHeartbeats 4000000 in
set_option maxRecDepth 100000 in
theorem w_0_remember_0 {r0 : Nat} {r1 : Nat} {Q : St → Prop} {σ : St} {H : Heap} {locs : List Loc} {ls : Array Slot} (S : SC A D ac st p m c prog_2_method_2_code 2 s args "SweeperRounds$History" R cells slots 2 44) (hR : RtV A D ac ad p l e R s m args below meth c prog_2_method_2_code cells slots QW Q) (hk_r0 : kd r0 = 0) (hk_r1 : kd r1 = 8) (hG : DG A D ac ad s σ H locs) (hl : lv_has ls 2 [(0, .ref (ad r0)), (1, .ref (ad r1))]) (hf : m_0_remember r0 r1 Q σ) : W p l e R s m args below meth c H locs cells slots QW (F0 m 0 ls []) := by
  have hx := S.1.1
  have hb := S.1.2.1
  unfold m_0_remember at hf
  refine lv_aload_n hx hb d_0_remember_0 rfl (lv_at hl 0 rfl) ?_
  refine gf_0_11 S hG hk_r0 d_0_remember_1 ?_
  refine lv_aload_n hx hb d_0_remember_4 rfl (lv_at hl 0 rfl) ?_
  refine gf_0_18 S hG hk_r0 d_0_remember_5 ?_
  refine mq5 S hG (kr_0_0 hk_r0) hf.1 d_0_remember_8 ?_
  have hi_1 := vin_lt hf.1
  have hf := hf.2
  refine lv_aload_n hx hb d_0_remember_9 rfl (lv_at hl 1 rfl) ?_
  refine iv_0_22 S hl.1 hG (ke_25 (kr_0_0 hk_r0) hi_1) (c_8_copyFrom l (ke_25 (kr_0_0 hk_r0) hi_1) hk_r1 hf) ⟨Nat.le_of_ble_eq_true rfl, Nat.le_of_ble_eq_true rfl⟩ (Nat.le_of_ble_eq_true rfl) d_0_remember_10 (fun σ_2 hf H locs hG => ?_)
  refine lv_aload_n hx hb d_0_remember_13 rfl (lv_at hl 0 rfl) ?_
  refine lv_aload_n hx hb d_0_remember_14 rfl (lv_at hl 0 rfl) ?_
  refine gf_0_18 S hG hk_r0 d_0_remember_15 ?_
  refine lv_iconst (v := (1 : Int32)) hx hb d_0_remember_18 (by decide) ?_
  refine lv_iadd hx hb d_0_remember_19 ?_
  refine lv_bipush (v := (8 : Int32)) hx hb d_0_remember_20 (by decide) ?_
  refine lv_irem hx hb d_0_remember_22 (by decide) ?_
  refine pf_0_18 S hG hk_r0 d_0_remember_23 (fun σ_4 eσ_4 H locs hG => ?_)
  have hf := hf σ_4 eσ_4
  refine lv_aload_n hx hb d_0_remember_26 rfl (lv_at hl 0 rfl) ?_
  refine lv_aload_n hx hb d_0_remember_27 rfl (lv_at hl 0 rfl) ?_
  refine gf_0_26 S hG hk_r0 d_0_remember_28 ?_
  refine lv_iconst (v := (1 : Int32)) hx hb d_0_remember_31 (by decide) ?_
  refine lv_iadd hx hb d_0_remember_32 ?_
  refine lv_bipush (v := (8 : Int32)) hx hb d_0_remember_33 (by decide) ?_
  refine mmn S hl.1 wm_344 wm_345 wm_20 wm_346 (by decide) (Nat.le_of_ble_eq_true rfl) d_0_remember_35 ?_
  refine pf_0_26 S hG hk_r0 d_0_remember_38 (fun σ_5 eσ_5 H locs hG => ?_)
  have hf := hf σ_5 eσ_5
  exact hR _ _ _ _ _ hG hf d_0_remember_41
theorem c_0_remember (l : Launch) {D : va_G} {ac : Nat → ClassId} {ad : Nat → Nat} {st : SS} {A : Nat → Prop} {σ : St} {r0 : Nat} {r1 : Nat} {Q : St → Prop} (hk_r0 : kd r0 = 0) (hk_r1 : kd r1 = 8) (hf : m_0_remember r0 r1 Q σ) : Met l y_0_remember (Cond.code y_0_remember prog_2_method_2_code 2 none :: wA) { frames := 2, cells := 0, slots := 0, locals := 44 } (va_Pc [.ref (ad r0), .ref (ad r1)] (GSt A D ac ad st σ)) (va_Qv Q (GSt A D ac ad st) A) 0 0 A :=
  mkV l (by decide +kernel) rfl [.ref (ad r0), .ref (ad r1)] (Nat.le_of_ble_eq_true rfl) (fun p e s m args below meth c ls QW S hR hG hl => w_0_remember_0 S hR hk_r0 hk_r1 hG hl hf)
set_option maxHeartbeats 4000000 in
set_option maxRecDepth 100000 in
theorem w_6_clear_17 {r0 : Nat} {Q : St → Prop} {B17 : Int32 → St → Prop} {x1 : Int32} {σ : St} {H : Heap} {locs : List Loc} {ls : Array Slot} (S : SC A D ac st p m c prog_8_method_2_code 2 s args "SweeperRounds$Street" R cells slots 0 0) (hR : RtV A D ac ad p l e R s m args below meth c prog_8_method_2_code cells slots QW Q) (hk_r0 : kd r0 = 6) (hB17 : ∀ (x1 : Int32) (σ : St) (H : Heap) (locs : List Loc) (ls : Array Slot), DG A D ac ad s σ H locs → lv_has ls 2 [(0, .ref (ad r0)), (1, .int x1)] → B17 x1 σ → W p l e R s m args below meth c H locs cells slots QW (F0 m 17 ls [])) (hG : DG A D ac ad s σ H locs) (hl : lv_has ls 2 [(0, .ref (ad r0)), (1, .int x1)]) (hf : m_6_clear_17 r0 Q B17 x1 σ) : W p l e R s m args below meth c H locs cells slots QW (F0 m 17 ls []) := by
  have hx := S.1.1
  have hb := S.1.2.1
  unfold m_6_clear_17 at hf
  refine lv_iload_n hx hb d_6_clear_17 rfl (lv_at hl 1 rfl) ?_
  refine lv_bipush (v := (40 : Int32)) hx hb d_6_clear_18 (by decide) ?_
  refine lv_icmp_ge (tgt := 43) hx hb d_6_clear_20 (by decide) (fun hc => ?_) (fun hc => ?_)
  · have hf := hf.1 hc
    exact hR _ _ _ _ _ hG hf d_6_clear_43
  · have hf := hf.2 hc
    refine lv_aload_n hx hb d_6_clear_23 rfl (lv_at hl 0 rfl) ?_
    refine gf_6_9 S hG hk_r0 d_6_clear_24 ?_
    refine lv_iload_n hx hb d_6_clear_27 rfl (lv_at hl 1 rfl) ?_
    refine lv_iconst (v := (0 : Int32)) hx hb d_6_clear_28 (by decide) ?_
    refine mis S hG 20 rfl rfl (kr_6_3 hk_r0) hf.1 d_6_clear_29 (fun σ_1 eσ_1 H locs hG => ?_)
    have hf := hf.2 σ_1 eσ_1
    refine lv_aload_n hx hb d_6_clear_30 rfl (lv_at hl 0 rfl) ?_
    refine gf_6_15 S hG hk_r0 d_6_clear_31 ?_
    refine lv_iload_n hx hb d_6_clear_34 rfl (lv_at hl 1 rfl) ?_
    refine lv_iconst (v := (0 : Int32)) hx hb d_6_clear_35 (by decide) ?_
    refine mzs S hG (kr_6_4 hk_r0) hf.1 d_6_clear_36 (fun σ_2 eσ_2 H locs hG => ?_)
    have hf := hf.2 σ_2 eσ_2
    obtain ⟨x1_3, ex1_3⟩ : ∃ y : Int32, y = x1 + 1 := ⟨_, rfl⟩
    have hf := hf x1_3 ex1_3
    refine lv_iinc (v := x1_3) (lv' := [(1, .int x1_3), (0, .ref (ad r0))]) hx hb d_6_clear_37 hl (k := 1) rfl (by rw [ex1_3]; rfl) (by decide) rfl (fun ls hl => ?_)
    refine lv_goto (tgt := 17) hx hb d_6_clear_40 (by decide) ?_
    exact hB17 _ _ _ _ _   hG (lv_sub hl [1, 0] rfl) hf
set_option maxHeartbeats 4000000 in
set_option maxRecDepth 100000 in
theorem lp_6_clear_17 {r0 : Nat} {Q : St → Prop} (S : SC A D ac st p m c prog_8_method_2_code 2 s args "SweeperRounds$Street" R cells slots 0 0) (hR : RtV A D ac ad p l e R s m args below meth c prog_8_method_2_code cells slots QW Q) (hk_r0 : kd r0 = 6) : ∀ (n : Nat) (x1 : Int32) (σ : St) (H : Heap) (locs : List Loc) (ls : Array Slot), DG A D ac ad s σ H locs → lv_has ls 2 [(0, .ref (ad r0)), (1, .int x1)] → itN (m_6_clear_17 r0 Q) (fun _ _ => False) n x1 σ → W p l e R s m args below meth c H locs cells slots QW (F0 m 17 ls []) := by
  intro n
  induction n with
  | zero =>
    intro x1 σ H locs ls  hG hl hf
    exact hf.elim
  | succ n ih =>
    intro x1 σ H locs ls  hG hl hf
    exact w_6_clear_17 S hR hk_r0  ih hG hl hf
set_option maxHeartbeats 4000000 in
set_option maxRecDepth 100000 in
theorem w_6_clear_0 {r0 : Nat} {Q : St → Prop} {σ : St} {H : Heap} {locs : List Loc} {ls : Array Slot} (S : SC A D ac st p m c prog_8_method_2_code 2 s args "SweeperRounds$Street" R cells slots 0 0) (hR : RtV A D ac ad p l e R s m args below meth c prog_8_method_2_code cells slots QW Q) (hk_r0 : kd r0 = 6) (hG : DG A D ac ad s σ H locs) (hl : lv_has ls 2 [(0, .ref (ad r0))]) (hf : m_6_clear r0 Q σ) : W p l e R s m args below meth c H locs cells slots QW (F0 m 0 ls []) := by
  have hx := S.1.1
  have hb := S.1.2.1
  unfold m_6_clear at hf
  refine lv_aload_n hx hb d_6_clear_0 rfl (lv_at hl 0 rfl) ?_
  refine lv_iconst (v := (0 : Int32)) hx hb d_6_clear_1 (by decide) ?_
  refine pf_6_19 S hG hk_r0 d_6_clear_2 (fun σ_1 eσ_1 H locs hG => ?_)
  have hf := hf σ_1 eσ_1
  refine lv_aload_n hx hb d_6_clear_5 rfl (lv_at hl 0 rfl) ?_
  refine lv_iconst (v := (0 : Int32)) hx hb d_6_clear_6 (by decide) ?_
  refine pf_6_23 S hG hk_r0 d_6_clear_7 (fun σ_2 eσ_2 H locs hG => ?_)
  have hf := hf σ_2 eσ_2
  refine lv_aload_n hx hb d_6_clear_10 rfl (lv_at hl 0 rfl) ?_
  refine lv_iconst (v := (0 : Int32)) hx hb d_6_clear_11 (by decide) ?_
  refine pf_6_26 S hG hk_r0 d_6_clear_12 (fun σ_3 eσ_3 H locs hG => ?_)
  have hf := hf σ_3 eσ_3
  refine lv_iconst (v := (0 : Int32)) hx hb d_6_clear_15 (by decide) ?_
  refine lv_istore_n (lv' := [(1, .int (0 : Int32)), (0, .ref (ad r0))]) hx hb d_6_clear_16 rfl hl (by decide) rfl (fun ls hl => ?_)
  exact lp_6_clear_17 S hR hk_r0  FU _ _ _ _ _  hG (lv_sub hl [1, 0] rfl) hf
theorem c_6_clear (l : Launch) {D : va_G} {ac : Nat → ClassId} {ad : Nat → Nat} {st : SS} {A : Nat → Prop} {σ : St} {r0 : Nat} {Q : St → Prop} (hk_r0 : kd r0 = 6) (hf : m_6_clear r0 Q σ) : Met l y_6_clear (Cond.code y_6_clear prog_8_method_2_code 2 none :: wA) { frames := 0, cells := 0, slots := 0, locals := 0 } (va_Pc [.ref (ad r0)] (GSt A D ac ad st σ)) (va_Qv Q (GSt A D ac ad st) A) 0 0 A :=
  mkV l (by decide +kernel) rfl [.ref (ad r0)] (Nat.le_of_ble_eq_true rfl) (fun p e s m args below meth c ls QW S hR hG hl => w_6_clear_0 S hR hk_r0 hG hl hf)
set_option maxHeartbeats 4000000 in
set_option maxRecDepth 100000 in
theorem w_8_appendStreet_0 {r0 : Nat} {x1 : Int32} {x2 : Int32} {x3 : Int32} {Q : Int32 → St → Prop} {σ : St} {H : Heap} {locs : List Loc} {ls : Array Slot} (S : SC A D ac st p m c prog_10_method_9_code 5 s args "SweeperRounds$World" R cells slots 1 21) (hR : RtI A D ac ad p l e R s m args below meth c prog_10_method_9_code cells slots QW Q) (hk_r0 : kd r0 = 8) (hG : DG A D ac ad s σ H locs) (hl : lv_has ls 5 [(0, .ref (ad r0)), (1, .int x1), (2, .int x2), (3, .int x3)]) (hf : m_8_appendStreet r0 x1 x2 x3 Q σ) : W p l e R s m args below meth c H locs cells slots QW (F0 m 0 ls []) := by
  have hx := S.1.1
  have hb := S.1.2.1
  unfold m_8_appendStreet at hf
  refine lv_aload_n hx hb d_8_appendStreet_0 rfl (lv_at hl 0 rfl) ?_
  refine gf_8_11 S hG hk_r0 d_8_appendStreet_1 ?_
  refine lv_aload_n hx hb d_8_appendStreet_4 rfl (lv_at hl 0 rfl) ?_
  refine gf_8_52 S hG hk_r0 d_8_appendStreet_5 ?_
  refine mq3 S hG (kr_8_0 hk_r0) hf.1 d_8_appendStreet_8 ?_
  have hi_1 := vin_lt hf.1
  have hf := hf.2
  refine lv_topr (fun r4_2 er4_2 => ?_)
  have hf := hf r4_2 er4_2
  have hk_r4_2 : kd r4_2 = 6 := er4_2 ▸ (ke_23 (kr_8_0 hk_r0) hi_1)
  refine lv_astore (lv' := [(4, .ref (ad r4_2)), (0, .ref (ad r0)), (1, .int x1), (2, .int x2), (3, .int x3)]) hx hb d_8_appendStreet_9 hl (by decide) rfl (fun ls hl => ?_)
  refine lv_aload hx hb d_8_appendStreet_11 (lv_at hl 0 rfl) ?_
  refine iv_8_95 S hl.1 hG hk_r4_2 (c_6_clear l hk_r4_2 hf) ⟨Nat.le_of_ble_eq_true rfl, Nat.le_of_ble_eq_true rfl⟩ (Nat.le_of_ble_eq_true rfl) d_8_appendStreet_13 (fun σ_3 hf H locs hG => ?_)
  refine lv_aload hx hb d_8_appendStreet_16 (lv_at hl 0 rfl) ?_
  refine lv_iload_n hx hb d_8_appendStreet_18 rfl (lv_at hl 2 rfl) ?_
  refine pf_8_85 S hG hk_r4_2 d_8_appendStreet_19 (fun σ_5 eσ_5 H locs hG => ?_)
  have hf := hf σ_5 eσ_5
  refine lv_aload hx hb d_8_appendStreet_22 (lv_at hl 0 rfl) ?_
  refine lv_iload_n hx hb d_8_appendStreet_24 rfl (lv_at hl 3 rfl) ?_
  refine pf_8_98 S hG hk_r4_2 d_8_appendStreet_25 (fun σ_6 eσ_6 H locs hG => ?_)
  have hf := hf σ_6 eσ_6
  refine lv_aload hx hb d_8_appendStreet_28 (lv_at hl 0 rfl) ?_
  refine lv_iload_n hx hb d_8_appendStreet_30 rfl (lv_at hl 4 rfl) ?_
  refine pf_8_101 S hG hk_r4_2 d_8_appendStreet_31 (fun σ_7 eσ_7 H locs hG => ?_)
  have hf := hf σ_7 eσ_7
  refine lv_aload_n hx hb d_8_appendStreet_34 rfl (lv_at hl 1 rfl) ?_
  refine lv_dup hx hb d_8_appendStreet_35 rfl ?_
  refine gf_8_52 S hG hk_r0 d_8_appendStreet_36 ?_
  refine lv_iconst (v := (1 : Int32)) hx hb d_8_appendStreet_39 (by decide) ?_
  refine lv_iadd hx hb d_8_appendStreet_40 ?_
  refine pf_8_52 S hG hk_r0 d_8_appendStreet_41 (fun σ_8 eσ_8 H locs hG => ?_)
  have hf := hf σ_8 eσ_8
  refine lv_aload_n hx hb d_8_appendStreet_44 rfl (lv_at hl 1 rfl) ?_
  refine lv_iconst (v := (0 : Int32)) hx hb d_8_appendStreet_45 (by decide) ?_
  refine pf_8_65 S hG hk_r0 (by unfold isB; decide) d_8_appendStreet_46 (fun σ_9 eσ_9 H locs hG => ?_)
  have hf := hf σ_9 eσ_9
  refine lv_aload_n hx hb d_8_appendStreet_49 rfl (lv_at hl 1 rfl) ?_
  refine gf_8_52 S hG hk_r0 d_8_appendStreet_50 ?_
  refine lv_iconst (v := (1 : Int32)) hx hb d_8_appendStreet_53 (by decide) ?_
  refine lv_isub hx hb d_8_appendStreet_54 ?_
  exact hR _ _ _ _ _ _ hG hf d_8_appendStreet_55
theorem c_8_appendStreet (l : Launch) {D : va_G} {ac : Nat → ClassId} {ad : Nat → Nat} {st : SS} {A : Nat → Prop} {σ : St} {r0 : Nat} {x1 : Int32} {x2 : Int32} {x3 : Int32} {Q : Int32 → St → Prop} (hk_r0 : kd r0 = 8) (hf : m_8_appendStreet r0 x1 x2 x3 Q σ) : Met l y_8_appendStreet (Cond.code y_8_appendStreet prog_10_method_9_code 5 (some .int) :: wA) { frames := 1, cells := 0, slots := 0, locals := 21 } (va_Pc [.ref (ad r0), .int x1, .int x2, .int x3] (GSt A D ac ad st σ)) (va_Qi Q (GSt A D ac ad st) A) 0 0 A :=
  mkI l (by decide +kernel) rfl [.ref (ad r0), .int x1, .int x2, .int x3] (Nat.le_of_ble_eq_true rfl) (fun p e s m args below meth c ls QW S hR hG hl => w_8_appendStreet_0 S hR hk_r0 hG hl hf)
set_option maxHeartbeats 4000000 in
set_option maxRecDepth 100000 in
theorem w_9_addStreet_0 {r0 : Nat} {x1 : Int32} {x2 : Int32} {x3 : Int32} {Q : Int32 → St → Prop} {σ : St} {H : Heap} {locs : List Loc} {ls : Array Slot} (S : SC A D ac st p m c prog_1_method_6_code 4 s args "SweeperRounds" R cells slots 3 65) (hR : RtI A D ac ad p l e R s m args below meth c prog_1_method_6_code cells slots QW Q) (hk_r0 : kd r0 = 9) (hG : DG A D ac ad s σ H locs) (hl : lv_has ls 4 [(0, .ref (ad r0)), (1, .int x1), (2, .int x2), (3, .int x3)]) (hf : m_9_addStreet r0 x1 x2 x3 Q σ) : W p l e R s m args below meth c H locs cells slots QW (F0 m 0 ls []) := by
  have hx := S.1.1
  have hb := S.1.2.1
  unfold m_9_addStreet at hf
  refine lv_iload_n hx hb d_9_addStreet_0 rfl (lv_at hl 1 rfl) ?_
  refine lv_iconst (v := (1 : Int32)) hx hb d_9_addStreet_1 (by decide) ?_
  refine lv_icmp_lt (tgt := 31) hx hb d_9_addStreet_2 (by decide) (fun hc => ?_) (fun hc => ?_)
  · have hf := hf.1 hc
    refine lv_iconst (v := (-1 : Int32)) hx hb d_9_addStreet_31 (by decide) ?_
    exact hR _ _ _ _ _ _ hG hf d_9_addStreet_32
  · have hf := hf.2 hc
    refine lv_iload_n hx hb d_9_addStreet_5 rfl (lv_at hl 1 rfl) ?_
    refine lv_bipush (v := (20 : Int32)) hx hb d_9_addStreet_6 (by decide) ?_
    refine lv_icmp_gt (tgt := 31) hx hb d_9_addStreet_8 (by decide) (fun hc => ?_) (fun hc => ?_)
    · have hf := hf.1 hc
      refine lv_iconst (v := (-1 : Int32)) hx hb d_9_addStreet_31 (by decide) ?_
      exact hR _ _ _ _ _ _ hG hf d_9_addStreet_32
    · have hf := hf.2 hc
      refine lv_iload_n hx hb d_9_addStreet_11 rfl (lv_at hl 2 rfl) ?_
      refine lv_if_lt (tgt := 31) hx hb d_9_addStreet_12 (by decide) (fun hc => ?_) (fun hc => ?_)
      · have hf := hf.1 hc
        refine lv_iconst (v := (-1 : Int32)) hx hb d_9_addStreet_31 (by decide) ?_
        exact hR _ _ _ _ _ _ hG hf d_9_addStreet_32
      · have hf := hf.2 hc
        refine lv_iload_n hx hb d_9_addStreet_15 rfl (lv_at hl 2 rfl) ?_
        refine lv_bipush (v := (60 : Int32)) hx hb d_9_addStreet_16 (by decide) ?_
        refine lv_icmp_gt (tgt := 31) hx hb d_9_addStreet_18 (by decide) (fun hc => ?_) (fun hc => ?_)
        · have hf := hf.1 hc
          refine lv_iconst (v := (-1 : Int32)) hx hb d_9_addStreet_31 (by decide) ?_
          exact hR _ _ _ _ _ _ hG hf d_9_addStreet_32
        · have hf := hf.2 hc
          refine lv_iload_n hx hb d_9_addStreet_21 rfl (lv_at hl 3 rfl) ?_
          refine lv_if_lt (tgt := 31) hx hb d_9_addStreet_22 (by decide) (fun hc => ?_) (fun hc => ?_)
          · have hf := hf.1 hc
            refine lv_iconst (v := (-1 : Int32)) hx hb d_9_addStreet_31 (by decide) ?_
            exact hR _ _ _ _ _ _ hG hf d_9_addStreet_32
          · have hf := hf.2 hc
            refine lv_iload_n hx hb d_9_addStreet_25 rfl (lv_at hl 3 rfl) ?_
            refine lv_bipush (v := (9 : Int32)) hx hb d_9_addStreet_26 (by decide) ?_
            refine lv_icmp_le (tgt := 33) hx hb d_9_addStreet_28 (by decide) (fun hc => ?_) (fun hc => ?_)
            · have hf := hf.1 hc
              refine lv_aload_n hx hb d_9_addStreet_33 rfl (lv_at hl 0 rfl) ?_
              refine gf_9_26 S hG hk_r0 d_9_addStreet_34 ?_
              refine gf_9_70 S hG (kr_9_2 hk_r0) d_9_addStreet_37 ?_
              refine lv_bipush (v := (6 : Int32)) hx hb d_9_addStreet_40 (by decide) ?_
              refine lv_icmp_lt (tgt := 48) hx hb d_9_addStreet_42 (by decide) (fun hc => ?_) (fun hc => ?_)
              · have hf := hf.1 hc
                refine lv_aload_n hx hb d_9_addStreet_48 rfl (lv_at hl 0 rfl) ?_
                refine gf_9_42 S hG hk_r0 d_9_addStreet_49 ?_
                refine lv_aload_n hx hb d_9_addStreet_52 rfl (lv_at hl 0 rfl) ?_
                refine gf_9_26 S hG hk_r0 d_9_addStreet_53 ?_
                refine iv_9_80 S hl.1 hG (kr_9_4 hk_r0) (c_0_remember l (kr_9_4 hk_r0) (kr_9_2 hk_r0) hf) ⟨Nat.le_of_ble_eq_true rfl, Nat.le_of_ble_eq_true rfl⟩ (Nat.le_of_ble_eq_true rfl) d_9_addStreet_56 (fun σ_1 hf H locs hG => ?_)
                refine lv_aload_n hx hb d_9_addStreet_59 rfl (lv_at hl 0 rfl) ?_
                refine gf_9_26 S hG hk_r0 d_9_addStreet_60 ?_
                refine lv_iload_n hx hb d_9_addStreet_63 rfl (lv_at hl 1 rfl) ?_
                refine lv_iload_n hx hb d_9_addStreet_64 rfl (lv_at hl 2 rfl) ?_
                refine lv_iload_n hx hb d_9_addStreet_65 rfl (lv_at hl 3 rfl) ?_
                refine iv_9_96 S hl.1 hG (kr_9_2 hk_r0) (c_8_appendStreet l (kr_9_2 hk_r0) hf) ⟨Nat.le_of_ble_eq_true rfl, Nat.le_of_ble_eq_true rfl⟩ (Nat.le_of_ble_eq_true rfl) d_9_addStreet_66 (fun v_4 σ_3 hf H locs hG => ?_)
                exact hR _ _ _ _ _ _ hG hf d_9_addStreet_69
              · have hf := hf.2 hc
                refine lv_bipush (v := (-3 : Int32)) hx hb d_9_addStreet_45 (by decide) ?_
                exact hR _ _ _ _ _ _ hG hf d_9_addStreet_47
            · have hf := hf.2 hc
              refine lv_iconst (v := (-1 : Int32)) hx hb d_9_addStreet_31 (by decide) ?_
              exact hR _ _ _ _ _ _ hG hf d_9_addStreet_32
theorem c_9_addStreet (l : Launch) {D : va_G} {ac : Nat → ClassId} {ad : Nat → Nat} {st : SS} {A : Nat → Prop} {σ : St} {r0 : Nat} {x1 : Int32} {x2 : Int32} {x3 : Int32} {Q : Int32 → St → Prop} (hk_r0 : kd r0 = 9) (hf : m_9_addStreet r0 x1 x2 x3 Q σ) : Met l y_9_addStreet (Cond.code y_9_addStreet prog_1_method_6_code 4 (some .int) :: wA) { frames := 3, cells := 0, slots := 0, locals := 65 } (va_Pc [.ref (ad r0), .int x1, .int x2, .int x3] (GSt A D ac ad st σ)) (va_Qi Q (GSt A D ac ad st) A) 0 0 A :=
  mkI l (by decide +kernel) rfl [.ref (ad r0), .int x1, .int x2, .int x3] (Nat.le_of_ble_eq_true rfl) (fun p e s m args below meth c ls QW S hR hG hl => w_9_addStreet_0 S hR hk_r0 hG hl hf)
set_option maxHeartbeats 4000000 in
set_option maxRecDepth 100000 in
theorem w_8_hasStreet_0 {r0 : Nat} {x1 : Int32} {Q : Int32 → St → Prop} {σ : St} {H : Heap} {locs : List Loc} {ls : Array Slot} (S : SC A D ac st p m c prog_10_method_3_code 2 s args "SweeperRounds$World" R cells slots 0 0) (hR : RtZ A D ac ad p l e R s m args below meth c prog_10_method_3_code cells slots QW Q) (hk_r0 : kd r0 = 8) (hG : DG A D ac ad s σ H locs) (hl : lv_has ls 2 [(0, .ref (ad r0)), (1, .int x1)]) (hf : m_8_hasStreet r0 x1 Q σ) : W p l e R s m args below meth c H locs cells slots QW (F0 m 0 ls []) := by
  have hx := S.1.1
  have hb := S.1.2.1
  unfold m_8_hasStreet at hf
  refine lv_iload_n hx hb d_8_hasStreet_0 rfl (lv_at hl 1 rfl) ?_
  refine lv_if_lt (tgt := 16) hx hb d_8_hasStreet_1 (by decide) (fun hc => ?_) (fun hc => ?_)
  · have hf := hf.1 hc
    refine lv_iconst (v := (0 : Int32)) hx hb d_8_hasStreet_16 (by decide) ?_
    exact hR _ _ _ _ _ _ hG (by unfold isB; decide) hf d_8_hasStreet_17
  · have hf := hf.2 hc
    refine lv_iload_n hx hb d_8_hasStreet_4 rfl (lv_at hl 1 rfl) ?_
    refine lv_aload_n hx hb d_8_hasStreet_5 rfl (lv_at hl 0 rfl) ?_
    refine gf_8_52 S hG hk_r0 d_8_hasStreet_6 ?_
    refine lv_icmp_ge (tgt := 16) hx hb d_8_hasStreet_9 (by decide) (fun hc => ?_) (fun hc => ?_)
    · have hf := hf.1 hc
      refine lv_iconst (v := (0 : Int32)) hx hb d_8_hasStreet_16 (by decide) ?_
      exact hR _ _ _ _ _ _ hG (by unfold isB; decide) hf d_8_hasStreet_17
    · have hf := hf.2 hc
      refine lv_iconst (v := (1 : Int32)) hx hb d_8_hasStreet_12 (by decide) ?_
      refine lv_goto (tgt := 17) hx hb d_8_hasStreet_13 (by decide) ?_
      exact hR _ _ _ _ _ _ hG (by unfold isB; decide) hf d_8_hasStreet_17
theorem c_8_hasStreet (l : Launch) {D : va_G} {ac : Nat → ClassId} {ad : Nat → Nat} {st : SS} {A : Nat → Prop} {σ : St} {r0 : Nat} {x1 : Int32} {Q : Int32 → St → Prop} (hk_r0 : kd r0 = 8) (hf : m_8_hasStreet r0 x1 Q σ) : Met l y_8_hasStreet (Cond.code y_8_hasStreet prog_10_method_3_code 2 (some .boolean) :: wA) { frames := 0, cells := 0, slots := 0, locals := 0 } (va_Pc [.ref (ad r0), .int x1] (GSt A D ac ad st σ)) (va_Qi Q (GSt A D ac ad st) A) 0 0 A :=
  mkZ l (by decide +kernel) rfl [.ref (ad r0), .int x1] (Nat.le_of_ble_eq_true rfl) (fun p e s m args below meth c ls QW S hR hG hl => w_8_hasStreet_0 S hR hk_r0 hG hl hf)
set_option maxHeartbeats 4000000 in
set_option maxRecDepth 100000 in
theorem w_8_hasCell_0 {r0 : Nat} {x1 : Int32} {x2 : Int32} {x3 : Int32} {Q : Int32 → St → Prop} {σ : St} {H : Heap} {locs : List Loc} {ls : Array Slot} (S : SC A D ac st p m c prog_10_method_4_code 4 s args "SweeperRounds$World" R cells slots 1 21) (hR : RtZ A D ac ad p l e R s m args below meth c prog_10_method_4_code cells slots QW Q) (hk_r0 : kd r0 = 8) (hG : DG A D ac ad s σ H locs) (hl : lv_has ls 4 [(0, .ref (ad r0)), (1, .int x1), (2, .int x2), (3, .int x3)]) (hf : m_8_hasCell r0 x1 x2 x3 Q σ) : W p l e R s m args below meth c H locs cells slots QW (F0 m 0 ls []) := by
  have hx := S.1.1
  have hb := S.1.2.1
  unfold m_8_hasCell at hf
  refine lv_aload_n hx hb d_8_hasCell_0 rfl (lv_at hl 0 rfl) ?_
  refine lv_iload_n hx hb d_8_hasCell_1 rfl (lv_at hl 1 rfl) ?_
  refine iv_8_81 S hl.1 hG hk_r0 (c_8_hasStreet l hk_r0 hf) ⟨Nat.le_of_ble_eq_true rfl, Nat.le_of_ble_eq_true rfl⟩ (Nat.le_of_ble_eq_true rfl) d_8_hasCell_2 (fun v_2 σ_1 hf H locs hG => ?_)
  refine lv_if_eq (tgt := 38) hx hb d_8_hasCell_5 (by decide) (fun hc => ?_) (fun hc => ?_)
  · have hf := hf.1 hc
    refine lv_iconst (v := (0 : Int32)) hx hb d_8_hasCell_38 (by decide) ?_
    exact hR _ _ _ _ _ _ hG (by unfold isB; decide) hf d_8_hasCell_39
  · have hf := hf.2 hc
    refine lv_iload_n hx hb d_8_hasCell_8 rfl (lv_at hl 2 rfl) ?_
    refine lv_if_lt (tgt := 38) hx hb d_8_hasCell_9 (by decide) (fun hc => ?_) (fun hc => ?_)
    · have hf := hf.1 hc
      refine lv_iconst (v := (0 : Int32)) hx hb d_8_hasCell_38 (by decide) ?_
      exact hR _ _ _ _ _ _ hG (by unfold isB; decide) hf d_8_hasCell_39
    · have hf := hf.2 hc
      refine lv_iload_n hx hb d_8_hasCell_12 rfl (lv_at hl 2 rfl) ?_
      refine lv_iconst (v := (2 : Int32)) hx hb d_8_hasCell_13 (by decide) ?_
      refine lv_icmp_ge (tgt := 38) hx hb d_8_hasCell_14 (by decide) (fun hc => ?_) (fun hc => ?_)
      · have hf := hf.1 hc
        refine lv_iconst (v := (0 : Int32)) hx hb d_8_hasCell_38 (by decide) ?_
        exact hR _ _ _ _ _ _ hG (by unfold isB; decide) hf d_8_hasCell_39
      · have hf := hf.2 hc
        refine lv_iload_n hx hb d_8_hasCell_17 rfl (lv_at hl 3 rfl) ?_
        refine lv_if_lt (tgt := 38) hx hb d_8_hasCell_18 (by decide) (fun hc => ?_) (fun hc => ?_)
        · have hf := hf.1 hc
          refine lv_iconst (v := (0 : Int32)) hx hb d_8_hasCell_38 (by decide) ?_
          exact hR _ _ _ _ _ _ hG (by unfold isB; decide) hf d_8_hasCell_39
        · have hf := hf.2 hc
          refine lv_iload_n hx hb d_8_hasCell_21 rfl (lv_at hl 3 rfl) ?_
          refine lv_aload_n hx hb d_8_hasCell_22 rfl (lv_at hl 0 rfl) ?_
          refine gf_8_11 S hG hk_r0 d_8_hasCell_23 ?_
          refine lv_iload_n hx hb d_8_hasCell_26 rfl (lv_at hl 1 rfl) ?_
          refine mq3 S hG (kr_8_0 hk_r0) hf.1 d_8_hasCell_27 ?_
          have hi_3 := vin_lt hf.1
          have hf := hf.2
          refine gf_8_85 S hG (ke_23 (kr_8_0 hk_r0) hi_3) d_8_hasCell_28 ?_
          refine lv_icmp_ge (tgt := 38) hx hb d_8_hasCell_31 (by decide) (fun hc => ?_) (fun hc => ?_)
          · have hf := hf.1 hc
            refine lv_iconst (v := (0 : Int32)) hx hb d_8_hasCell_38 (by decide) ?_
            exact hR _ _ _ _ _ _ hG (by unfold isB; decide) hf d_8_hasCell_39
          · have hf := hf.2 hc
            refine lv_iconst (v := (1 : Int32)) hx hb d_8_hasCell_34 (by decide) ?_
            refine lv_goto (tgt := 39) hx hb d_8_hasCell_35 (by decide) ?_
            exact hR _ _ _ _ _ _ hG (by unfold isB; decide) hf d_8_hasCell_39
theorem c_8_hasCell (l : Launch) {D : va_G} {ac : Nat → ClassId} {ad : Nat → Nat} {st : SS} {A : Nat → Prop} {σ : St} {r0 : Nat} {x1 : Int32} {x2 : Int32} {x3 : Int32} {Q : Int32 → St → Prop} (hk_r0 : kd r0 = 8) (hf : m_8_hasCell r0 x1 x2 x3 Q σ) : Met l y_8_hasCell (Cond.code y_8_hasCell prog_10_method_4_code 4 (some .boolean) :: wA) { frames := 1, cells := 0, slots := 0, locals := 21 } (va_Pc [.ref (ad r0), .int x1, .int x2, .int x3] (GSt A D ac ad st σ)) (va_Qi Q (GSt A D ac ad st) A) 0 0 A :=
  mkZ l (by decide +kernel) rfl [.ref (ad r0), .int x1, .int x2, .int x3] (Nat.le_of_ble_eq_true rfl) (fun p e s m args below meth c ls QW S hR hG hl => w_8_hasCell_0 S hR hk_r0 hG hl hf)
set_option maxHeartbeats 4000000 in
set_option maxRecDepth 100000 in
theorem w_9_placeOf_0 {x0 : Int32} {x1 : Int32} {Q : Int32 → St → Prop} {σ : St} {H : Heap} {locs : List Loc} {ls : Array Slot} (S : SC A D ac st p m c prog_1_method_32_code 2 s args "SweeperRounds" R cells slots 0 0) (hR : RtI A D ac ad p l e R s m args below meth c prog_1_method_32_code cells slots QW Q) (hG : DG A D ac ad s σ H locs) (hl : lv_has ls 2 [(0, .int x0), (1, .int x1)]) (hf : m_9_placeOf x0 x1 Q σ) : W p l e R s m args below meth c H locs cells slots QW (F0 m 0 ls []) := by
  have hx := S.1.1
  have hb := S.1.2.1
  unfold m_9_placeOf at hf
  refine lv_iload_n hx hb d_9_placeOf_0 rfl (lv_at hl 0 rfl) ?_
  refine lv_bipush (v := (20 : Int32)) hx hb d_9_placeOf_1 (by decide) ?_
  refine lv_imul hx hb d_9_placeOf_3 ?_
  refine lv_iload_n hx hb d_9_placeOf_4 rfl (lv_at hl 1 rfl) ?_
  refine lv_iadd hx hb d_9_placeOf_5 ?_
  exact hR _ _ _ _ _ _ hG hf d_9_placeOf_6
theorem c_9_placeOf (l : Launch) {D : va_G} {ac : Nat → ClassId} {ad : Nat → Nat} {st : SS} {A : Nat → Prop} {σ : St} {x0 : Int32} {x1 : Int32} {Q : Int32 → St → Prop} (hf : m_9_placeOf x0 x1 Q σ) : Met l y_9_placeOf (Cond.code y_9_placeOf prog_1_method_32_code 2 (some .int) :: wA) { frames := 0, cells := 0, slots := 0, locals := 0 } (va_Pc [.int x0, .int x1] (GSt A D ac ad st σ)) (va_Qi Q (GSt A D ac ad st) A) 0 0 A :=
  mkI l (by decide +kernel) rfl [.int x0, .int x1] (Nat.le_of_ble_eq_true rfl) (fun p e s m args below meth c ls QW S hR hG hl => w_9_placeOf_0 S hR hG hl hf)
set_option maxHeartbeats 4000000 in
set_option maxRecDepth 100000 in
theorem w_8_layDirt_0 {r0 : Nat} {x1 : Int32} {x2 : Int32} {x3 : Int32} {Q : Int32 → St → Prop} {σ : St} {H : Heap} {locs : List Loc} {ls : Array Slot} (S : SC A D ac st p m c prog_10_method_14_code 6 s args "SweeperRounds$World" R cells slots 1 16) (hR : RtI A D ac ad p l e R s m args below meth c prog_10_method_14_code cells slots QW Q) (hk_r0 : kd r0 = 8) (hG : DG A D ac ad s σ H locs) (hl : lv_has ls 6 [(0, .ref (ad r0)), (1, .int x1), (2, .int x2), (3, .int x3)]) (hf : m_8_layDirt r0 x1 x2 x3 Q σ) : W p l e R s m args below meth c H locs cells slots QW (F0 m 0 ls []) := by
  have hx := S.1.1
  have hb := S.1.2.1
  unfold m_8_layDirt at hf
  refine lv_aload_n hx hb d_8_layDirt_0 rfl (lv_at hl 0 rfl) ?_
  refine gf_8_11 S hG hk_r0 d_8_layDirt_1 ?_
  refine lv_iload_n hx hb d_8_layDirt_4 rfl (lv_at hl 1 rfl) ?_
  refine mq3 S hG (kr_8_0 hk_r0) hf.1 d_8_layDirt_5 ?_
  have hi_1 := vin_lt hf.1
  have hf := hf.2
  refine gf_8_111 S hG (ke_23 (kr_8_0 hk_r0) hi_1) d_8_layDirt_6 ?_
  refine lv_topr (fun r4_2 er4_2 => ?_)
  have hf := hf r4_2 er4_2
  have hk_r4_2 : kd r4_2 = 20 := er4_2 ▸ (kr_6_3 (ke_23 (kr_8_0 hk_r0) hi_1))
  refine lv_astore (lv' := [(4, .ref (ad r4_2)), (0, .ref (ad r0)), (1, .int x1), (2, .int x2), (3, .int x3)]) hx hb d_8_layDirt_9 hl (by decide) rfl (fun ls hl => ?_)
  refine lv_aload hx hb d_8_layDirt_11 (lv_at hl 0 rfl) ?_
  refine lv_iload_n hx hb d_8_layDirt_13 rfl (lv_at hl 3 rfl) ?_
  refine mia S hG 20 rfl rfl hk_r4_2 hf.1 d_8_layDirt_14 ?_
  have hf := hf.2
  refine lv_topi (fun x5_3 ex5_3 => ?_)
  have hf := hf x5_3 ex5_3
  refine lv_istore (lv' := [(5, .int x5_3), (4, .ref (ad r4_2)), (0, .ref (ad r0)), (1, .int x1), (2, .int x2), (3, .int x3)]) hx hb d_8_layDirt_15 hl (by decide) rfl (fun ls hl => ?_)
  refine lv_aload hx hb d_8_layDirt_17 (lv_at hl 1 rfl) ?_
  refine lv_iload_n hx hb d_8_layDirt_19 rfl (lv_at hl 4 rfl) ?_
  refine lv_iload_n hx hb d_8_layDirt_20 rfl (lv_at hl 5 rfl) ?_
  refine mis S hG 20 rfl rfl hk_r4_2 hf.1 d_8_layDirt_21 (fun σ_4 eσ_4 H locs hG => ?_)
  have hf := hf.2 σ_4 eσ_4
  refine lv_aload_n hx hb d_8_layDirt_22 rfl (lv_at hl 2 rfl) ?_
  refine gf_8_27 S hG hk_r0 d_8_layDirt_23 ?_
  refine lv_iconst (v := (0 : Int32)) hx hb d_8_layDirt_26 (by decide) ?_
  refine lv_dup2_11 hx hb d_8_layDirt_27 rfl rfl ?_
  refine mia S hG 27 rfl rfl (kr_8_8 hk_r0) hf.1 d_8_layDirt_28 ?_
  have hf := hf.2
  refine lv_iconst (v := (0 : Int32)) hx hb d_8_layDirt_29 (by decide) ?_
  refine lv_iload_n hx hb d_8_layDirt_30 rfl (lv_at hl 5 rfl) ?_
  refine lv_iload hx hb d_8_layDirt_31 (lv_at hl 0 rfl) ?_
  refine lv_isub hx hb d_8_layDirt_33 ?_
  refine mmx S hl.1 wm_354 wm_355 wm_20 wm_356 (by decide) (Nat.le_of_ble_eq_true rfl) d_8_layDirt_34 ?_
  refine lv_iadd hx hb d_8_layDirt_37 ?_
  refine mis S hG 27 rfl rfl (kr_8_8 hk_r0) hf.1 d_8_layDirt_38 (fun σ_5 eσ_5 H locs hG => ?_)
  have hf := hf.2 σ_5 eσ_5
  refine lv_aload_n hx hb d_8_layDirt_39 rfl (lv_at hl 2 rfl) ?_
  refine gf_8_27 S hG hk_r0 d_8_layDirt_40 ?_
  refine lv_iconst (v := (2 : Int32)) hx hb d_8_layDirt_43 (by decide) ?_
  refine lv_dup2_11 hx hb d_8_layDirt_44 rfl rfl ?_
  refine mia S hG 27 rfl rfl (kr_8_8 hk_r0) hf.1 d_8_layDirt_45 ?_
  have hf := hf.2
  refine lv_iconst (v := (0 : Int32)) hx hb d_8_layDirt_46 (by decide) ?_
  refine lv_iload hx hb d_8_layDirt_47 (lv_at hl 0 rfl) ?_
  refine lv_iload_n hx hb d_8_layDirt_49 rfl (lv_at hl 5 rfl) ?_
  refine lv_isub hx hb d_8_layDirt_50 ?_
  refine mmx S hl.1 wm_354 wm_355 wm_20 wm_356 (by decide) (Nat.le_of_ble_eq_true rfl) d_8_layDirt_51 ?_
  refine lv_iadd hx hb d_8_layDirt_54 ?_
  refine mis S hG 27 rfl rfl (kr_8_8 hk_r0) hf.1 d_8_layDirt_55 (fun σ_6 eσ_6 H locs hG => ?_)
  have hf := hf.2 σ_6 eσ_6
  refine lv_iload hx hb d_8_layDirt_56 (lv_at hl 0 rfl) ?_
  exact hR _ _ _ _ _ _ hG hf d_8_layDirt_58
theorem c_8_layDirt (l : Launch) {D : va_G} {ac : Nat → ClassId} {ad : Nat → Nat} {st : SS} {A : Nat → Prop} {σ : St} {r0 : Nat} {x1 : Int32} {x2 : Int32} {x3 : Int32} {Q : Int32 → St → Prop} (hk_r0 : kd r0 = 8) (hf : m_8_layDirt r0 x1 x2 x3 Q σ) : Met l y_8_layDirt (Cond.code y_8_layDirt prog_10_method_14_code 6 (some .int) :: wA) { frames := 1, cells := 0, slots := 0, locals := 16 } (va_Pc [.ref (ad r0), .int x1, .int x2, .int x3] (GSt A D ac ad st σ)) (va_Qi Q (GSt A D ac ad st) A) 0 0 A :=
  mkI l (by decide +kernel) rfl [.ref (ad r0), .int x1, .int x2, .int x3] (Nat.le_of_ble_eq_true rfl) (fun p e s m args below meth c ls QW S hR hG hl => w_8_layDirt_0 S hR hk_r0 hG hl hf)
set_option maxHeartbeats 4000000 in
set_option maxRecDepth 100000 in
theorem w_9_lay_0 {r0 : Nat} {x1 : Int32} {x2 : Int32} {x3 : Int32} {x4 : Int32} {Q : Int32 → St → Prop} {σ : St} {H : Heap} {locs : List Loc} {ls : Array Slot} (S : SC A D ac st p m c prog_1_method_8_code 5 s args "SweeperRounds" R cells slots 3 65) (hR : RtI A D ac ad p l e R s m args below meth c prog_1_method_8_code cells slots QW Q) (hk_r0 : kd r0 = 9) (hG : DG A D ac ad s σ H locs) (hl : lv_has ls 5 [(0, .ref (ad r0)), (1, .int x1), (2, .int x2), (3, .int x3), (4, .int x4)]) (hf : m_9_lay r0 x1 x2 x3 x4 Q σ) : W p l e R s m args below meth c H locs cells slots QW (F0 m 0 ls []) := by
  have hx := S.1.1
  have hb := S.1.2.1
  unfold m_9_lay at hf
  refine lv_aload_n hx hb d_9_lay_0 rfl (lv_at hl 0 rfl) ?_
  refine gf_9_26 S hG hk_r0 d_9_lay_1 ?_
  refine lv_iload_n hx hb d_9_lay_4 rfl (lv_at hl 1 rfl) ?_
  refine lv_iload_n hx hb d_9_lay_5 rfl (lv_at hl 2 rfl) ?_
  refine lv_iload_n hx hb d_9_lay_6 rfl (lv_at hl 3 rfl) ?_
  refine iv_9_111 S hl.1 hG (kr_9_2 hk_r0) (c_8_hasCell l (kr_9_2 hk_r0) hf) ⟨Nat.le_of_ble_eq_true rfl, Nat.le_of_ble_eq_true rfl⟩ (Nat.le_of_ble_eq_true rfl) d_9_lay_7 (fun v_2 σ_1 hf H locs hG => ?_)
  refine lv_if_eq (tgt := 25) hx hb d_9_lay_10 (by decide) (fun hc => ?_) (fun hc => ?_)
  · have hf := hf.1 hc
    refine lv_iconst (v := (-1 : Int32)) hx hb d_9_lay_25 (by decide) ?_
    exact hR _ _ _ _ _ _ hG hf d_9_lay_26
  · have hf := hf.2 hc
    refine lv_iload hx hb d_9_lay_13 (lv_at hl 4 rfl) ?_
    refine lv_if_lt (tgt := 25) hx hb d_9_lay_15 (by decide) (fun hc => ?_) (fun hc => ?_)
    · have hf := hf.1 hc
      refine lv_iconst (v := (-1 : Int32)) hx hb d_9_lay_25 (by decide) ?_
      exact hR _ _ _ _ _ _ hG hf d_9_lay_26
    · have hf := hf.2 hc
      refine lv_iload hx hb d_9_lay_18 (lv_at hl 4 rfl) ?_
      refine lv_bipush (v := (99 : Int32)) hx hb d_9_lay_20 (by decide) ?_
      refine lv_icmp_le (tgt := 27) hx hb d_9_lay_22 (by decide) (fun hc => ?_) (fun hc => ?_)
      · have hf := hf.1 hc
        refine lv_aload_n hx hb d_9_lay_27 rfl (lv_at hl 0 rfl) ?_
        refine gf_9_42 S hG hk_r0 d_9_lay_28 ?_
        refine lv_aload_n hx hb d_9_lay_31 rfl (lv_at hl 0 rfl) ?_
        refine gf_9_26 S hG hk_r0 d_9_lay_32 ?_
        refine iv_9_80 S hl.1 hG (kr_9_4 hk_r0) (c_0_remember l (kr_9_4 hk_r0) (kr_9_2 hk_r0) hf) ⟨Nat.le_of_ble_eq_true rfl, Nat.le_of_ble_eq_true rfl⟩ (Nat.le_of_ble_eq_true rfl) d_9_lay_35 (fun σ_3 hf H locs hG => ?_)
        refine lv_aload_n hx hb d_9_lay_38 rfl (lv_at hl 0 rfl) ?_
        refine gf_9_26 S hG hk_r0 d_9_lay_39 ?_
        refine lv_iload_n hx hb d_9_lay_42 rfl (lv_at hl 1 rfl) ?_
        refine lv_iload_n hx hb d_9_lay_43 rfl (lv_at hl 2 rfl) ?_
        refine lv_iload_n hx hb d_9_lay_44 rfl (lv_at hl 3 rfl) ?_
        refine iv_9_115 S hl.1 hG  (c_9_placeOf l  hf) ⟨Nat.le_of_ble_eq_true rfl, Nat.le_of_ble_eq_true rfl⟩ (Nat.le_of_ble_eq_true rfl) d_9_lay_45 (fun v_6 σ_5 hf H locs hG => ?_)
        refine lv_iload hx hb d_9_lay_48 (lv_at hl 4 rfl) ?_
        refine iv_9_119 S hl.1 hG (kr_9_2 hk_r0) (c_8_layDirt l (kr_9_2 hk_r0) hf) ⟨Nat.le_of_ble_eq_true rfl, Nat.le_of_ble_eq_true rfl⟩ (Nat.le_of_ble_eq_true rfl) d_9_lay_50 (fun v_8 σ_7 hf H locs hG => ?_)
        exact hR _ _ _ _ _ _ hG hf d_9_lay_53
      · have hf := hf.2 hc
        refine lv_iconst (v := (-1 : Int32)) hx hb d_9_lay_25 (by decide) ?_
        exact hR _ _ _ _ _ _ hG hf d_9_lay_26
theorem c_9_lay (l : Launch) {D : va_G} {ac : Nat → ClassId} {ad : Nat → Nat} {st : SS} {A : Nat → Prop} {σ : St} {r0 : Nat} {x1 : Int32} {x2 : Int32} {x3 : Int32} {x4 : Int32} {Q : Int32 → St → Prop} (hk_r0 : kd r0 = 9) (hf : m_9_lay r0 x1 x2 x3 x4 Q σ) : Met l y_9_lay (Cond.code y_9_lay prog_1_method_8_code 5 (some .int) :: wA) { frames := 3, cells := 0, slots := 0, locals := 65 } (va_Pc [.ref (ad r0), .int x1, .int x2, .int x3, .int x4] (GSt A D ac ad st σ)) (va_Qi Q (GSt A D ac ad st) A) 0 0 A :=
  mkI l (by decide +kernel) rfl [.ref (ad r0), .int x1, .int x2, .int x3, .int x4] (Nat.le_of_ble_eq_true rfl) (fun p e s m args below meth c ls QW S hR hG hl => w_9_lay_0 S hR hk_r0 hG hl hf)
set_option maxHeartbeats 4000000 in
set_option maxRecDepth 100000 in
theorem w_9_park_0 {r0 : Nat} {x1 : Int32} {x2 : Int32} {x3 : Int32} {x4 : Int32} {Q : Int32 → St → Prop} {σ : St} {H : Heap} {locs : List Loc} {ls : Array Slot} (S : SC A D ac st p m c prog_1_method_9_code 8 s args "SweeperRounds" R cells slots 3 65) (hR : RtI A D ac ad p l e R s m args below meth c prog_1_method_9_code cells slots QW Q) (hk_r0 : kd r0 = 9) (hG : DG A D ac ad s σ H locs) (hl : lv_has ls 8 [(0, .ref (ad r0)), (1, .int x1), (2, .int x2), (3, .int x3), (4, .int x4)]) (hf : m_9_park r0 x1 x2 x3 x4 Q σ) : W p l e R s m args below meth c H locs cells slots QW (F0 m 0 ls []) := by
  have hx := S.1.1
  have hb := S.1.2.1
  unfold m_9_park at hf
  refine lv_aload_n hx hb d_9_park_0 rfl (lv_at hl 0 rfl) ?_
  refine gf_9_26 S hG hk_r0 d_9_park_1 ?_
  refine lv_iload_n hx hb d_9_park_4 rfl (lv_at hl 1 rfl) ?_
  refine lv_iload_n hx hb d_9_park_5 rfl (lv_at hl 2 rfl) ?_
  refine lv_iload_n hx hb d_9_park_6 rfl (lv_at hl 3 rfl) ?_
  refine iv_9_111 S hl.1 hG (kr_9_2 hk_r0) (c_8_hasCell l (kr_9_2 hk_r0) hf) ⟨Nat.le_of_ble_eq_true rfl, Nat.le_of_ble_eq_true rfl⟩ (Nat.le_of_ble_eq_true rfl) d_9_park_7 (fun v_2 σ_1 hf H locs hG => ?_)
  refine lv_if_ne (tgt := 15) hx hb d_9_park_10 (by decide) (fun hc => ?_) (fun hc => ?_)
  · have hf := hf.1 hc
    refine lv_aload_n hx hb d_9_park_15 rfl (lv_at hl 0 rfl) ?_
    refine gf_9_42 S hG hk_r0 d_9_park_16 ?_
    refine lv_aload_n hx hb d_9_park_19 rfl (lv_at hl 0 rfl) ?_
    refine gf_9_26 S hG hk_r0 d_9_park_20 ?_
    refine iv_9_80 S hl.1 hG (kr_9_4 hk_r0) (c_0_remember l (kr_9_4 hk_r0) (kr_9_2 hk_r0) hf) ⟨Nat.le_of_ble_eq_true rfl, Nat.le_of_ble_eq_true rfl⟩ (Nat.le_of_ble_eq_true rfl) d_9_park_23 (fun σ_3 hf H locs hG => ?_)
    refine lv_aload_n hx hb d_9_park_26 rfl (lv_at hl 0 rfl) ?_
    refine gf_9_26 S hG hk_r0 d_9_park_27 ?_
    refine gf_9_122 S hG (kr_9_2 hk_r0) d_9_park_30 ?_
    refine lv_iload_n hx hb d_9_park_33 rfl (lv_at hl 1 rfl) ?_
    refine mq3 S hG (kr_8_0 (kr_9_2 hk_r0)) hf.1 d_9_park_34 ?_
    have hi_5 := vin_lt hf.1
    have hf := hf.2
    refine gf_9_126 S hG (ke_23 (kr_8_0 (kr_9_2 hk_r0)) hi_5) d_9_park_35 ?_
    refine lv_topr (fun r5_6 er5_6 => ?_)
    have hf := hf r5_6 er5_6
    have hk_r5_6 : kd r5_6 = 22 := er5_6 ▸ (kr_6_4 (ke_23 (kr_8_0 (kr_9_2 hk_r0)) hi_5))
    refine lv_astore (lv' := [(5, .ref (ad r5_6)), (0, .ref (ad r0)), (1, .int x1), (2, .int x2), (3, .int x3), (4, .int x4)]) hx hb d_9_park_38 hl (by decide) rfl (fun ls hl => ?_)
    refine lv_iload_n hx hb d_9_park_40 rfl (lv_at hl 3 rfl) ?_
    refine lv_iload_n hx hb d_9_park_41 rfl (lv_at hl 4 rfl) ?_
    refine iv_9_115 S hl.1 hG  (c_9_placeOf l  hf) ⟨Nat.le_of_ble_eq_true rfl, Nat.le_of_ble_eq_true rfl⟩ (Nat.le_of_ble_eq_true rfl) d_9_park_42 (fun v_8 σ_7 hf H locs hG => ?_)
    refine lv_istore (lv' := [(6, .int v_8), (5, .ref (ad r5_6)), (0, .ref (ad r0)), (1, .int x1), (2, .int x2), (3, .int x3), (4, .int x4)]) hx hb d_9_park_45 hl (by decide) rfl (fun ls hl => ?_)
    refine lv_aload hx hb d_9_park_47 (lv_at hl 1 rfl) ?_
    refine lv_iload hx hb d_9_park_49 (lv_at hl 0 rfl) ?_
    refine mza S hG hk_r5_6 hf.1 d_9_park_51 ?_
    have hf := hf.2
    refine lv_topi (fun x7_9 ex7_9 => ?_)
    have hf := hf x7_9 ex7_9
    refine lv_istore (lv' := [(7, .int x7_9), (6, .int v_8), (5, .ref (ad r5_6)), (0, .ref (ad r0)), (1, .int x1), (2, .int x2), (3, .int x3), (4, .int x4)]) hx hb d_9_park_52 hl (by decide) rfl (fun ls hl => ?_)
    refine lv_aload hx hb d_9_park_54 (lv_at hl 2 rfl) ?_
    refine lv_iload hx hb d_9_park_56 (lv_at hl 1 rfl) ?_
    refine lv_iload hx hb d_9_park_58 (lv_at hl 7 rfl) ?_
    refine mzs S hG hk_r5_6 hf.1 d_9_park_60 (fun σ_10 eσ_10 H locs hG => ?_)
    have hf := hf.2 σ_10 eσ_10
    refine lv_iload hx hb d_9_park_61 (lv_at hl 0 rfl) ?_
    refine lv_if_eq (tgt := 70) hx hb d_9_park_63 (by decide) (fun hc => ?_) (fun hc => ?_)
    · have hf := hf.1 hc
      refine lv_iconst (v := (0 : Int32)) hx hb d_9_park_70 (by decide) ?_
      exact hR _ _ _ _ _ _ hG hf d_9_park_71
    · have hf := hf.2 hc
      refine lv_iconst (v := (1 : Int32)) hx hb d_9_park_66 (by decide) ?_
      refine lv_goto (tgt := 71) hx hb d_9_park_67 (by decide) ?_
      exact hR _ _ _ _ _ _ hG hf d_9_park_71
  · have hf := hf.2 hc
    refine lv_iconst (v := (-1 : Int32)) hx hb d_9_park_13 (by decide) ?_
    exact hR _ _ _ _ _ _ hG hf d_9_park_14
theorem c_9_park (l : Launch) {D : va_G} {ac : Nat → ClassId} {ad : Nat → Nat} {st : SS} {A : Nat → Prop} {σ : St} {r0 : Nat} {x1 : Int32} {x2 : Int32} {x3 : Int32} {x4 : Int32} {Q : Int32 → St → Prop} (hk_r0 : kd r0 = 9) (hf : m_9_park r0 x1 x2 x3 x4 Q σ) : Met l y_9_park (Cond.code y_9_park prog_1_method_9_code 8 (some .int) :: wA) { frames := 3, cells := 0, slots := 0, locals := 65 } (va_Pc [.ref (ad r0), .int x1, .int x2, .int x3, .int x4] (GSt A D ac ad st σ)) (va_Qi Q (GSt A D ac ad st) A) 0 0 A :=
  mkI l (by decide +kernel) rfl [.ref (ad r0), .int x1, .int x2, .int x3, .int x4] (Nat.le_of_ble_eq_true rfl) (fun p e s m args below meth c ls QW S hR hG hl => w_9_park_0 S hR hk_r0 hG hl hf)
set_option maxHeartbeats 4000000 in
set_option maxRecDepth 100000 in
theorem w_8_grip_0 {r0 : Nat} {Q : Int32 → St → Prop} {σ : St} {H : Heap} {locs : List Loc} {ls : Array Slot} (S : SC A D ac st p m c prog_10_method_16_code 1 s args "SweeperRounds$World" R cells slots 0 0) (hR : RtI A D ac ad p l e R s m args below meth c prog_10_method_16_code cells slots QW Q) (hk_r0 : kd r0 = 8) (hG : DG A D ac ad s σ H locs) (hl : lv_has ls 1 [(0, .ref (ad r0))]) (hf : m_8_grip r0 Q σ) : W p l e R s m args below meth c H locs cells slots QW (F0 m 0 ls []) := by
  have hx := S.1.1
  have hb := S.1.2.1
  unfold m_8_grip at hf
  refine lv_bipush (v := (100 : Int32)) hx hb d_8_grip_0 (by decide) ?_
  refine lv_bipush (v := (15 : Int32)) hx hb d_8_grip_2 (by decide) ?_
  refine lv_aload_n hx hb d_8_grip_4 rfl (lv_at hl 0 rfl) ?_
  refine gf_8_23 S hG hk_r0 d_8_grip_5 ?_
  refine lv_iconst (v := (0 : Int32)) hx hb d_8_grip_8 (by decide) ?_
  refine mia S hG 26 rfl rfl (kr_8_5 hk_r0) hf.1 d_8_grip_9 ?_
  have hf := hf.2
  refine lv_iconst (v := (1 : Int32)) hx hb d_8_grip_10 (by decide) ?_
  refine lv_isub hx hb d_8_grip_11 ?_
  refine lv_imul hx hb d_8_grip_12 ?_
  refine lv_isub hx hb d_8_grip_13 ?_
  refine lv_aload_n hx hb d_8_grip_14 rfl (lv_at hl 0 rfl) ?_
  refine gf_8_48 S hG hk_r0 d_8_grip_15 ?_
  refine lv_imul hx hb d_8_grip_18 ?_
  refine lv_sipush (v := (1000 : Int32)) hx hb d_8_grip_19 (by decide) ?_
  refine lv_idiv hx hb d_8_grip_22 (by decide) ?_
  exact hR _ _ _ _ _ _ hG hf d_8_grip_23
theorem c_8_grip (l : Launch) {D : va_G} {ac : Nat → ClassId} {ad : Nat → Nat} {st : SS} {A : Nat → Prop} {σ : St} {r0 : Nat} {Q : Int32 → St → Prop} (hk_r0 : kd r0 = 8) (hf : m_8_grip r0 Q σ) : Met l y_8_grip (Cond.code y_8_grip prog_10_method_16_code 1 (some .int) :: wA) { frames := 0, cells := 0, slots := 0, locals := 0 } (va_Pc [.ref (ad r0)] (GSt A D ac ad st σ)) (va_Qi Q (GSt A D ac ad st) A) 0 0 A :=
  mkI l (by decide +kernel) rfl [.ref (ad r0)] (Nat.le_of_ble_eq_true rfl) (fun p e s m args below meth c ls QW S hR hG hl => w_8_grip_0 S hR hk_r0 hG hl hf)
set_option maxHeartbeats 4000000 in
set_option maxRecDepth 100000 in
theorem w_6_couldGive_0 {r0 : Nat} {x1 : Int32} {x2 : Int32} {Q : Int32 → St → Prop} {σ : St} {H : Heap} {locs : List Loc} {ls : Array Slot} (S : SC A D ac st p m c prog_8_method_8_code 3 s args "SweeperRounds$Street" R cells slots 0 0) (hR : RtI A D ac ad p l e R s m args below meth c prog_8_method_8_code cells slots QW Q) (hk_r0 : kd r0 = 6) (hG : DG A D ac ad s σ H locs) (hl : lv_has ls 3 [(0, .ref (ad r0)), (1, .int x1), (2, .int x2)]) (hf : m_6_couldGive r0 x1 x2 Q σ) : W p l e R s m args below meth c H locs cells slots QW (F0 m 0 ls []) := by
  have hx := S.1.1
  have hb := S.1.2.1
  unfold m_6_couldGive at hf
  refine lv_aload_n hx hb d_6_couldGive_0 rfl (lv_at hl 0 rfl) ?_
  refine gf_6_15 S hG hk_r0 d_6_couldGive_1 ?_
  refine lv_iload_n hx hb d_6_couldGive_4 rfl (lv_at hl 1 rfl) ?_
  refine mza S hG (kr_6_4 hk_r0) hf.1 d_6_couldGive_5 ?_
  have hf := hf.2
  refine lv_if_eq (tgt := 13) hx hb d_6_couldGive_6 (by decide) (fun hc => ?_) (fun hc => ?_)
  · have hf := hf.1 hc
    refine lv_aload_n hx hb d_6_couldGive_13 rfl (lv_at hl 0 rfl) ?_
    refine gf_6_9 S hG hk_r0 d_6_couldGive_14 ?_
    refine lv_iload_n hx hb d_6_couldGive_17 rfl (lv_at hl 1 rfl) ?_
    refine mia S hG 20 rfl rfl (kr_6_3 hk_r0) hf.1 d_6_couldGive_18 ?_
    have hf := hf.2
    refine lv_iload_n hx hb d_6_couldGive_19 rfl (lv_at hl 2 rfl) ?_
    refine lv_imul hx hb d_6_couldGive_20 ?_
    refine lv_bipush (v := (100 : Int32)) hx hb d_6_couldGive_21 (by decide) ?_
    refine lv_idiv hx hb d_6_couldGive_23 (by decide) ?_
    exact hR _ _ _ _ _ _ hG hf d_6_couldGive_24
  · have hf := hf.2 hc
    refine lv_iconst (v := (0 : Int32)) hx hb d_6_couldGive_9 (by decide) ?_
    refine lv_goto (tgt := 24) hx hb d_6_couldGive_10 (by decide) ?_
    exact hR _ _ _ _ _ _ hG hf d_6_couldGive_24
theorem c_6_couldGive (l : Launch) {D : va_G} {ac : Nat → ClassId} {ad : Nat → Nat} {st : SS} {A : Nat → Prop} {σ : St} {r0 : Nat} {x1 : Int32} {x2 : Int32} {Q : Int32 → St → Prop} (hk_r0 : kd r0 = 6) (hf : m_6_couldGive r0 x1 x2 Q σ) : Met l y_6_couldGive (Cond.code y_6_couldGive prog_8_method_8_code 3 (some .int) :: wA) { frames := 0, cells := 0, slots := 0, locals := 0 } (va_Pc [.ref (ad r0), .int x1, .int x2] (GSt A D ac ad st σ)) (va_Qi Q (GSt A D ac ad st) A) 0 0 A :=
  mkI l (by decide +kernel) rfl [.ref (ad r0), .int x1, .int x2] (Nat.le_of_ble_eq_true rfl) (fun p e s m args below meth c ls QW S hR hG hl => w_6_couldGive_0 S hR hk_r0 hG hl hf)
set_option maxHeartbeats 4000000 in
set_option maxRecDepth 100000 in
theorem w_8_room_0 {r0 : Nat} {Q : Int32 → St → Prop} {σ : St} {H : Heap} {locs : List Loc} {ls : Array Slot} (S : SC A D ac st p m c prog_10_method_17_code 1 s args "SweeperRounds$World" R cells slots 0 0) (hR : RtI A D ac ad p l e R s m args below meth c prog_10_method_17_code cells slots QW Q) (hk_r0 : kd r0 = 8) (hG : DG A D ac ad s σ H locs) (hl : lv_has ls 1 [(0, .ref (ad r0))]) (hf : m_8_room r0 Q σ) : W p l e R s m args below meth c H locs cells slots QW (F0 m 0 ls []) := by
  have hx := S.1.1
  have hb := S.1.2.1
  unfold m_8_room at hf
  refine lv_aload_n hx hb d_8_room_0 rfl (lv_at hl 0 rfl) ?_
  refine gf_8_23 S hG hk_r0 d_8_room_1 ?_
  refine lv_iconst (v := (1 : Int32)) hx hb d_8_room_4 (by decide) ?_
  refine mia S hG 26 rfl rfl (kr_8_5 hk_r0) hf.1 d_8_room_5 ?_
  have hf := hf.2
  refine lv_aload_n hx hb d_8_room_6 rfl (lv_at hl 0 rfl) ?_
  refine gf_8_69 S hG hk_r0 d_8_room_7 ?_
  refine lv_isub hx hb d_8_room_10 ?_
  exact hR _ _ _ _ _ _ hG hf d_8_room_11
theorem c_8_room (l : Launch) {D : va_G} {ac : Nat → ClassId} {ad : Nat → Nat} {st : SS} {A : Nat → Prop} {σ : St} {r0 : Nat} {Q : Int32 → St → Prop} (hk_r0 : kd r0 = 8) (hf : m_8_room r0 Q σ) : Met l y_8_room (Cond.code y_8_room prog_10_method_17_code 1 (some .int) :: wA) { frames := 0, cells := 0, slots := 0, locals := 0 } (va_Pc [.ref (ad r0)] (GSt A D ac ad st σ)) (va_Qi Q (GSt A D ac ad st) A) 0 0 A :=
  mkI l (by decide +kernel) rfl [.ref (ad r0)] (Nat.le_of_ble_eq_true rfl) (fun p e s m args below meth c ls QW S hR hG hl => w_8_room_0 S hR hk_r0 hG hl hf)
set_option maxHeartbeats 4000000 in
set_option maxRecDepth 100000 in
theorem w_9_cell_0 {r0 : Nat} {x1 : Int32} {x2 : Int32} {x3 : Int32} {x4 : Int32} {Q : Int32 → St → Prop} {σ : St} {H : Heap} {locs : List Loc} {ls : Array Slot} (S : SC A D ac st p m c prog_1_method_10_code 7 s args "SweeperRounds" R cells slots 2 44) (hR : RtI A D ac ad p l e R s m args below meth c prog_1_method_10_code cells slots QW Q) (hk_r0 : kd r0 = 9) (hG : DG A D ac ad s σ H locs) (hl : lv_has ls 7 [(0, .ref (ad r0)), (1, .int x1), (2, .int x2), (3, .int x3), (4, .int x4)]) (hf : m_9_cell r0 x1 x2 x3 x4 Q σ) : W p l e R s m args below meth c H locs cells slots QW (F0 m 0 ls []) := by
  have hx := S.1.1
  have hb := S.1.2.1
  unfold m_9_cell at hf
  refine lv_aload_n hx hb d_9_cell_0 rfl (lv_at hl 0 rfl) ?_
  refine gf_9_26 S hG hk_r0 d_9_cell_1 ?_
  refine lv_iload_n hx hb d_9_cell_4 rfl (lv_at hl 1 rfl) ?_
  refine lv_iload_n hx hb d_9_cell_5 rfl (lv_at hl 2 rfl) ?_
  refine lv_iload_n hx hb d_9_cell_6 rfl (lv_at hl 3 rfl) ?_
  refine iv_9_111 S hl.1 hG (kr_9_2 hk_r0) (c_8_hasCell l (kr_9_2 hk_r0) hf) ⟨Nat.le_of_ble_eq_true rfl, Nat.le_of_ble_eq_true rfl⟩ (Nat.le_of_ble_eq_true rfl) d_9_cell_7 (fun v_2 σ_1 hf H locs hG => ?_)
  refine lv_if_ne (tgt := 15) hx hb d_9_cell_10 (by decide) (fun hc => ?_) (fun hc => ?_)
  · have hf := hf.1 hc
    refine lv_aload_n hx hb d_9_cell_15 rfl (lv_at hl 0 rfl) ?_
    refine gf_9_26 S hG hk_r0 d_9_cell_16 ?_
    refine gf_9_122 S hG (kr_9_2 hk_r0) d_9_cell_19 ?_
    refine lv_iload_n hx hb d_9_cell_22 rfl (lv_at hl 1 rfl) ?_
    refine mq3 S hG (kr_8_0 (kr_9_2 hk_r0)) hf.1 d_9_cell_23 ?_
    have hi_3 := vin_lt hf.1
    have hf := hf.2
    refine lv_topr (fun r5_4 er5_4 => ?_)
    have hf := hf r5_4 er5_4
    have hk_r5_4 : kd r5_4 = 6 := er5_4 ▸ (ke_23 (kr_8_0 (kr_9_2 hk_r0)) hi_3)
    refine lv_astore (lv' := [(5, .ref (ad r5_4)), (0, .ref (ad r0)), (1, .int x1), (2, .int x2), (3, .int x3), (4, .int x4)]) hx hb d_9_cell_24 hl (by decide) rfl (fun ls hl => ?_)
    refine lv_iload_n hx hb d_9_cell_26 rfl (lv_at hl 3 rfl) ?_
    refine lv_iload_n hx hb d_9_cell_27 rfl (lv_at hl 4 rfl) ?_
    refine iv_9_115 S hl.1 hG  (c_9_placeOf l  hf) ⟨Nat.le_of_ble_eq_true rfl, Nat.le_of_ble_eq_true rfl⟩ (Nat.le_of_ble_eq_true rfl) d_9_cell_28 (fun v_6 σ_5 hf H locs hG => ?_)
    refine lv_istore (lv' := [(6, .int v_6), (5, .ref (ad r5_4)), (0, .ref (ad r0)), (1, .int x1), (2, .int x2), (3, .int x3), (4, .int x4)]) hx hb d_9_cell_31 hl (by decide) rfl (fun ls hl => ?_)
    refine lv_iload hx hb d_9_cell_33 (lv_at hl 6 rfl) ?_
    refine lv_topi (fun q_7 eq_7 => ?_)
    rcases sw_0_2 q_7 with hq_7 | hq_7 | hq_7 | hq_7
    · rw [eq_7] at hq_7 ⊢
      refine lv_tableOut (tgt := 111) hx hb d_9_cell_35 hq_7 (by decide) ?_
      have hf := hf.1 hq_7
      refine lv_iconst (v := (-1 : Int32)) hx hb d_9_cell_111 (by decide) ?_
      exact hR _ _ _ _ _ _ hG hf d_9_cell_112
    · subst hq_7
      refine lv_tableIn (off := 25) (tgt := 60) hx hb d_9_cell_35 (by decide) (by decide) (by decide) (by decide) ?_
      have hf := hf.2.1 eq_7.symm
      refine lv_aload hx hb d_9_cell_60 (lv_at hl 1 rfl) ?_
      refine gf_9_130 S hG hk_r5_4 d_9_cell_62 ?_
      refine lv_iload hx hb d_9_cell_65 (lv_at hl 0 rfl) ?_
      refine mia S hG 20 rfl rfl (kr_6_3 hk_r5_4) hf.1 d_9_cell_67 ?_
      have hf := hf.2
      exact hR _ _ _ _ _ _ hG hf d_9_cell_68
    · subst hq_7
      refine lv_tableIn (off := 34) (tgt := 69) hx hb d_9_cell_35 (by decide) (by decide) (by decide) (by decide) ?_
      have hf := hf.2.2.1 eq_7.symm
      refine lv_aload hx hb d_9_cell_69 (lv_at hl 1 rfl) ?_
      refine gf_9_126 S hG hk_r5_4 d_9_cell_71 ?_
      refine lv_iload hx hb d_9_cell_74 (lv_at hl 0 rfl) ?_
      refine mza S hG (kr_6_4 hk_r5_4) hf.1 d_9_cell_76 ?_
      have hf := hf.2
      refine lv_if_eq (tgt := 84) hx hb d_9_cell_77 (by decide) (fun hc => ?_) (fun hc => ?_)
      · have hf := hf.1 hc
        refine lv_iconst (v := (0 : Int32)) hx hb d_9_cell_84 (by decide) ?_
        exact hR _ _ _ _ _ _ hG hf d_9_cell_85
      · have hf := hf.2 hc
        refine lv_iconst (v := (1 : Int32)) hx hb d_9_cell_80 (by decide) ?_
        refine lv_goto (tgt := 85) hx hb d_9_cell_81 (by decide) ?_
        exact hR _ _ _ _ _ _ hG hf d_9_cell_85
    · subst hq_7
      refine lv_tableIn (off := 51) (tgt := 86) hx hb d_9_cell_35 (by decide) (by decide) (by decide) (by decide) ?_
      have hf := hf.2.2.2 eq_7.symm
      refine lv_aload hx hb d_9_cell_86 (lv_at hl 1 rfl) ?_
      refine lv_iload hx hb d_9_cell_88 (lv_at hl 0 rfl) ?_
      refine lv_aload_n hx hb d_9_cell_90 rfl (lv_at hl 2 rfl) ?_
      refine gf_9_26 S hG hk_r0 d_9_cell_91 ?_
      refine iv_9_134 S hl.1 hG (kr_9_2 hk_r0) (c_8_grip l (kr_9_2 hk_r0) hf) ⟨Nat.le_of_ble_eq_true rfl, Nat.le_of_ble_eq_true rfl⟩ (Nat.le_of_ble_eq_true rfl) d_9_cell_94 (fun v_9 σ_8 hf H locs hG => ?_)
      refine iv_9_138 S hl.1 hG hk_r5_4 (c_6_couldGive l hk_r5_4 hf) ⟨Nat.le_of_ble_eq_true rfl, Nat.le_of_ble_eq_true rfl⟩ (Nat.le_of_ble_eq_true rfl) d_9_cell_97 (fun v_11 σ_10 hf H locs hG => ?_)
      refine lv_aload_n hx hb d_9_cell_100 rfl (lv_at hl 2 rfl) ?_
      refine gf_9_26 S hG hk_r0 d_9_cell_101 ?_
      refine iv_9_141 S hl.1 hG (kr_9_2 hk_r0) (c_8_room l (kr_9_2 hk_r0) hf) ⟨Nat.le_of_ble_eq_true rfl, Nat.le_of_ble_eq_true rfl⟩ (Nat.le_of_ble_eq_true rfl) d_9_cell_104 (fun v_13 σ_12 hf H locs hG => ?_)
      refine mmn S hl.1 wm_377 wm_345 wm_20 wm_346 (by decide) (Nat.le_of_ble_eq_true rfl) d_9_cell_107 ?_
      exact hR _ _ _ _ _ _ hG hf d_9_cell_110
  · have hf := hf.2 hc
    refine lv_iconst (v := (-1 : Int32)) hx hb d_9_cell_13 (by decide) ?_
    exact hR _ _ _ _ _ _ hG hf d_9_cell_14
theorem c_9_cell (l : Launch) {D : va_G} {ac : Nat → ClassId} {ad : Nat → Nat} {st : SS} {A : Nat → Prop} {σ : St} {r0 : Nat} {x1 : Int32} {x2 : Int32} {x3 : Int32} {x4 : Int32} {Q : Int32 → St → Prop} (hk_r0 : kd r0 = 9) (hf : m_9_cell r0 x1 x2 x3 x4 Q σ) : Met l y_9_cell (Cond.code y_9_cell prog_1_method_10_code 7 (some .int) :: wA) { frames := 2, cells := 0, slots := 0, locals := 44 } (va_Pc [.ref (ad r0), .int x1, .int x2, .int x3, .int x4] (GSt A D ac ad st σ)) (va_Qi Q (GSt A D ac ad st) A) 0 0 A :=
  mkI l (by decide +kernel) rfl [.ref (ad r0), .int x1, .int x2, .int x3, .int x4] (Nat.le_of_ble_eq_true rfl) (fun p e s m args below meth c ls QW S hR hG hl => w_9_cell_0 S hR hk_r0 hG hl hf)
end MB
