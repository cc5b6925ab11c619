theorem d_9_rain_0 : decode prog_1_method_18_code 0 = .ok (.iload_n 1, 1) := by decide +kernel
theorem d_9_rain_1 : decode prog_1_method_18_code 1 = .ok (.iconst 1, 1) := by decide +kernel
theorem d_9_rain_2 : decode prog_1_method_18_code 2 = .ok (.if_icmp .lt 9, 3) := by decide +kernel
theorem d_9_rain_5 : decode prog_1_method_18_code 5 = .ok (.iload_n 1, 1) := by decide +kernel
theorem d_9_rain_6 : decode prog_1_method_18_code 6 = .ok (.bipush 100, 2) := by decide +kernel
theorem d_9_rain_8 : decode prog_1_method_18_code 8 = .ok (.if_icmp .le 5, 3) := by decide +kernel
theorem d_9_rain_11 : decode prog_1_method_18_code 11 = .ok (.iconst (-1), 1) := by decide +kernel
theorem d_9_rain_12 : decode prog_1_method_18_code 12 = .ok (.ireturn, 1) := by decide +kernel
theorem d_9_rain_13 : decode prog_1_method_18_code 13 = .ok (.aload_n 0, 1) := by decide +kernel
theorem d_9_rain_14 : decode prog_1_method_18_code 14 = .ok (.getfield 42, 3) := by decide +kernel
theorem d_9_rain_17 : decode prog_1_method_18_code 17 = .ok (.aload_n 0, 1) := by decide +kernel
theorem d_9_rain_18 : decode prog_1_method_18_code 18 = .ok (.getfield 26, 3) := by decide +kernel
theorem d_9_rain_21 : decode prog_1_method_18_code 21 = .ok (.invokevirtual 80, 3) := by decide +kernel
theorem d_9_rain_24 : decode prog_1_method_18_code 24 = .ok (.aload_n 0, 1) := by decide +kernel
theorem d_9_rain_25 : decode prog_1_method_18_code 25 = .ok (.getfield 26, 3) := by decide +kernel
theorem d_9_rain_28 : decode prog_1_method_18_code 28 = .ok (.iload_n 1, 1) := by decide +kernel
theorem d_9_rain_29 : decode prog_1_method_18_code 29 = .ok (.invokevirtual 224, 3) := by decide +kernel
theorem d_9_rain_32 : decode prog_1_method_18_code 32 = .ok (.ireturn, 1) := by decide +kernel
def m_9_rain (r0 : Nat) (x1 : Int32) (Q : Int32 → St → Prop) (σ : St) : Prop :=
  ((x1 < (1 : Int32) → Q (-1 : Int32) σ) ∧ (¬ x1 < (1 : Int32) → ((x1 ≤ (100 : Int32) → m_0_remember (r0 + 42) (r0 + 7) (fun (σ_1 : St) => m_8_washStreets (r0 + 7) x1 (fun (v_4 : Int32) (σ_3 : St) => Q v_4 σ_3) σ_1) σ) ∧ (¬ x1 ≤ (100 : Int32) → Q (-1 : Int32) σ))))
theorem d_9_latest_0 : decode prog_1_method_19_code 0 = .ok (.iload_n 1, 1) := by decide +kernel
theorem d_9_latest_1 : decode prog_1_method_19_code 1 = .ok (.ifCond .lt 8, 3) := by decide +kernel
theorem d_9_latest_4 : decode prog_1_method_19_code 4 = .ok (.iload_n 1, 1) := by decide +kernel
theorem d_9_latest_5 : decode prog_1_method_19_code 5 = .ok (.iconst 5, 1) := by decide +kernel
theorem d_9_latest_6 : decode prog_1_method_19_code 6 = .ok (.if_icmp .le 5, 3) := by decide +kernel
theorem d_9_latest_9 : decode prog_1_method_19_code 9 = .ok (.iconst (-1), 1) := by decide +kernel
theorem d_9_latest_10 : decode prog_1_method_19_code 10 = .ok (.ireturn, 1) := by decide +kernel
theorem d_9_latest_11 : decode prog_1_method_19_code 11 = .ok (.aload_n 0, 1) := by decide +kernel
theorem d_9_latest_12 : decode prog_1_method_19_code 12 = .ok (.getfield 26, 3) := by decide +kernel
theorem d_9_latest_15 : decode prog_1_method_19_code 15 = .ok (.getfield 227, 3) := by decide +kernel
theorem d_9_latest_18 : decode prog_1_method_19_code 18 = .ok (.ifCond .ne 6, 3) := by decide +kernel
theorem d_9_latest_21 : decode prog_1_method_19_code 21 = .ok (.bipush (-9), 2) := by decide +kernel
theorem d_9_latest_23 : decode prog_1_method_19_code 23 = .ok (.ireturn, 1) := by decide +kernel
theorem d_9_latest_24 : decode prog_1_method_19_code 24 = .ok (.iload_n 1, 1) := by decide +kernel
theorem d_9_latest_25 : decode prog_1_method_19_code 25 = .ok (.tableswitch 90 0 4 #[35, 46, 57, 68, 79], 35) := by decide +kernel
theorem d_9_latest_60 : decode prog_1_method_19_code 60 = .ok (.aload_n 0, 1) := by decide +kernel
theorem d_9_latest_61 : decode prog_1_method_19_code 61 = .ok (.getfield 26, 3) := by decide +kernel
theorem d_9_latest_64 : decode prog_1_method_19_code 64 = .ok (.getfield 211, 3) := by decide +kernel
theorem d_9_latest_67 : decode prog_1_method_19_code 67 = .ok (.getfield 230, 3) := by decide +kernel
theorem d_9_latest_70 : decode prog_1_method_19_code 70 = .ok (.ireturn, 1) := by decide +kernel
theorem d_9_latest_71 : decode prog_1_method_19_code 71 = .ok (.aload_n 0, 1) := by decide +kernel
theorem d_9_latest_72 : decode prog_1_method_19_code 72 = .ok (.getfield 26, 3) := by decide +kernel
theorem d_9_latest_75 : decode prog_1_method_19_code 75 = .ok (.getfield 211, 3) := by decide +kernel
theorem d_9_latest_78 : decode prog_1_method_19_code 78 = .ok (.getfield 233, 3) := by decide +kernel
theorem d_9_latest_81 : decode prog_1_method_19_code 81 = .ok (.ireturn, 1) := by decide +kernel
theorem d_9_latest_82 : decode prog_1_method_19_code 82 = .ok (.aload_n 0, 1) := by decide +kernel
theorem d_9_latest_83 : decode prog_1_method_19_code 83 = .ok (.getfield 26, 3) := by decide +kernel
theorem d_9_latest_86 : decode prog_1_method_19_code 86 = .ok (.getfield 211, 3) := by decide +kernel
theorem d_9_latest_89 : decode prog_1_method_19_code 89 = .ok (.getfield 236, 3) := by decide +kernel
theorem d_9_latest_92 : decode prog_1_method_19_code 92 = .ok (.ireturn, 1) := by decide +kernel
theorem d_9_latest_93 : decode prog_1_method_19_code 93 = .ok (.aload_n 0, 1) := by decide +kernel
theorem d_9_latest_94 : decode prog_1_method_19_code 94 = .ok (.getfield 26, 3) := by decide +kernel
theorem d_9_latest_97 : decode prog_1_method_19_code 97 = .ok (.getfield 211, 3) := by decide +kernel
theorem d_9_latest_100 : decode prog_1_method_19_code 100 = .ok (.getfield 215, 3) := by decide +kernel
theorem d_9_latest_103 : decode prog_1_method_19_code 103 = .ok (.ireturn, 1) := by decide +kernel
theorem d_9_latest_104 : decode prog_1_method_19_code 104 = .ok (.aload_n 0, 1) := by decide +kernel
theorem d_9_latest_105 : decode prog_1_method_19_code 105 = .ok (.getfield 26, 3) := by decide +kernel
theorem d_9_latest_108 : decode prog_1_method_19_code 108 = .ok (.getfield 211, 3) := by decide +kernel
theorem d_9_latest_111 : decode prog_1_method_19_code 111 = .ok (.getfield 239, 3) := by decide +kernel
theorem d_9_latest_114 : decode prog_1_method_19_code 114 = .ok (.ireturn, 1) := by decide +kernel
theorem d_9_latest_115 : decode prog_1_method_19_code 115 = .ok (.aload_n 0, 1) := by decide +kernel
theorem d_9_latest_116 : decode prog_1_method_19_code 116 = .ok (.getfield 26, 3) := by decide +kernel
theorem d_9_latest_119 : decode prog_1_method_19_code 119 = .ok (.getfield 211, 3) := by decide +kernel
theorem d_9_latest_122 : decode prog_1_method_19_code 122 = .ok (.getfield 242, 3) := by decide +kernel
theorem d_9_latest_125 : decode prog_1_method_19_code 125 = .ok (.ireturn, 1) := by decide +kernel
def m_9_latest (r0 : Nat) (x1 : Int32) (Q : Int32 → St → Prop) (σ : St) : Prop :=
  ((x1 < 0 → Q (-1 : Int32) σ) ∧ (¬ x1 < 0 → ((x1 ≤ (5 : Int32) → ((¬ (σ.1 (r0 + 7) 10) = 0 → (((x1.toInt < 0 ∨ 4 < x1.toInt) → Q (σ.1 ((r0 + 7) + 5) 5) σ) ∧ (x1 = 0 → Q (σ.1 ((r0 + 7) + 5) 0) σ) ∧ (x1 = 1 → Q (σ.1 ((r0 + 7) + 5) 1) σ) ∧ (x1 = 2 → Q (σ.1 ((r0 + 7) + 5) 2) σ) ∧ (x1 = 3 → Q (σ.1 ((r0 + 7) + 5) 3) σ) ∧ (x1 = 4 → Q (σ.1 ((r0 + 7) + 5) 4) σ))) ∧ ((σ.1 (r0 + 7) 10) = 0 → Q (-9 : Int32) σ))) ∧ (¬ x1 ≤ (5 : Int32) → Q (-1 : Int32) σ))))
theorem d_9_trySpeed_0 : decode prog_1_method_30_code 0 = .ok (.aload_n 0, 1) := by decide +kernel
theorem d_9_trySpeed_1 : decode prog_1_method_30_code 1 = .ok (.getfield 46, 3) := by decide +kernel
theorem d_9_trySpeed_4 : decode prog_1_method_30_code 4 = .ok (.aload_n 0, 1) := by decide +kernel
theorem d_9_trySpeed_5 : decode prog_1_method_30_code 5 = .ok (.getfield 26, 3) := by decide +kernel
theorem d_9_trySpeed_8 : decode prog_1_method_30_code 8 = .ok (.invokevirtual 317, 3) := by decide +kernel
theorem d_9_trySpeed_11 : decode prog_1_method_30_code 11 = .ok (.aload_n 0, 1) := by decide +kernel
theorem d_9_trySpeed_12 : decode prog_1_method_30_code 12 = .ok (.getfield 46, 3) := by decide +kernel
theorem d_9_trySpeed_15 : decode prog_1_method_30_code 15 = .ok (.getfield 174, 3) := by decide +kernel
theorem d_9_trySpeed_18 : decode prog_1_method_30_code 18 = .ok (.iconst 0, 1) := by decide +kernel
theorem d_9_trySpeed_19 : decode prog_1_method_30_code 19 = .ok (.iload_n 1, 1) := by decide +kernel
theorem d_9_trySpeed_20 : decode prog_1_method_30_code 20 = .ok (.iastore, 1) := by decide +kernel
theorem d_9_trySpeed_21 : decode prog_1_method_30_code 21 = .ok (.aload_n 0, 1) := by decide +kernel
theorem d_9_trySpeed_22 : decode prog_1_method_30_code 22 = .ok (.getfield 49, 3) := by decide +kernel
theorem d_9_trySpeed_25 : decode prog_1_method_30_code 25 = .ok (.invokevirtual 208, 3) := by decide +kernel
theorem d_9_trySpeed_28 : decode prog_1_method_30_code 28 = .ok (.return_, 1) := by decide +kernel
def m_9_trySpeed (r0 : Nat) (x1 : Int32) (Q : St → Prop) (σ : St) : Prop :=
  m_8_copyFrom (r0 + 316) (r0 + 7) (fun (σ_1 : St) => vp_in (0 : Int32) 6 ∧ ∀ σ_3 : St, σ_3 = wr σ_1 ((r0 + 316) + 3) ((0 : Int32)).toNatClampNeg x1 → m_5_carryOut (r0 + 350) (fun (σ_4 : St) => Q σ_4) σ_3) σ
theorem d_9_ifSpeed_0 : decode prog_1_method_20_code 0 = .ok (.iload_n 1, 1) := by decide +kernel
theorem d_9_ifSpeed_1 : decode prog_1_method_20_code 1 = .ok (.iconst 1, 1) := by decide +kernel
theorem d_9_ifSpeed_2 : decode prog_1_method_20_code 2 = .ok (.if_icmp .lt 8, 3) := by decide +kernel
theorem d_9_ifSpeed_5 : decode prog_1_method_20_code 5 = .ok (.iload_n 1, 1) := by decide +kernel
theorem d_9_ifSpeed_6 : decode prog_1_method_20_code 6 = .ok (.iconst 4, 1) := by decide +kernel
theorem d_9_ifSpeed_7 : decode prog_1_method_20_code 7 = .ok (.if_icmp .le 5, 3) := by decide +kernel
theorem d_9_ifSpeed_10 : decode prog_1_method_20_code 10 = .ok (.iconst (-1), 1) := by decide +kernel
theorem d_9_ifSpeed_11 : decode prog_1_method_20_code 11 = .ok (.ireturn, 1) := by decide +kernel
theorem d_9_ifSpeed_12 : decode prog_1_method_20_code 12 = .ok (.aload_n 0, 1) := by decide +kernel
theorem d_9_ifSpeed_13 : decode prog_1_method_20_code 13 = .ok (.iload_n 1, 1) := by decide +kernel
theorem d_9_ifSpeed_14 : decode prog_1_method_20_code 14 = .ok (.invokevirtual 245, 3) := by decide +kernel
theorem d_9_ifSpeed_17 : decode prog_1_method_20_code 17 = .ok (.aload_n 0, 1) := by decide +kernel
theorem d_9_ifSpeed_18 : decode prog_1_method_20_code 18 = .ok (.getfield 46, 3) := by decide +kernel
theorem d_9_ifSpeed_21 : decode prog_1_method_20_code 21 = .ok (.getfield 211, 3) := by decide +kernel
theorem d_9_ifSpeed_24 : decode prog_1_method_20_code 24 = .ok (.getfield 215, 3) := by decide +kernel
theorem d_9_ifSpeed_27 : decode prog_1_method_20_code 27 = .ok (.ireturn, 1) := by decide +kernel
def m_9_ifSpeed (r0 : Nat) (x1 : Int32) (Q : Int32 → St → Prop) (σ : St) : Prop :=
  ((x1 < (1 : Int32) → Q (-1 : Int32) σ) ∧ (¬ x1 < (1 : Int32) → ((x1 ≤ (4 : Int32) → m_9_trySpeed r0 x1 (fun (σ_1 : St) => Q (σ_1.1 ((r0 + 316) + 5) 3) σ_1) σ) ∧ (¬ x1 ≤ (4 : Int32) → Q (-1 : Int32) σ))))
theorem d_9_account_0 : decode prog_1_method_24_code 0 = .ok (.iload_n 1, 1) := by decide +kernel
theorem d_9_account_1 : decode prog_1_method_24_code 1 = .ok (.ifCond .lt 9, 3) := by decide +kernel
theorem d_9_account_4 : decode prog_1_method_24_code 4 = .ok (.iload_n 1, 1) := by decide +kernel
theorem d_9_account_5 : decode prog_1_method_24_code 5 = .ok (.bipush 6, 2) := by decide +kernel
theorem d_9_account_7 : decode prog_1_method_24_code 7 = .ok (.if_icmp .le 5, 3) := by decide +kernel
theorem d_9_account_10 : decode prog_1_method_24_code 10 = .ok (.iconst (-1), 1) := by decide +kernel
theorem d_9_account_11 : decode prog_1_method_24_code 11 = .ok (.ireturn, 1) := by decide +kernel
theorem d_9_account_12 : decode prog_1_method_24_code 12 = .ok (.iload_n 1, 1) := by decide +kernel
theorem d_9_account_13 : decode prog_1_method_24_code 13 = .ok (.bipush 6, 2) := by decide +kernel
theorem d_9_account_15 : decode prog_1_method_24_code 15 = .ok (.if_icmp .ge 15, 3) := by decide +kernel
theorem d_9_account_18 : decode prog_1_method_24_code 18 = .ok (.aload_n 0, 1) := by decide +kernel
theorem d_9_account_19 : decode prog_1_method_24_code 19 = .ok (.getfield 26, 3) := by decide +kernel
theorem d_9_account_22 : decode prog_1_method_24_code 22 = .ok (.getfield 265, 3) := by decide +kernel
theorem d_9_account_25 : decode prog_1_method_24_code 25 = .ok (.iload_n 1, 1) := by decide +kernel
theorem d_9_account_26 : decode prog_1_method_24_code 26 = .ok (.iaload, 1) := by decide +kernel
theorem d_9_account_27 : decode prog_1_method_24_code 27 = .ok (.goto 10, 3) := by decide +kernel
theorem d_9_account_30 : decode prog_1_method_24_code 30 = .ok (.aload_n 0, 1) := by decide +kernel
theorem d_9_account_31 : decode prog_1_method_24_code 31 = .ok (.getfield 26, 3) := by decide +kernel
theorem d_9_account_34 : decode prog_1_method_24_code 34 = .ok (.invokevirtual 221, 3) := by decide +kernel
theorem d_9_account_37 : decode prog_1_method_24_code 37 = .ok (.ireturn, 1) := by decide +kernel
def m_9_account (r0 : Nat) (x1 : Int32) (Q : Int32 → St → Prop) (σ : St) : Prop :=
  ((x1 < 0 → Q (-1 : Int32) σ) ∧ (¬ x1 < 0 → ((x1 ≤ (6 : Int32) → (((6 : Int32) ≤ x1 → m_8_dirtOnStreets (r0 + 7) (fun (v_2 : Int32) (σ_1 : St) => Q v_2 σ_1) σ) ∧ (¬ (6 : Int32) ≤ x1 → vp_in x1 6 ∧ Q (σ.1 ((r0 + 7) + 4) (x1).toNatClampNeg) σ))) ∧ (¬ x1 ≤ (6 : Int32) → Q (-1 : Int32) σ))))
theorem d_9_count_0 : decode prog_1_method_26_code 0 = .ok (.iload_n 1, 1) := by decide +kernel
theorem d_9_count_1 : decode prog_1_method_26_code 1 = .ok (.tableswitch 207 0 14 #[75, 83, 91, 101, 109, 117, 127, 137, 147, 157, 167, 175, 183, 191, 199], 75) := by decide +kernel
theorem d_9_count_76 : decode prog_1_method_26_code 76 = .ok (.aload_n 0, 1) := by decide +kernel
theorem d_9_count_77 : decode prog_1_method_26_code 77 = .ok (.getfield 26, 3) := by decide +kernel
theorem d_9_count_80 : decode prog_1_method_26_code 80 = .ok (.getfield 70, 3) := by decide +kernel
theorem d_9_count_83 : decode prog_1_method_26_code 83 = .ok (.ireturn, 1) := by decide +kernel
theorem d_9_count_84 : decode prog_1_method_26_code 84 = .ok (.aload_n 0, 1) := by decide +kernel
theorem d_9_count_85 : decode prog_1_method_26_code 85 = .ok (.getfield 26, 3) := by decide +kernel
theorem d_9_count_88 : decode prog_1_method_26_code 88 = .ok (.getfield 108, 3) := by decide +kernel
theorem d_9_count_91 : decode prog_1_method_26_code 91 = .ok (.ireturn, 1) := by decide +kernel
theorem d_9_count_92 : decode prog_1_method_26_code 92 = .ok (.aload_n 0, 1) := by decide +kernel
theorem d_9_count_93 : decode prog_1_method_26_code 93 = .ok (.getfield 26, 3) := by decide +kernel
theorem d_9_count_96 : decode prog_1_method_26_code 96 = .ok (.getfield 174, 3) := by decide +kernel
theorem d_9_count_99 : decode prog_1_method_26_code 99 = .ok (.iconst 0, 1) := by decide +kernel
theorem d_9_count_100 : decode prog_1_method_26_code 100 = .ok (.iaload, 1) := by decide +kernel
theorem d_9_count_101 : decode prog_1_method_26_code 101 = .ok (.ireturn, 1) := by decide +kernel
theorem d_9_count_102 : decode prog_1_method_26_code 102 = .ok (.aload_n 0, 1) := by decide +kernel
theorem d_9_count_103 : decode prog_1_method_26_code 103 = .ok (.getfield 26, 3) := by decide +kernel
theorem d_9_count_106 : decode prog_1_method_26_code 106 = .ok (.getfield 274, 3) := by decide +kernel
theorem d_9_count_109 : decode prog_1_method_26_code 109 = .ok (.ireturn, 1) := by decide +kernel
theorem d_9_count_110 : decode prog_1_method_26_code 110 = .ok (.aload_n 0, 1) := by decide +kernel
theorem d_9_count_111 : decode prog_1_method_26_code 111 = .ok (.getfield 26, 3) := by decide +kernel
theorem d_9_count_114 : decode prog_1_method_26_code 114 = .ok (.getfield 277, 3) := by decide +kernel
theorem d_9_count_117 : decode prog_1_method_26_code 117 = .ok (.ireturn, 1) := by decide +kernel
theorem d_9_count_118 : decode prog_1_method_26_code 118 = .ok (.aload_n 0, 1) := by decide +kernel
theorem d_9_count_119 : decode prog_1_method_26_code 119 = .ok (.getfield 26, 3) := by decide +kernel
theorem d_9_count_122 : decode prog_1_method_26_code 122 = .ok (.getfield 174, 3) := by decide +kernel
theorem d_9_count_125 : decode prog_1_method_26_code 125 = .ok (.iconst 1, 1) := by decide +kernel
theorem d_9_count_126 : decode prog_1_method_26_code 126 = .ok (.iaload, 1) := by decide +kernel
theorem d_9_count_127 : decode prog_1_method_26_code 127 = .ok (.ireturn, 1) := by decide +kernel
theorem d_9_count_128 : decode prog_1_method_26_code 128 = .ok (.aload_n 0, 1) := by decide +kernel
theorem d_9_count_129 : decode prog_1_method_26_code 129 = .ok (.getfield 26, 3) := by decide +kernel
theorem d_9_count_132 : decode prog_1_method_26_code 132 = .ok (.getfield 174, 3) := by decide +kernel
theorem d_9_count_135 : decode prog_1_method_26_code 135 = .ok (.iconst 2, 1) := by decide +kernel
theorem d_9_count_136 : decode prog_1_method_26_code 136 = .ok (.iaload, 1) := by decide +kernel
theorem d_9_count_137 : decode prog_1_method_26_code 137 = .ok (.ireturn, 1) := by decide +kernel
theorem d_9_count_138 : decode prog_1_method_26_code 138 = .ok (.aload_n 0, 1) := by decide +kernel
theorem d_9_count_139 : decode prog_1_method_26_code 139 = .ok (.getfield 26, 3) := by decide +kernel
theorem d_9_count_142 : decode prog_1_method_26_code 142 = .ok (.getfield 174, 3) := by decide +kernel
theorem d_9_count_145 : decode prog_1_method_26_code 145 = .ok (.iconst 3, 1) := by decide +kernel
theorem d_9_count_146 : decode prog_1_method_26_code 146 = .ok (.iaload, 1) := by decide +kernel
theorem d_9_count_147 : decode prog_1_method_26_code 147 = .ok (.ireturn, 1) := by decide +kernel
theorem d_9_count_148 : decode prog_1_method_26_code 148 = .ok (.aload_n 0, 1) := by decide +kernel
theorem d_9_count_149 : decode prog_1_method_26_code 149 = .ok (.getfield 26, 3) := by decide +kernel
theorem d_9_count_152 : decode prog_1_method_26_code 152 = .ok (.getfield 174, 3) := by decide +kernel
theorem d_9_count_155 : decode prog_1_method_26_code 155 = .ok (.iconst 4, 1) := by decide +kernel
theorem d_9_count_156 : decode prog_1_method_26_code 156 = .ok (.iaload, 1) := by decide +kernel
theorem d_9_count_157 : decode prog_1_method_26_code 157 = .ok (.ireturn, 1) := by decide +kernel
theorem d_9_count_158 : decode prog_1_method_26_code 158 = .ok (.aload_n 0, 1) := by decide +kernel
theorem d_9_count_159 : decode prog_1_method_26_code 159 = .ok (.getfield 26, 3) := by decide +kernel
theorem d_9_count_162 : decode prog_1_method_26_code 162 = .ok (.getfield 174, 3) := by decide +kernel
theorem d_9_count_165 : decode prog_1_method_26_code 165 = .ok (.iconst 5, 1) := by decide +kernel
theorem d_9_count_166 : decode prog_1_method_26_code 166 = .ok (.iaload, 1) := by decide +kernel
theorem d_9_count_167 : decode prog_1_method_26_code 167 = .ok (.ireturn, 1) := by decide +kernel
theorem d_9_count_168 : decode prog_1_method_26_code 168 = .ok (.aload_n 0, 1) := by decide +kernel
theorem d_9_count_169 : decode prog_1_method_26_code 169 = .ok (.getfield 26, 3) := by decide +kernel
theorem d_9_count_172 : decode prog_1_method_26_code 172 = .ok (.invokevirtual 134, 3) := by decide +kernel
theorem d_9_count_175 : decode prog_1_method_26_code 175 = .ok (.ireturn, 1) := by decide +kernel
theorem d_9_count_176 : decode prog_1_method_26_code 176 = .ok (.aload_n 0, 1) := by decide +kernel
theorem d_9_count_177 : decode prog_1_method_26_code 177 = .ok (.getfield 26, 3) := by decide +kernel
theorem d_9_count_180 : decode prog_1_method_26_code 180 = .ok (.getfield 227, 3) := by decide +kernel
theorem d_9_count_183 : decode prog_1_method_26_code 183 = .ok (.ireturn, 1) := by decide +kernel
theorem d_9_count_184 : decode prog_1_method_26_code 184 = .ok (.aload_n 0, 1) := by decide +kernel
theorem d_9_count_185 : decode prog_1_method_26_code 185 = .ok (.getfield 26, 3) := by decide +kernel
theorem d_9_count_188 : decode prog_1_method_26_code 188 = .ok (.getfield 280, 3) := by decide +kernel
theorem d_9_count_191 : decode prog_1_method_26_code 191 = .ok (.ireturn, 1) := by decide +kernel
theorem d_9_count_192 : decode prog_1_method_26_code 192 = .ok (.aload_n 0, 1) := by decide +kernel
theorem d_9_count_193 : decode prog_1_method_26_code 193 = .ok (.getfield 10, 3) := by decide +kernel
theorem d_9_count_196 : decode prog_1_method_26_code 196 = .ok (.getfield 63, 3) := by decide +kernel
theorem d_9_count_199 : decode prog_1_method_26_code 199 = .ok (.ireturn, 1) := by decide +kernel
theorem d_9_count_200 : decode prog_1_method_26_code 200 = .ok (.aload_n 0, 1) := by decide +kernel
theorem d_9_count_201 : decode prog_1_method_26_code 201 = .ok (.getfield 42, 3) := by decide +kernel
theorem d_9_count_204 : decode prog_1_method_26_code 204 = .ok (.getfield 268, 3) := by decide +kernel
theorem d_9_count_207 : decode prog_1_method_26_code 207 = .ok (.ireturn, 1) := by decide +kernel
theorem d_9_count_208 : decode prog_1_method_26_code 208 = .ok (.iconst (-1), 1) := by decide +kernel
theorem d_9_count_209 : decode prog_1_method_26_code 209 = .ok (.ireturn, 1) := by decide +kernel
def m_9_count (r0 : Nat) (x1 : Int32) (Q : Int32 → St → Prop) (σ : St) : Prop :=
  (((x1.toInt < 0 ∨ 14 < x1.toInt) → Q (-1 : Int32) σ) ∧ (x1 = 0 → Q (σ.1 (r0 + 7) 1) σ) ∧ (x1 = 1 → Q (σ.1 (r0 + 7) 3) σ) ∧ (x1 = 2 → vp_in (0 : Int32) 6 ∧ Q (σ.1 ((r0 + 7) + 3) ((0 : Int32)).toNatClampNeg) σ) ∧ (x1 = 3 → Q (σ.1 (r0 + 7) 6) σ) ∧ (x1 = 4 → Q (σ.1 (r0 + 7) 7) σ) ∧ (x1 = 5 → vp_in (1 : Int32) 6 ∧ Q (σ.1 ((r0 + 7) + 3) ((1 : Int32)).toNatClampNeg) σ) ∧ (x1 = 6 → vp_in (2 : Int32) 6 ∧ Q (σ.1 ((r0 + 7) + 3) ((2 : Int32)).toNatClampNeg) σ) ∧ (x1 = 7 → vp_in (3 : Int32) 6 ∧ Q (σ.1 ((r0 + 7) + 3) ((3 : Int32)).toNatClampNeg) σ) ∧ (x1 = 8 → vp_in (4 : Int32) 6 ∧ Q (σ.1 ((r0 + 7) + 3) ((4 : Int32)).toNatClampNeg) σ) ∧ (x1 = 9 → vp_in (5 : Int32) 6 ∧ Q (σ.1 ((r0 + 7) + 3) ((5 : Int32)).toNatClampNeg) σ) ∧ (x1 = 10 → m_8_grip (r0 + 7) (fun (v_3 : Int32) (σ_2 : St) => Q v_3 σ_2) σ) ∧ (x1 = 11 → Q (σ.1 (r0 + 7) 10) σ) ∧ (x1 = 12 → Q (σ.1 (r0 + 7) 11) σ) ∧ (x1 = 13 → Q (σ.1 (r0 + 1) 1) σ) ∧ (x1 = 14 → Q (σ.1 (r0 + 42) 2) σ))
section MB
variable {p : Program} {l : Launch} {e : Env} {R : Room} {s : State} {m : MethodId} {args : Array Value} {below : List Frame} {meth : Method} {c : Code} {cells slots : Nat} {QW : State → Prop}
variable {D : va_G} {ac : Nat → ClassId} {ad : Nat → Nat} {st : SS} {A : Nat → Prop}
set_option maxHeartbeats 4000000 in
set_option maxRecDepth 100000 in
theorem w_9_rain_0 {r0 : Nat} {x1 : Int32} {Q : Int32 → St → Prop} {σ : St} {H : Heap} {locs : List Loc} {ls : Array Slot} (S : SC A D ac st p m c prog_1_method_18_code 2 s args "SweeperRounds" R cells slots 4 87) (hR : RtI A D ac ad p l e R s m args below meth c prog_1_method_18_code cells slots QW Q) (hk_r0 : kd r0 = 9) (hG : DG A D ac ad s σ H locs) (hl : lv_has ls 2 [(0, .ref (ad r0)), (1, .int x1)]) (hf : m_9_rain r0 x1 Q σ) : W p l e R s m args below meth c H locs cells slots QW (F0 m 0 ls []) := by
  have hx := S.1.1
  have hb := S.1.2.1
  unfold m_9_rain at hf
  refine lv_iload_n hx hb d_9_rain_0 rfl (lv_at hl 1 rfl) ?_
  refine lv_iconst (v := (1 : Int32)) hx hb d_9_rain_1 (by decide) ?_
  refine lv_icmp_lt (tgt := 11) hx hb d_9_rain_2 (by decide) (fun hc => ?_) (fun hc => ?_)
  · have hf := hf.1 hc
    refine lv_iconst (v := (-1 : Int32)) hx hb d_9_rain_11 (by decide) ?_
    exact hR _ _ _ _ _ _ hG hf d_9_rain_12
  · have hf := hf.2 hc
    refine lv_iload_n hx hb d_9_rain_5 rfl (lv_at hl 1 rfl) ?_
    refine lv_bipush (v := (100 : Int32)) hx hb d_9_rain_6 (by decide) ?_
    refine lv_icmp_le (tgt := 13) hx hb d_9_rain_8 (by decide) (fun hc => ?_) (fun hc => ?_)
    · have hf := hf.1 hc
      refine lv_aload_n hx hb d_9_rain_13 rfl (lv_at hl 0 rfl) ?_
      refine gf_9_42 S hG hk_r0 d_9_rain_14 ?_
      refine lv_aload_n hx hb d_9_rain_17 rfl (lv_at hl 0 rfl) ?_
      refine gf_9_26 S hG hk_r0 d_9_rain_18 ?_
      refine iv_9_80 S hl.1 hG (kr_9_4 hk_r0) (c_0_remember l (kr_9_4 hk_r0) (kr_9_2 hk_r0) hf) ⟨Nat.le_of_ble_eq_true rfl, Nat.le_of_ble_eq_true rfl⟩ (Nat.le_of_ble_eq_true rfl) d_9_rain_21 (fun σ_1 hf H locs hG => ?_)
      refine lv_aload_n hx hb d_9_rain_24 rfl (lv_at hl 0 rfl) ?_
      refine gf_9_26 S hG hk_r0 d_9_rain_25 ?_
      refine lv_iload_n hx hb d_9_rain_28 rfl (lv_at hl 1 rfl) ?_
      refine iv_9_224 S hl.1 hG (kr_9_2 hk_r0) (c_8_washStreets l (kr_9_2 hk_r0) hf) ⟨Nat.le_of_ble_eq_true rfl, Nat.le_of_ble_eq_true rfl⟩ (Nat.le_of_ble_eq_true rfl) d_9_rain_29 (fun v_4 σ_3 hf H locs hG => ?_)
      exact hR _ _ _ _ _ _ hG hf d_9_rain_32
    · have hf := hf.2 hc
      refine lv_iconst (v := (-1 : Int32)) hx hb d_9_rain_11 (by decide) ?_
      exact hR _ _ _ _ _ _ hG hf d_9_rain_12
theorem c_9_rain (l : Launch) {D : va_G} {ac : Nat → ClassId} {ad : Nat → Nat} {st : SS} {A : Nat → Prop} {σ : St} {r0 : Nat} {x1 : Int32} {Q : Int32 → St → Prop} (hk_r0 : kd r0 = 9) (hf : m_9_rain r0 x1 Q σ) : Met l y_9_rain (Cond.code y_9_rain prog_1_method_18_code 2 (some .int) :: wA) { frames := 4, cells := 0, slots := 0, locals := 87 } (va_Pc [.ref (ad r0), .int x1] (GSt A D ac ad st σ)) (va_Qi Q (GSt A D ac ad st) A) 0 0 A :=
  mkI l (by decide +kernel) rfl [.ref (ad r0), .int x1] (Nat.le_of_ble_eq_true rfl) (fun p e s m args below meth c ls QW S hR hG hl => w_9_rain_0 S hR hk_r0 hG hl hf)
set_option maxHeartbeats 4000000 in
set_option maxRecDepth 100000 in
theorem w_9_latest_0 {r0 : Nat} {x1 : Int32} {Q : Int32 → St → Prop} {σ : St} {H : Heap} {locs : List Loc} {ls : Array Slot} (S : SC A D ac st p m c prog_1_method_19_code 2 s args "SweeperRounds" R cells slots 0 0) (hR : RtI A D ac ad p l e R s m args below meth c prog_1_method_19_code cells slots QW Q) (hk_r0 : kd r0 = 9) (hG : DG A D ac ad s σ H locs) (hl : lv_has ls 2 [(0, .ref (ad r0)), (1, .int x1)]) (hf : m_9_latest r0 x1 Q σ) : W p l e R s m args below meth c H locs cells slots QW (F0 m 0 ls []) := by
  have hx := S.1.1
  have hb := S.1.2.1
  unfold m_9_latest at hf
  refine lv_iload_n hx hb d_9_latest_0 rfl (lv_at hl 1 rfl) ?_
  refine lv_if_lt (tgt := 9) hx hb d_9_latest_1 (by decide) (fun hc => ?_) (fun hc => ?_)
  · have hf := hf.1 hc
    refine lv_iconst (v := (-1 : Int32)) hx hb d_9_latest_9 (by decide) ?_
    exact hR _ _ _ _ _ _ hG hf d_9_latest_10
  · have hf := hf.2 hc
    refine lv_iload_n hx hb d_9_latest_4 rfl (lv_at hl 1 rfl) ?_
    refine lv_iconst (v := (5 : Int32)) hx hb d_9_latest_5 (by decide) ?_
    refine lv_icmp_le (tgt := 11) hx hb d_9_latest_6 (by decide) (fun hc => ?_) (fun hc => ?_)
    · have hf := hf.1 hc
      refine lv_aload_n hx hb d_9_latest_11 rfl (lv_at hl 0 rfl) ?_
      refine gf_9_26 S hG hk_r0 d_9_latest_12 ?_
      refine gf_9_227 S hG (kr_9_2 hk_r0) d_9_latest_15 ?_
      refine lv_if_ne (tgt := 24) hx hb d_9_latest_18 (by decide) (fun hc => ?_) (fun hc => ?_)
      · have hf := hf.1 hc
        refine lv_iload_n hx hb d_9_latest_24 rfl (lv_at hl 1 rfl) ?_
        refine lv_topi (fun q_1 eq_1 => ?_)
        rcases sw_0_4 q_1 with hq_1 | hq_1 | hq_1 | hq_1 | hq_1 | hq_1
        · rw [eq_1] at hq_1 ⊢
          refine lv_tableOut (tgt := 115) hx hb d_9_latest_25 hq_1 (by decide) ?_
          have hf := hf.1 hq_1
          refine lv_aload_n hx hb d_9_latest_115 rfl (lv_at hl 0 rfl) ?_
          refine gf_9_26 S hG hk_r0 d_9_latest_116 ?_
          refine gf_9_211 S hG (kr_9_2 hk_r0) d_9_latest_119 ?_
          refine gf_9_242 S hG (kr_8_9 (kr_9_2 hk_r0)) d_9_latest_122 ?_
          exact hR _ _ _ _ _ _ hG hf d_9_latest_125
        · subst hq_1
          refine lv_tableIn (off := 35) (tgt := 60) hx hb d_9_latest_25 (by decide) (by decide) (by decide) (by decide) ?_
          have hf := hf.2.1 eq_1.symm
          refine lv_aload_n hx hb d_9_latest_60 rfl (lv_at hl 0 rfl) ?_
          refine gf_9_26 S hG hk_r0 d_9_latest_61 ?_
          refine gf_9_211 S hG (kr_9_2 hk_r0) d_9_latest_64 ?_
          refine gf_9_230 S hG (kr_8_9 (kr_9_2 hk_r0)) d_9_latest_67 ?_
          exact hR _ _ _ _ _ _ hG hf d_9_latest_70
        · subst hq_1
          refine lv_tableIn (off := 46) (tgt := 71) hx hb d_9_latest_25 (by decide) (by decide) (by decide) (by decide) ?_
          have hf := hf.2.2.1 eq_1.symm
          refine lv_aload_n hx hb d_9_latest_71 rfl (lv_at hl 0 rfl) ?_
          refine gf_9_26 S hG hk_r0 d_9_latest_72 ?_
          refine gf_9_211 S hG (kr_9_2 hk_r0) d_9_latest_75 ?_
          refine gf_9_233 S hG (kr_8_9 (kr_9_2 hk_r0)) d_9_latest_78 ?_
          exact hR _ _ _ _ _ _ hG hf d_9_latest_81
        · subst hq_1
          refine lv_tableIn (off := 57) (tgt := 82) hx hb d_9_latest_25 (by decide) (by decide) (by decide) (by decide) ?_
          have hf := hf.2.2.2.1 eq_1.symm
          refine lv_aload_n hx hb d_9_latest_82 rfl (lv_at hl 0 rfl) ?_
          refine gf_9_26 S hG hk_r0 d_9_latest_83 ?_
          refine gf_9_211 S hG (kr_9_2 hk_r0) d_9_latest_86 ?_
          refine gf_9_236 S hG (kr_8_9 (kr_9_2 hk_r0)) d_9_latest_89 ?_
          exact hR _ _ _ _ _ _ hG hf d_9_latest_92
        · subst hq_1
          refine lv_tableIn (off := 68) (tgt := 93) hx hb d_9_latest_25 (by decide) (by decide) (by decide) (by decide) ?_
          have hf := hf.2.2.2.2.1 eq_1.symm
          refine lv_aload_n hx hb d_9_latest_93 rfl (lv_at hl 0 rfl) ?_
          refine gf_9_26 S hG hk_r0 d_9_latest_94 ?_
          refine gf_9_211 S hG (kr_9_2 hk_r0) d_9_latest_97 ?_
          refine gf_9_215 S hG (kr_8_9 (kr_9_2 hk_r0)) d_9_latest_100 ?_
          exact hR _ _ _ _ _ _ hG hf d_9_latest_103
        · subst hq_1
          refine lv_tableIn (off := 79) (tgt := 104) hx hb d_9_latest_25 (by decide) (by decide) (by decide) (by decide) ?_
          have hf := hf.2.2.2.2.2 eq_1.symm
          refine lv_aload_n hx hb d_9_latest_104 rfl (lv_at hl 0 rfl) ?_
          refine gf_9_26 S hG hk_r0 d_9_latest_105 ?_
          refine gf_9_211 S hG (kr_9_2 hk_r0) d_9_latest_108 ?_
          refine gf_9_239 S hG (kr_8_9 (kr_9_2 hk_r0)) d_9_latest_111 ?_
          exact hR _ _ _ _ _ _ hG hf d_9_latest_114
      · have hf := hf.2 hc
        refine lv_bipush (v := (-9 : Int32)) hx hb d_9_latest_21 (by decide) ?_
        exact hR _ _ _ _ _ _ hG hf d_9_latest_23
    · have hf := hf.2 hc
      refine lv_iconst (v := (-1 : Int32)) hx hb d_9_latest_9 (by decide) ?_
      exact hR _ _ _ _ _ _ hG hf d_9_latest_10
theorem c_9_latest (l : Launch) {D : va_G} {ac : Nat → ClassId} {ad : Nat → Nat} {st : SS} {A : Nat → Prop} {σ : St} {r0 : Nat} {x1 : Int32} {Q : Int32 → St → Prop} (hk_r0 : kd r0 = 9) (hf : m_9_latest r0 x1 Q σ) : Met l y_9_latest (Cond.code y_9_latest prog_1_method_19_code 2 (some .int) :: wA) { frames := 0, cells := 0, slots := 0, locals := 0 } (va_Pc [.ref (ad r0), .int x1] (GSt A D ac ad st σ)) (va_Qi Q (GSt A D ac ad st) A) 0 0 A :=
  mkI l (by decide +kernel) rfl [.ref (ad r0), .int x1] (Nat.le_of_ble_eq_true rfl) (fun p e s m args below meth c ls QW S hR hG hl => w_9_latest_0 S hR hk_r0 hG hl hf)
set_option maxHeartbeats 4000000 in
set_option maxRecDepth 100000 in
theorem w_9_trySpeed_0 {r0 : Nat} {x1 : Int32} {Q : St → Prop} {σ : St} {H : Heap} {locs : List Loc} {ls : Array Slot} (S : SC A D ac st p m c prog_1_method_30_code 2 s args "SweeperRounds" R cells slots 4 100) (hR : RtV A D ac ad p l e R s m args below meth c prog_1_method_30_code cells slots QW Q) (hk_r0 : kd r0 = 9) (hG : DG A D ac ad s σ H locs) (hl : lv_has ls 2 [(0, .ref (ad r0)), (1, .int x1)]) (hf : m_9_trySpeed r0 x1 Q σ) : W p l e R s m args below meth c H locs cells slots QW (F0 m 0 ls []) := by
  have hx := S.1.1
  have hb := S.1.2.1
  unfold m_9_trySpeed at hf
  refine lv_aload_n hx hb d_9_trySpeed_0 rfl (lv_at hl 0 rfl) ?_
  refine gf_9_46 S hG hk_r0 d_9_trySpeed_1 ?_
  refine lv_aload_n hx hb d_9_trySpeed_4 rfl (lv_at hl 0 rfl) ?_
  refine gf_9_26 S hG hk_r0 d_9_trySpeed_5 ?_
  refine iv_9_317 S hl.1 hG (kr_9_5 hk_r0) (c_8_copyFrom l (kr_9_5 hk_r0) (kr_9_2 hk_r0) hf) ⟨Nat.le_of_ble_eq_true rfl, Nat.le_of_ble_eq_true rfl⟩ (Nat.le_of_ble_eq_true rfl) d_9_trySpeed_8 (fun σ_1 hf H locs hG => ?_)
  refine lv_aload_n hx hb d_9_trySpeed_11 rfl (lv_at hl 0 rfl) ?_
  refine gf_9_46 S hG hk_r0 d_9_trySpeed_12 ?_
  refine gf_9_174 S hG (kr_9_5 hk_r0) d_9_trySpeed_15 ?_
  refine lv_iconst (v := (0 : Int32)) hx hb d_9_trySpeed_18 (by decide) ?_
  refine lv_iload_n hx hb d_9_trySpeed_19 rfl (lv_at hl 1 rfl) ?_
  refine mis S hG 26 rfl rfl (kr_8_5 (kr_9_5 hk_r0)) hf.1 d_9_trySpeed_20 (fun σ_3 eσ_3 H locs hG => ?_)
  have hf := hf.2 σ_3 eσ_3
  refine lv_aload_n hx hb d_9_trySpeed_21 rfl (lv_at hl 0 rfl) ?_
  refine gf_9_49 S hG hk_r0 d_9_trySpeed_22 ?_
  refine iv_9_208 S hl.1 hG (kr_9_6 hk_r0) (c_5_carryOut l (kr_9_6 hk_r0) hf) ⟨Nat.le_of_ble_eq_true rfl, Nat.le_of_ble_eq_true rfl⟩ (Nat.le_of_ble_eq_true rfl) d_9_trySpeed_25 (fun σ_4 hf H locs hG => ?_)
  exact hR _ _ _ _ _ hG hf d_9_trySpeed_28
theorem c_9_trySpeed (l : Launch) {D : va_G} {ac : Nat → ClassId} {ad : Nat → Nat} {st : SS} {A : Nat → Prop} {σ : St} {r0 : Nat} {x1 : Int32} {Q : St → Prop} (hk_r0 : kd r0 = 9) (hf : m_9_trySpeed r0 x1 Q σ) : Met l y_9_trySpeed (Cond.code y_9_trySpeed prog_1_method_30_code 2 none :: wA) { frames := 4, cells := 0, slots := 0, locals := 100 } (va_Pc [.ref (ad r0), .int x1] (GSt A D ac ad st σ)) (va_Qv Q (GSt A D ac ad st) A) 0 0 A :=
  mkV l (by decide +kernel) rfl [.ref (ad r0), .int x1] (Nat.le_of_ble_eq_true rfl) (fun p e s m args below meth c ls QW S hR hG hl => w_9_trySpeed_0 S hR hk_r0 hG hl hf)
set_option maxHeartbeats 4000000 in
set_option maxRecDepth 100000 in
theorem w_9_ifSpeed_0 {r0 : Nat} {x1 : Int32} {Q : Int32 → St → Prop} {σ : St} {H : Heap} {locs : List Loc} {ls : Array Slot} (S : SC A D ac st p m c prog_1_method_20_code 2 s args "SweeperRounds" R cells slots 5 121) (hR : RtI A D ac ad p l e R s m args below meth c prog_1_method_20_code cells slots QW Q) (hk_r0 : kd r0 = 9) (hG : DG A D ac ad s σ H locs) (hl : lv_has ls 2 [(0, .ref (ad r0)), (1, .int x1)]) (hf : m_9_ifSpeed r0 x1 Q σ) : W p l e R s m args below meth c H locs cells slots QW (F0 m 0 ls []) := by
  have hx := S.1.1
  have hb := S.1.2.1
  unfold m_9_ifSpeed at hf
  refine lv_iload_n hx hb d_9_ifSpeed_0 rfl (lv_at hl 1 rfl) ?_
  refine lv_iconst (v := (1 : Int32)) hx hb d_9_ifSpeed_1 (by decide) ?_
  refine lv_icmp_lt (tgt := 10) hx hb d_9_ifSpeed_2 (by decide) (fun hc => ?_) (fun hc => ?_)
  · have hf := hf.1 hc
    refine lv_iconst (v := (-1 : Int32)) hx hb d_9_ifSpeed_10 (by decide) ?_
    exact hR _ _ _ _ _ _ hG hf d_9_ifSpeed_11
  · have hf := hf.2 hc
    refine lv_iload_n hx hb d_9_ifSpeed_5 rfl (lv_at hl 1 rfl) ?_
    refine lv_iconst (v := (4 : Int32)) hx hb d_9_ifSpeed_6 (by decide) ?_
    refine lv_icmp_le (tgt := 12) hx hb d_9_ifSpeed_7 (by decide) (fun hc => ?_) (fun hc => ?_)
    · have hf := hf.1 hc
      refine lv_aload_n hx hb d_9_ifSpeed_12 rfl (lv_at hl 0 rfl) ?_
      refine lv_iload_n hx hb d_9_ifSpeed_13 rfl (lv_at hl 1 rfl) ?_
      refine iv_9_245 S hl.1 hG hk_r0 (c_9_trySpeed l hk_r0 hf) ⟨Nat.le_of_ble_eq_true rfl, Nat.le_of_ble_eq_true rfl⟩ (Nat.le_of_ble_eq_true rfl) d_9_ifSpeed_14 (fun σ_1 hf H locs hG => ?_)
      refine lv_aload_n hx hb d_9_ifSpeed_17 rfl (lv_at hl 0 rfl) ?_
      refine gf_9_46 S hG hk_r0 d_9_ifSpeed_18 ?_
      refine gf_9_211 S hG (kr_9_5 hk_r0) d_9_ifSpeed_21 ?_
      refine gf_9_215 S hG (kr_8_9 (kr_9_5 hk_r0)) d_9_ifSpeed_24 ?_
      exact hR _ _ _ _ _ _ hG hf d_9_ifSpeed_27
    · have hf := hf.2 hc
      refine lv_iconst (v := (-1 : Int32)) hx hb d_9_ifSpeed_10 (by decide) ?_
      exact hR _ _ _ _ _ _ hG hf d_9_ifSpeed_11
theorem c_9_ifSpeed (l : Launch) {D : va_G} {ac : Nat → ClassId} {ad : Nat → Nat} {st : SS} {A : Nat → Prop} {σ : St} {r0 : Nat} {x1 : Int32} {Q : Int32 → St → Prop} (hk_r0 : kd r0 = 9) (hf : m_9_ifSpeed r0 x1 Q σ) : Met l y_9_ifSpeed (Cond.code y_9_ifSpeed prog_1_method_20_code 2 (some .int) :: wA) { frames := 5, cells := 0, slots := 0, locals := 121 } (va_Pc [.ref (ad r0), .int x1] (GSt A D ac ad st σ)) (va_Qi Q (GSt A D ac ad st) A) 0 0 A :=
  mkI l (by decide +kernel) rfl [.ref (ad r0), .int x1] (Nat.le_of_ble_eq_true rfl) (fun p e s m args below meth c ls QW S hR hG hl => w_9_ifSpeed_0 S hR hk_r0 hG hl hf)
set_option maxHeartbeats 4000000 in
set_option maxRecDepth 100000 in
theorem w_9_account_0 {r0 : Nat} {x1 : Int32} {Q : Int32 → St → Prop} {σ : St} {H : Heap} {locs : List Loc} {ls : Array Slot} (S : SC A D ac st p m c prog_1_method_24_code 2 s args "SweeperRounds" R cells slots 4 86) (hR : RtI A D ac ad p l e R s m args below meth c prog_1_method_24_code cells slots QW Q) (hk_r0 : kd r0 = 9) (hG : DG A D ac ad s σ H locs) (hl : lv_has ls 2 [(0, .ref (ad r0)), (1, .int x1)]) (hf : m_9_account r0 x1 Q σ) : W p l e R s m args below meth c H locs cells slots QW (F0 m 0 ls []) := by
  have hx := S.1.1
  have hb := S.1.2.1
  unfold m_9_account at hf
  refine lv_iload_n hx hb d_9_account_0 rfl (lv_at hl 1 rfl) ?_
  refine lv_if_lt (tgt := 10) hx hb d_9_account_1 (by decide) (fun hc => ?_) (fun hc => ?_)
  · have hf := hf.1 hc
    refine lv_iconst (v := (-1 : Int32)) hx hb d_9_account_10 (by decide) ?_
    exact hR _ _ _ _ _ _ hG hf d_9_account_11
  · have hf := hf.2 hc
    refine lv_iload_n hx hb d_9_account_4 rfl (lv_at hl 1 rfl) ?_
    refine lv_bipush (v := (6 : Int32)) hx hb d_9_account_5 (by decide) ?_
    refine lv_icmp_le (tgt := 12) hx hb d_9_account_7 (by decide) (fun hc => ?_) (fun hc => ?_)
    · have hf := hf.1 hc
      refine lv_iload_n hx hb d_9_account_12 rfl (lv_at hl 1 rfl) ?_
      refine lv_bipush (v := (6 : Int32)) hx hb d_9_account_13 (by decide) ?_
      refine lv_icmp_ge (tgt := 30) hx hb d_9_account_15 (by decide) (fun hc => ?_) (fun hc => ?_)
      · have hf := hf.1 hc
        refine lv_aload_n hx hb d_9_account_30 rfl (lv_at hl 0 rfl) ?_
        refine gf_9_26 S hG hk_r0 d_9_account_31 ?_
        refine iv_9_221 S hl.1 hG (kr_9_2 hk_r0) (c_8_dirtOnStreets l (kr_9_2 hk_r0) hf) ⟨Nat.le_of_ble_eq_true rfl, Nat.le_of_ble_eq_true rfl⟩ (Nat.le_of_ble_eq_true rfl) d_9_account_34 (fun v_2 σ_1 hf H locs hG => ?_)
        exact hR _ _ _ _ _ _ hG hf d_9_account_37
      · have hf := hf.2 hc
        refine lv_aload_n hx hb d_9_account_18 rfl (lv_at hl 0 rfl) ?_
        refine gf_9_26 S hG hk_r0 d_9_account_19 ?_
        refine gf_9_265 S hG (kr_9_2 hk_r0) d_9_account_22 ?_
        refine lv_iload_n hx hb d_9_account_25 rfl (lv_at hl 1 rfl) ?_
        refine mia S hG 27 rfl rfl (kr_8_8 (kr_9_2 hk_r0)) hf.1 d_9_account_26 ?_
        have hf := hf.2
        refine lv_goto (tgt := 37) hx hb d_9_account_27 (by decide) ?_
        exact hR _ _ _ _ _ _ hG hf d_9_account_37
    · have hf := hf.2 hc
      refine lv_iconst (v := (-1 : Int32)) hx hb d_9_account_10 (by decide) ?_
      exact hR _ _ _ _ _ _ hG hf d_9_account_11
theorem c_9_account (l : Launch) {D : va_G} {ac : Nat → ClassId} {ad : Nat → Nat} {st : SS} {A : Nat → Prop} {σ : St} {r0 : Nat} {x1 : Int32} {Q : Int32 → St → Prop} (hk_r0 : kd r0 = 9) (hf : m_9_account r0 x1 Q σ) : Met l y_9_account (Cond.code y_9_account prog_1_method_24_code 2 (some .int) :: wA) { frames := 4, cells := 0, slots := 0, locals := 86 } (va_Pc [.ref (ad r0), .int x1] (GSt A D ac ad st σ)) (va_Qi Q (GSt A D ac ad st) A) 0 0 A :=
  mkI l (by decide +kernel) rfl [.ref (ad r0), .int x1] (Nat.le_of_ble_eq_true rfl) (fun p e s m args below meth c ls QW S hR hG hl => w_9_account_0 S hR hk_r0 hG hl hf)
set_option maxHeartbeats 4000000 in
set_option maxRecDepth 100000 in
theorem w_9_count_0 {r0 : Nat} {x1 : Int32} {Q : Int32 → St → Prop} {σ : St} {H : Heap} {locs : List Loc} {ls : Array Slot} (S : SC A D ac st p m c prog_1_method_26_code 2 s args "SweeperRounds" R cells slots 1 20) (hR : RtI A D ac ad p l e R s m args below meth c prog_1_method_26_code cells slots QW Q) (hk_r0 : kd r0 = 9) (hG : DG A D ac ad s σ H locs) (hl : lv_has ls 2 [(0, .ref (ad r0)), (1, .int x1)]) (hf : m_9_count r0 x1 Q σ) : W p l e R s m args below meth c H locs cells slots QW (F0 m 0 ls []) := by
  have hx := S.1.1
  have hb := S.1.2.1
  unfold m_9_count at hf
  refine lv_iload_n hx hb d_9_count_0 rfl (lv_at hl 1 rfl) ?_
  refine lv_topi (fun q_1 eq_1 => ?_)
  rcases sw_0_14 q_1 with hq_1 | hq_1 | hq_1 | hq_1 | hq_1 | hq_1 | hq_1 | hq_1 | hq_1 | hq_1 | hq_1 | hq_1 | hq_1 | hq_1 | hq_1 | hq_1
  · rw [eq_1] at hq_1 ⊢
    refine lv_tableOut (tgt := 208) hx hb d_9_count_1 hq_1 (by decide) ?_
    have hf := hf.1 hq_1
    refine lv_iconst (v := (-1 : Int32)) hx hb d_9_count_208 (by decide) ?_
    exact hR _ _ _ _ _ _ hG hf d_9_count_209
  · subst hq_1
    refine lv_tableIn (off := 75) (tgt := 76) hx hb d_9_count_1 (by decide) (by decide) (by decide) (by decide) ?_
    have hf := hf.2.1 eq_1.symm
    refine lv_aload_n hx hb d_9_count_76 rfl (lv_at hl 0 rfl) ?_
    refine gf_9_26 S hG hk_r0 d_9_count_77 ?_
    refine gf_9_70 S hG (kr_9_2 hk_r0) d_9_count_80 ?_
    exact hR _ _ _ _ _ _ hG hf d_9_count_83
  · subst hq_1
    refine lv_tableIn (off := 83) (tgt := 84) hx hb d_9_count_1 (by decide) (by decide) (by decide) (by decide) ?_
    have hf := hf.2.2.1 eq_1.symm
    refine lv_aload_n hx hb d_9_count_84 rfl (lv_at hl 0 rfl) ?_
    refine gf_9_26 S hG hk_r0 d_9_count_85 ?_
    refine gf_9_108 S hG (kr_9_2 hk_r0) d_9_count_88 ?_
    exact hR _ _ _ _ _ _ hG hf d_9_count_91
  · subst hq_1
    refine lv_tableIn (off := 91) (tgt := 92) hx hb d_9_count_1 (by decide) (by decide) (by decide) (by decide) ?_
    have hf := hf.2.2.2.1 eq_1.symm
    refine lv_aload_n hx hb d_9_count_92 rfl (lv_at hl 0 rfl) ?_
    refine gf_9_26 S hG hk_r0 d_9_count_93 ?_
    refine gf_9_174 S hG (kr_9_2 hk_r0) d_9_count_96 ?_
    refine lv_iconst (v := (0 : Int32)) hx hb d_9_count_99 (by decide) ?_
    refine mia S hG 26 rfl rfl (kr_8_5 (kr_9_2 hk_r0)) hf.1 d_9_count_100 ?_
    have hf := hf.2
    exact hR _ _ _ _ _ _ hG hf d_9_count_101
  · subst hq_1
    refine lv_tableIn (off := 101) (tgt := 102) hx hb d_9_count_1 (by decide) (by decide) (by decide) (by decide) ?_
    have hf := hf.2.2.2.2.1 eq_1.symm
    refine lv_aload_n hx hb d_9_count_102 rfl (lv_at hl 0 rfl) ?_
    refine gf_9_26 S hG hk_r0 d_9_count_103 ?_
    refine gf_9_274 S hG (kr_9_2 hk_r0) d_9_count_106 ?_
    exact hR _ _ _ _ _ _ hG hf d_9_count_109
  · subst hq_1
    refine lv_tableIn (off := 109) (tgt := 110) hx hb d_9_count_1 (by decide) (by decide) (by decide) (by decide) ?_
    have hf := hf.2.2.2.2.2.1 eq_1.symm
    refine lv_aload_n hx hb d_9_count_110 rfl (lv_at hl 0 rfl) ?_
    refine gf_9_26 S hG hk_r0 d_9_count_111 ?_
    refine gf_9_277 S hG (kr_9_2 hk_r0) d_9_count_114 ?_
    exact hR _ _ _ _ _ _ hG hf d_9_count_117
  · subst hq_1
    refine lv_tableIn (off := 117) (tgt := 118) hx hb d_9_count_1 (by decide) (by decide) (by decide) (by decide) ?_
    have hf := hf.2.2.2.2.2.2.1 eq_1.symm
    refine lv_aload_n hx hb d_9_count_118 rfl (lv_at hl 0 rfl) ?_
    refine gf_9_26 S hG hk_r0 d_9_count_119 ?_
    refine gf_9_174 S hG (kr_9_2 hk_r0) d_9_count_122 ?_
    refine lv_iconst (v := (1 : Int32)) hx hb d_9_count_125 (by decide) ?_
    refine mia S hG 26 rfl rfl (kr_8_5 (kr_9_2 hk_r0)) hf.1 d_9_count_126 ?_
    have hf := hf.2
    exact hR _ _ _ _ _ _ hG hf d_9_count_127
  · subst hq_1
    refine lv_tableIn (off := 127) (tgt := 128) hx hb d_9_count_1 (by decide) (by decide) (by decide) (by decide) ?_
    have hf := hf.2.2.2.2.2.2.2.1 eq_1.symm
    refine lv_aload_n hx hb d_9_count_128 rfl (lv_at hl 0 rfl) ?_
    refine gf_9_26 S hG hk_r0 d_9_count_129 ?_
    refine gf_9_174 S hG (kr_9_2 hk_r0) d_9_count_132 ?_
    refine lv_iconst (v := (2 : Int32)) hx hb d_9_count_135 (by decide) ?_
    refine mia S hG 26 rfl rfl (kr_8_5 (kr_9_2 hk_r0)) hf.1 d_9_count_136 ?_
    have hf := hf.2
    exact hR _ _ _ _ _ _ hG hf d_9_count_137
  · subst hq_1
    refine lv_tableIn (off := 137) (tgt := 138) hx hb d_9_count_1 (by decide) (by decide) (by decide) (by decide) ?_
    have hf := hf.2.2.2.2.2.2.2.2.1 eq_1.symm
    refine lv_aload_n hx hb d_9_count_138 rfl (lv_at hl 0 rfl) ?_
    refine gf_9_26 S hG hk_r0 d_9_count_139 ?_
    refine gf_9_174 S hG (kr_9_2 hk_r0) d_9_count_142 ?_
    refine lv_iconst (v := (3 : Int32)) hx hb d_9_count_145 (by decide) ?_
    refine mia S hG 26 rfl rfl (kr_8_5 (kr_9_2 hk_r0)) hf.1 d_9_count_146 ?_
    have hf := hf.2
    exact hR _ _ _ _ _ _ hG hf d_9_count_147
  · subst hq_1
    refine lv_tableIn (off := 147) (tgt := 148) hx hb d_9_count_1 (by decide) (by decide) (by decide) (by decide) ?_
    have hf := hf.2.2.2.2.2.2.2.2.2.1 eq_1.symm
    refine lv_aload_n hx hb d_9_count_148 rfl (lv_at hl 0 rfl) ?_
    refine gf_9_26 S hG hk_r0 d_9_count_149 ?_
    refine gf_9_174 S hG (kr_9_2 hk_r0) d_9_count_152 ?_
    refine lv_iconst (v := (4 : Int32)) hx hb d_9_count_155 (by decide) ?_
    refine mia S hG 26 rfl rfl (kr_8_5 (kr_9_2 hk_r0)) hf.1 d_9_count_156 ?_
    have hf := hf.2
    exact hR _ _ _ _ _ _ hG hf d_9_count_157
  · subst hq_1
    refine lv_tableIn (off := 157) (tgt := 158) hx hb d_9_count_1 (by decide) (by decide) (by decide) (by decide) ?_
    have hf := hf.2.2.2.2.2.2.2.2.2.2.1 eq_1.symm
    refine lv_aload_n hx hb d_9_count_158 rfl (lv_at hl 0 rfl) ?_
    refine gf_9_26 S hG hk_r0 d_9_count_159 ?_
    refine gf_9_174 S hG (kr_9_2 hk_r0) d_9_count_162 ?_
    refine lv_iconst (v := (5 : Int32)) hx hb d_9_count_165 (by decide) ?_
    refine mia S hG 26 rfl rfl (kr_8_5 (kr_9_2 hk_r0)) hf.1 d_9_count_166 ?_
    have hf := hf.2
    exact hR _ _ _ _ _ _ hG hf d_9_count_167
  · subst hq_1
    refine lv_tableIn (off := 167) (tgt := 168) hx hb d_9_count_1 (by decide) (by decide) (by decide) (by decide) ?_
    have hf := hf.2.2.2.2.2.2.2.2.2.2.2.1 eq_1.symm
    refine lv_aload_n hx hb d_9_count_168 rfl (lv_at hl 0 rfl) ?_
    refine gf_9_26 S hG hk_r0 d_9_count_169 ?_
    refine iv_9_134 S hl.1 hG (kr_9_2 hk_r0) (c_8_grip l (kr_9_2 hk_r0) hf) ⟨Nat.le_of_ble_eq_true rfl, Nat.le_of_ble_eq_true rfl⟩ (Nat.le_of_ble_eq_true rfl) d_9_count_172 (fun v_3 σ_2 hf H locs hG => ?_)
    exact hR _ _ _ _ _ _ hG hf d_9_count_175
  · subst hq_1
    refine lv_tableIn (off := 175) (tgt := 176) hx hb d_9_count_1 (by decide) (by decide) (by decide) (by decide) ?_
    have hf := hf.2.2.2.2.2.2.2.2.2.2.2.2.1 eq_1.symm
    refine lv_aload_n hx hb d_9_count_176 rfl (lv_at hl 0 rfl) ?_
    refine gf_9_26 S hG hk_r0 d_9_count_177 ?_
    refine gf_9_227 S hG (kr_9_2 hk_r0) d_9_count_180 ?_
    exact hR _ _ _ _ _ _ hG hf d_9_count_183
  · subst hq_1
    refine lv_tableIn (off := 183) (tgt := 184) hx hb d_9_count_1 (by decide) (by decide) (by decide) (by decide) ?_
    have hf := hf.2.2.2.2.2.2.2.2.2.2.2.2.2.1 eq_1.symm
    refine lv_aload_n hx hb d_9_count_184 rfl (lv_at hl 0 rfl) ?_
    refine gf_9_26 S hG hk_r0 d_9_count_185 ?_
    refine gf_9_280 S hG (kr_9_2 hk_r0) d_9_count_188 ?_
    exact hR _ _ _ _ _ _ hG hf d_9_count_191
  · subst hq_1
    refine lv_tableIn (off := 191) (tgt := 192) hx hb d_9_count_1 (by decide) (by decide) (by decide) (by decide) ?_
    have hf := hf.2.2.2.2.2.2.2.2.2.2.2.2.2.2.1 eq_1.symm
    refine lv_aload_n hx hb d_9_count_192 rfl (lv_at hl 0 rfl) ?_
    refine gf_9_10 S hG hk_r0 d_9_count_193 ?_
    refine gf_9_63 S hG (kr_9_0 hk_r0) d_9_count_196 ?_
    exact hR _ _ _ _ _ _ hG hf d_9_count_199
  · subst hq_1
    refine lv_tableIn (off := 199) (tgt := 200) hx hb d_9_count_1 (by decide) (by decide) (by decide) (by decide) ?_
    have hf := hf.2.2.2.2.2.2.2.2.2.2.2.2.2.2.2 eq_1.symm
    refine lv_aload_n hx hb d_9_count_200 rfl (lv_at hl 0 rfl) ?_
    refine gf_9_42 S hG hk_r0 d_9_count_201 ?_
    refine gf_9_268 S hG (kr_9_4 hk_r0) d_9_count_204 ?_
    exact hR _ _ _ _ _ _ hG hf d_9_count_207
theorem c_9_count (l : Launch) {D : va_G} {ac : Nat → ClassId} {ad : Nat → Nat} {st : SS} {A : Nat → Prop} {σ : St} {r0 : Nat} {x1 : Int32} {Q : Int32 → St → Prop} (hk_r0 : kd r0 = 9) (hf : m_9_count r0 x1 Q σ) : Met l y_9_count (Cond.code y_9_count prog_1_method_26_code 2 (some .int) :: wA) { frames := 1, cells := 0, slots := 0, locals := 20 } (va_Pc [.ref (ad r0), .int x1] (GSt A D ac ad st σ)) (va_Qi Q (GSt A D ac ad st) A) 0 0 A :=
  mkI l (by decide +kernel) rfl [.ref (ad r0), .int x1] (Nat.le_of_ble_eq_true rfl) (fun p e s m args below meth c ls QW S hR hG hl => w_9_count_0 S hR hk_r0 hG hl hf)
end MB
