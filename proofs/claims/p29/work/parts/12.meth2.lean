theorem d_8_emptyHopper_0 : decode prog_10_method_18_code 0 = .ok (.aload_n 0, 1) := by decide +kernel
theorem d_8_emptyHopper_1 : decode prog_10_method_18_code 1 = .ok (.getfield 27, 3) := by decide +kernel
theorem d_8_emptyHopper_4 : decode prog_10_method_18_code 4 = .ok (.iconst 5, 1) := by decide +kernel
theorem d_8_emptyHopper_5 : decode prog_10_method_18_code 5 = .ok (.dup2, 1) := by decide +kernel
theorem d_8_emptyHopper_6 : decode prog_10_method_18_code 6 = .ok (.iaload, 1) := by decide +kernel
theorem d_8_emptyHopper_7 : decode prog_10_method_18_code 7 = .ok (.aload_n 0, 1) := by decide +kernel
theorem d_8_emptyHopper_8 : decode prog_10_method_18_code 8 = .ok (.getfield 69, 3) := by decide +kernel
theorem d_8_emptyHopper_11 : decode prog_10_method_18_code 11 = .ok (.iadd, 1) := by decide +kernel
theorem d_8_emptyHopper_12 : decode prog_10_method_18_code 12 = .ok (.iastore, 1) := by decide +kernel
theorem d_8_emptyHopper_13 : decode prog_10_method_18_code 13 = .ok (.aload_n 0, 1) := by decide +kernel
theorem d_8_emptyHopper_14 : decode prog_10_method_18_code 14 = .ok (.iconst 0, 1) := by decide +kernel
theorem d_8_emptyHopper_15 : decode prog_10_method_18_code 15 = .ok (.putfield 69, 3) := by decide +kernel
theorem d_8_emptyHopper_18 : decode prog_10_method_18_code 18 = .ok (.return_, 1) := by decide +kernel
def m_8_emptyHopper (r0 : Nat) (Q : St → Prop) (σ : St) : Prop :=
  vp_in (5 : Int32) 6 ∧ vp_in (5 : Int32) 6 ∧ ∀ σ_1 : St, σ_1 = wr σ (r0 + 4) ((5 : Int32)).toNatClampNeg ((σ.1 (r0 + 4) ((5 : Int32)).toNatClampNeg) + (σ.1 r0 7)) → ∀ σ_2 : St, σ_2 = wr σ_1 r0 7 (0 : Int32) → Q σ_2
theorem d_5_finishCell_0 : decode prog_7_method_6_code 0 = .ok (.aload_n 0, 1) := by decide +kernel
theorem d_5_finishCell_1 : decode prog_7_method_6_code 1 = .ok (.invokevirtual 108, 3) := by decide +kernel
theorem d_5_finishCell_4 : decode prog_7_method_6_code 4 = .ok (.istore 4, 2) := by decide +kernel
theorem d_5_finishCell_6 : decode prog_7_method_6_code 6 = .ok (.iconst 2, 1) := by decide +kernel
theorem d_5_finishCell_7 : decode prog_7_method_6_code 7 = .ok (.aload_n 2, 1) := by decide +kernel
theorem d_5_finishCell_8 : decode prog_7_method_6_code 8 = .ok (.invokevirtual 100, 3) := by decide +kernel
theorem d_5_finishCell_11 : decode prog_7_method_6_code 11 = .ok (.imul, 1) := by decide +kernel
theorem d_5_finishCell_12 : decode prog_7_method_6_code 12 = .ok (.bipush 100, 2) := by decide +kernel
theorem d_5_finishCell_14 : decode prog_7_method_6_code 14 = .ok (.iadd, 1) := by decide +kernel
theorem d_5_finishCell_15 : decode prog_7_method_6_code 15 = .ok (.istore 5, 2) := by decide +kernel
theorem d_5_finishCell_17 : decode prog_7_method_6_code 17 = .ok (.iconst 0, 1) := by decide +kernel
theorem d_5_finishCell_18 : decode prog_7_method_6_code 18 = .ok (.istore 6, 2) := by decide +kernel
theorem d_5_finishCell_20 : decode prog_7_method_6_code 20 = .ok (.iload 6, 2) := by decide +kernel
theorem d_5_finishCell_22 : decode prog_7_method_6_code 22 = .ok (.ldc 111, 2) := by decide +kernel
theorem d_5_finishCell_24 : decode prog_7_method_6_code 24 = .ok (.if_icmp .ge 133, 3) := by decide +kernel
theorem d_5_finishCell_27 : decode prog_7_method_6_code 27 = .ok (.aload_n 0, 1) := by decide +kernel
theorem d_5_finishCell_28 : decode prog_7_method_6_code 28 = .ok (.iload 4, 2) := by decide +kernel
theorem d_5_finishCell_30 : decode prog_7_method_6_code 30 = .ok (.aload_n 2, 1) := by decide +kernel
theorem d_5_finishCell_31 : decode prog_7_method_6_code 31 = .ok (.invokevirtual 85, 3) := by decide +kernel
theorem d_5_finishCell_34 : decode prog_7_method_6_code 34 = .ok (.ifCond .ne 5, 3) := by decide +kernel
theorem d_5_finishCell_37 : decode prog_7_method_6_code 37 = .ok (.iconst 2, 1) := by decide +kernel
theorem d_5_finishCell_38 : decode prog_7_method_6_code 38 = .ok (.ireturn, 1) := by decide +kernel
theorem d_5_finishCell_39 : decode prog_7_method_6_code 39 = .ok (.aload_n 0, 1) := by decide +kernel
theorem d_5_finishCell_40 : decode prog_7_method_6_code 40 = .ok (.getfield 9, 3) := by decide +kernel
theorem d_5_finishCell_43 : decode prog_7_method_6_code 43 = .ok (.getfield 15, 3) := by decide +kernel
theorem d_5_finishCell_46 : decode prog_7_method_6_code 46 = .ok (.dup, 1) := by decide +kernel
theorem d_5_finishCell_47 : decode prog_7_method_6_code 47 = .ok (.getfield 89, 3) := by decide +kernel
theorem d_5_finishCell_50 : decode prog_7_method_6_code 50 = .ok (.iload 4, 2) := by decide +kernel
theorem d_5_finishCell_52 : decode prog_7_method_6_code 52 = .ok (.iadd, 1) := by decide +kernel
theorem d_5_finishCell_53 : decode prog_7_method_6_code 53 = .ok (.putfield 89, 3) := by decide +kernel
theorem d_5_finishCell_56 : decode prog_7_method_6_code 56 = .ok (.aload_n 0, 1) := by decide +kernel
theorem d_5_finishCell_57 : decode prog_7_method_6_code 57 = .ok (.aload_n 1, 1) := by decide +kernel
theorem d_5_finishCell_58 : decode prog_7_method_6_code 58 = .ok (.aload_n 2, 1) := by decide +kernel
theorem d_5_finishCell_59 : decode prog_7_method_6_code 59 = .ok (.iload_n 3, 1) := by decide +kernel
theorem d_5_finishCell_60 : decode prog_7_method_6_code 60 = .ok (.invokevirtual 112, 3) := by decide +kernel
theorem d_5_finishCell_63 : decode prog_7_method_6_code 63 = .ok (.istore 7, 2) := by decide +kernel
theorem d_5_finishCell_65 : decode prog_7_method_6_code 65 = .ok (.iload 7, 2) := by decide +kernel
theorem d_5_finishCell_67 : decode prog_7_method_6_code 67 = .ok (.ifCond .eq 25, 3) := by decide +kernel
theorem d_5_finishCell_70 : decode prog_7_method_6_code 70 = .ok (.aload_n 1, 1) := by decide +kernel
theorem d_5_finishCell_71 : decode prog_7_method_6_code 71 = .ok (.dup, 1) := by decide +kernel
theorem d_5_finishCell_72 : decode prog_7_method_6_code 72 = .ok (.getfield 37, 3) := by decide +kernel
theorem d_5_finishCell_75 : decode prog_7_method_6_code 75 = .ok (.iconst 1, 1) := by decide +kernel
theorem d_5_finishCell_76 : decode prog_7_method_6_code 76 = .ok (.iadd, 1) := by decide +kernel
theorem d_5_finishCell_77 : decode prog_7_method_6_code 77 = .ok (.putfield 37, 3) := by decide +kernel
theorem d_5_finishCell_80 : decode prog_7_method_6_code 80 = .ok (.aload_n 0, 1) := by decide +kernel
theorem d_5_finishCell_81 : decode prog_7_method_6_code 81 = .ok (.getfield 9, 3) := by decide +kernel
theorem d_5_finishCell_84 : decode prog_7_method_6_code 84 = .ok (.invokevirtual 116, 3) := by decide +kernel
theorem d_5_finishCell_87 : decode prog_7_method_6_code 87 = .ok (.ifCond .le 5, 3) := by decide +kernel
theorem d_5_finishCell_90 : decode prog_7_method_6_code 90 = .ok (.iconst 0, 1) := by decide +kernel
theorem d_5_finishCell_91 : decode prog_7_method_6_code 91 = .ok (.ireturn, 1) := by decide +kernel
theorem d_5_finishCell_92 : decode prog_7_method_6_code 92 = .ok (.aload_n 0, 1) := by decide +kernel
theorem d_5_finishCell_93 : decode prog_7_method_6_code 93 = .ok (.iload 5, 2) := by decide +kernel
theorem d_5_finishCell_95 : decode prog_7_method_6_code 95 = .ok (.aload_n 2, 1) := by decide +kernel
theorem d_5_finishCell_96 : decode prog_7_method_6_code 96 = .ok (.invokevirtual 85, 3) := by decide +kernel
theorem d_5_finishCell_99 : decode prog_7_method_6_code 99 = .ok (.ifCond .ne 5, 3) := by decide +kernel
theorem d_5_finishCell_102 : decode prog_7_method_6_code 102 = .ok (.iconst 3, 1) := by decide +kernel
theorem d_5_finishCell_103 : decode prog_7_method_6_code 103 = .ok (.ireturn, 1) := by decide +kernel
theorem d_5_finishCell_104 : decode prog_7_method_6_code 104 = .ok (.aload_n 0, 1) := by decide +kernel
theorem d_5_finishCell_105 : decode prog_7_method_6_code 105 = .ok (.getfield 9, 3) := by decide +kernel
theorem d_5_finishCell_108 : decode prog_7_method_6_code 108 = .ok (.getfield 15, 3) := by decide +kernel
theorem d_5_finishCell_111 : decode prog_7_method_6_code 111 = .ok (.dup, 1) := by decide +kernel
theorem d_5_finishCell_112 : decode prog_7_method_6_code 112 = .ok (.getfield 89, 3) := by decide +kernel
theorem d_5_finishCell_115 : decode prog_7_method_6_code 115 = .ok (.iload 5, 2) := by decide +kernel
theorem d_5_finishCell_117 : decode prog_7_method_6_code 117 = .ok (.iadd, 1) := by decide +kernel
theorem d_5_finishCell_118 : decode prog_7_method_6_code 118 = .ok (.putfield 89, 3) := by decide +kernel
theorem d_5_finishCell_121 : decode prog_7_method_6_code 121 = .ok (.aload_n 0, 1) := by decide +kernel
theorem d_5_finishCell_122 : decode prog_7_method_6_code 122 = .ok (.getfield 9, 3) := by decide +kernel
theorem d_5_finishCell_125 : decode prog_7_method_6_code 125 = .ok (.getfield 15, 3) := by decide +kernel
theorem d_5_finishCell_128 : decode prog_7_method_6_code 128 = .ok (.dup, 1) := by decide +kernel
theorem d_5_finishCell_129 : decode prog_7_method_6_code 129 = .ok (.getfield 119, 3) := by decide +kernel
theorem d_5_finishCell_132 : decode prog_7_method_6_code 132 = .ok (.iconst 1, 1) := by decide +kernel
theorem d_5_finishCell_133 : decode prog_7_method_6_code 133 = .ok (.iadd, 1) := by decide +kernel
theorem d_5_finishCell_134 : decode prog_7_method_6_code 134 = .ok (.putfield 119, 3) := by decide +kernel
theorem d_5_finishCell_137 : decode prog_7_method_6_code 137 = .ok (.aload_n 0, 1) := by decide +kernel
theorem d_5_finishCell_138 : decode prog_7_method_6_code 138 = .ok (.getfield 9, 3) := by decide +kernel
theorem d_5_finishCell_141 : decode prog_7_method_6_code 141 = .ok (.invokevirtual 122, 3) := by decide +kernel
theorem d_5_finishCell_144 : decode prog_7_method_6_code 144 = .ok (.iload 7, 2) := by decide +kernel
theorem d_5_finishCell_146 : decode prog_7_method_6_code 146 = .ok (.ifCond .eq 5, 3) := by decide +kernel
theorem d_5_finishCell_149 : decode prog_7_method_6_code 149 = .ok (.iconst 0, 1) := by decide +kernel
theorem d_5_finishCell_150 : decode prog_7_method_6_code 150 = .ok (.ireturn, 1) := by decide +kernel
theorem d_5_finishCell_151 : decode prog_7_method_6_code 151 = .ok (.iinc 6 1, 3) := by decide +kernel
theorem d_5_finishCell_154 : decode prog_7_method_6_code 154 = .ok (.goto (-134), 3) := by decide +kernel
theorem d_5_finishCell_157 : decode prog_7_method_6_code 157 = .ok (.iconst 2, 1) := by decide +kernel
theorem d_5_finishCell_158 : decode prog_7_method_6_code 158 = .ok (.ireturn, 1) := by decide +kernel
def m_5_finishCell_92 (r0 : Nat) (r1 : Nat) (r2 : Nat) (x3 : Int32) (x4 : Int32) (x5 : Int32) (x6 : Int32) (x7 : Int32) (B20 : Int32 → St → Prop) (Q : Int32 → St → Prop) (σ : St) : Prop :=
  m_5_fits r0 x5 r2 (fun (v_2 : Int32) (σ_1 : St) => ((¬ v_2 = 0 → ∀ σ_3 : St, σ_3 = wr σ_1 ((rfR r0) + 5) 1 ((σ_1.1 ((rfR r0) + 5) 1) + x5) → ∀ σ_4 : St, σ_4 = wr σ_3 ((rfR r0) + 5) 2 ((σ_3.1 ((rfR r0) + 5) 2) + (1 : Int32)) → m_8_emptyHopper (rfR r0) (fun (σ_5 : St) => ((x7 = 0 → ∀ x6_7 : Int32, x6_7 = x6 + 1 → B20 x6_7 σ_5) ∧ (¬ x7 = 0 → Q (0 : Int32) σ_5))) σ_4) ∧ (v_2 = 0 → Q (3 : Int32) σ_1))) σ
def m_5_finishCell_20 (r0 : Nat) (r1 : Nat) (r2 : Nat) (x3 : Int32) (x4 : Int32) (x5 : Int32) (Q : Int32 → St → Prop) (B20 : Int32 → St → Prop) (x6 : Int32) (σ : St) : Prop :=
  (((1000000 : Int32) ≤ x6 → Q (2 : Int32) σ) ∧ (¬ (1000000 : Int32) ≤ x6 → m_5_fits r0 x4 r2 (fun (v_2 : Int32) (σ_1 : St) => ((¬ v_2 = 0 → ∀ σ_3 : St, σ_3 = wr σ_1 ((rfR r0) + 5) 1 ((σ_1.1 ((rfR r0) + 5) 1) + x4) → m_5_sweepOnce r0 r1 r2 x3 (fun (v_5 : Int32) (σ_4 : St) => ((v_5 = 0 → m_5_finishCell_92 r0 r1 r2 x3 x4 x5 x6 v_5 B20 Q   σ_4) ∧ (¬ v_5 = 0 → ∀ σ_6 : St, σ_6 = wr σ_4 r1 2 ((σ_4.1 r1 2) + (1 : Int32)) → m_8_room (rfR r0) (fun (v_8 : Int32) (σ_7 : St) => ((v_8 ≤ 0 → m_5_finishCell_92 r0 r1 r2 x3 x4 x5 x6 v_5 B20 Q   σ_7) ∧ (¬ v_8 ≤ 0 → Q (0 : Int32) σ_7))) σ_6))) σ_3) ∧ (v_2 = 0 → Q (2 : Int32) σ_1))) σ))
def m_5_finishCell (r0 : Nat) (r1 : Nat) (r2 : Nat) (x3 : Int32) (Q : Int32 → St → Prop) (σ : St) : Prop :=
  m_5_unitsForCell r0 (fun (v_2 : Int32) (σ_1 : St) => m_6_driveToDump r2 (fun (v_4 : Int32) (σ_3 : St) => ∀ x5_5 : Int32, x5_5 = (((2 : Int32) * v_4) + (100 : Int32)) → itN (m_5_finishCell_20 r0 r1 r2 x3 v_2 x5_5 Q) (fun _ _ => False) FU (0 : Int32) σ_3) σ_1) σ
theorem d_5_endShift_0 : decode prog_7_method_9_code 0 = .ok (.aload_n 0, 1) := by decide +kernel
theorem d_5_endShift_1 : decode prog_7_method_9_code 1 = .ok (.getfield 26, 3) := by decide +kernel
theorem d_5_endShift_4 : decode prog_7_method_9_code 4 = .ok (.iconst (-1), 1) := by decide +kernel
theorem d_5_endShift_5 : decode prog_7_method_9_code 5 = .ok (.if_icmp .eq 33, 3) := by decide +kernel
theorem d_5_endShift_8 : decode prog_7_method_9_code 8 = .ok (.aload_n 0, 1) := by decide +kernel
theorem d_5_endShift_9 : decode prog_7_method_9_code 9 = .ok (.getfield 9, 3) := by decide +kernel
theorem d_5_endShift_12 : decode prog_7_method_9_code 12 = .ok (.getfield 15, 3) := by decide +kernel
theorem d_5_endShift_15 : decode prog_7_method_9_code 15 = .ok (.dup, 1) := by decide +kernel
theorem d_5_endShift_16 : decode prog_7_method_9_code 16 = .ok (.getfield 89, 3) := by decide +kernel
theorem d_5_endShift_19 : decode prog_7_method_9_code 19 = .ok (.aload_n 0, 1) := by decide +kernel
theorem d_5_endShift_20 : decode prog_7_method_9_code 20 = .ok (.getfield 9, 3) := by decide +kernel
theorem d_5_endShift_23 : decode prog_7_method_9_code 23 = .ok (.getfield 48, 3) := by decide +kernel
theorem d_5_endShift_26 : decode prog_7_method_9_code 26 = .ok (.aload_n 0, 1) := by decide +kernel
theorem d_5_endShift_27 : decode prog_7_method_9_code 27 = .ok (.getfield 26, 3) := by decide +kernel
theorem d_5_endShift_30 : decode prog_7_method_9_code 30 = .ok (.aaload, 1) := by decide +kernel
theorem d_5_endShift_31 : decode prog_7_method_9_code 31 = .ok (.invokevirtual 100, 3) := by decide +kernel
theorem d_5_endShift_34 : decode prog_7_method_9_code 34 = .ok (.iadd, 1) := by decide +kernel
theorem d_5_endShift_35 : decode prog_7_method_9_code 35 = .ok (.putfield 89, 3) := by decide +kernel
theorem d_5_endShift_38 : decode prog_7_method_9_code 38 = .ok (.iconst 2, 1) := by decide +kernel
theorem d_5_endShift_39 : decode prog_7_method_9_code 39 = .ok (.aload_n 0, 1) := by decide +kernel
theorem d_5_endShift_40 : decode prog_7_method_9_code 40 = .ok (.getfield 9, 3) := by decide +kernel
theorem d_5_endShift_43 : decode prog_7_method_9_code 43 = .ok (.getfield 140, 3) := by decide +kernel
theorem d_5_endShift_46 : decode prog_7_method_9_code 46 = .ok (.imul, 1) := by decide +kernel
theorem d_5_endShift_47 : decode prog_7_method_9_code 47 = .ok (.aload_n 0, 1) := by decide +kernel
theorem d_5_endShift_48 : decode prog_7_method_9_code 48 = .ok (.getfield 9, 3) := by decide +kernel
theorem d_5_endShift_51 : decode prog_7_method_9_code 51 = .ok (.getfield 104, 3) := by decide +kernel
theorem d_5_endShift_54 : decode prog_7_method_9_code 54 = .ok (.iconst 1, 1) := by decide +kernel
theorem d_5_endShift_55 : decode prog_7_method_9_code 55 = .ok (.iaload, 1) := by decide +kernel
theorem d_5_endShift_56 : decode prog_7_method_9_code 56 = .ok (.if_icmp .lt 10, 3) := by decide +kernel
theorem d_5_endShift_59 : decode prog_7_method_9_code 59 = .ok (.aload_n 0, 1) := by decide +kernel
theorem d_5_endShift_60 : decode prog_7_method_9_code 60 = .ok (.getfield 9, 3) := by decide +kernel
theorem d_5_endShift_63 : decode prog_7_method_9_code 63 = .ok (.invokevirtual 122, 3) := by decide +kernel
theorem d_5_endShift_66 : decode prog_7_method_9_code 66 = .ok (.aload_n 0, 1) := by decide +kernel
theorem d_5_endShift_67 : decode prog_7_method_9_code 67 = .ok (.getfield 9, 3) := by decide +kernel
theorem d_5_endShift_70 : decode prog_7_method_9_code 70 = .ok (.getfield 144, 3) := by decide +kernel
theorem d_5_endShift_73 : decode prog_7_method_9_code 73 = .ok (.aload_n 0, 1) := by decide +kernel
theorem d_5_endShift_74 : decode prog_7_method_9_code 74 = .ok (.getfield 9, 3) := by decide +kernel
theorem d_5_endShift_77 : decode prog_7_method_9_code 77 = .ok (.getfield 104, 3) := by decide +kernel
theorem d_5_endShift_80 : decode prog_7_method_9_code 80 = .ok (.iconst 4, 1) := by decide +kernel
theorem d_5_endShift_81 : decode prog_7_method_9_code 81 = .ok (.iaload, 1) := by decide +kernel
theorem d_5_endShift_82 : decode prog_7_method_9_code 82 = .ok (.if_icmp .ge 38, 3) := by decide +kernel
theorem d_5_endShift_85 : decode prog_7_method_9_code 85 = .ok (.aload_n 0, 1) := by decide +kernel
theorem d_5_endShift_86 : decode prog_7_method_9_code 86 = .ok (.getfield 9, 3) := by decide +kernel
theorem d_5_endShift_89 : decode prog_7_method_9_code 89 = .ok (.getfield 104, 3) := by decide +kernel
theorem d_5_endShift_92 : decode prog_7_method_9_code 92 = .ok (.iconst 2, 1) := by decide +kernel
theorem d_5_endShift_93 : decode prog_7_method_9_code 93 = .ok (.iaload, 1) := by decide +kernel
theorem d_5_endShift_94 : decode prog_7_method_9_code 94 = .ok (.ifCond .le 26, 3) := by decide +kernel
theorem d_5_endShift_97 : decode prog_7_method_9_code 97 = .ok (.aload_n 0, 1) := by decide +kernel
theorem d_5_endShift_98 : decode prog_7_method_9_code 98 = .ok (.getfield 9, 3) := by decide +kernel
theorem d_5_endShift_101 : decode prog_7_method_9_code 101 = .ok (.sipush 1000, 3) := by decide +kernel
theorem d_5_endShift_104 : decode prog_7_method_9_code 104 = .ok (.putfield 144, 3) := by decide +kernel
theorem d_5_endShift_107 : decode prog_7_method_9_code 107 = .ok (.aload_n 0, 1) := by decide +kernel
theorem d_5_endShift_108 : decode prog_7_method_9_code 108 = .ok (.getfield 9, 3) := by decide +kernel
theorem d_5_endShift_111 : decode prog_7_method_9_code 111 = .ok (.getfield 104, 3) := by decide +kernel
theorem d_5_endShift_114 : decode prog_7_method_9_code 114 = .ok (.iconst 2, 1) := by decide +kernel
theorem d_5_endShift_115 : decode prog_7_method_9_code 115 = .ok (.dup2, 1) := by decide +kernel
theorem d_5_endShift_116 : decode prog_7_method_9_code 116 = .ok (.iaload, 1) := by decide +kernel
theorem d_5_endShift_117 : decode prog_7_method_9_code 117 = .ok (.iconst 1, 1) := by decide +kernel
theorem d_5_endShift_118 : decode prog_7_method_9_code 118 = .ok (.isub, 1) := by decide +kernel
theorem d_5_endShift_119 : decode prog_7_method_9_code 119 = .ok (.iastore, 1) := by decide +kernel
theorem d_5_endShift_120 : decode prog_7_method_9_code 120 = .ok (.aload_n 0, 1) := by decide +kernel
theorem d_5_endShift_121 : decode prog_7_method_9_code 121 = .ok (.getfield 9, 3) := by decide +kernel
theorem d_5_endShift_124 : decode prog_7_method_9_code 124 = .ok (.dup, 1) := by decide +kernel
theorem d_5_endShift_125 : decode prog_7_method_9_code 125 = .ok (.getfield 150, 3) := by decide +kernel
theorem d_5_endShift_128 : decode prog_7_method_9_code 128 = .ok (.iconst 1, 1) := by decide +kernel
theorem d_5_endShift_129 : decode prog_7_method_9_code 129 = .ok (.iadd, 1) := by decide +kernel
theorem d_5_endShift_130 : decode prog_7_method_9_code 130 = .ok (.putfield 150, 3) := by decide +kernel
theorem d_5_endShift_133 : decode prog_7_method_9_code 133 = .ok (.aload_n 0, 1) := by decide +kernel
theorem d_5_endShift_134 : decode prog_7_method_9_code 134 = .ok (.getfield 9, 3) := by decide +kernel
theorem d_5_endShift_137 : decode prog_7_method_9_code 137 = .ok (.iconst 1, 1) := by decide +kernel
theorem d_5_endShift_138 : decode prog_7_method_9_code 138 = .ok (.putfield 153, 3) := by decide +kernel
theorem d_5_endShift_141 : decode prog_7_method_9_code 141 = .ok (.return_, 1) := by decide +kernel
def m_5_endShift_120 (r0 : Nat) (Q : St → Prop) (σ : St) : Prop :=
  ∀ σ_1 : St, σ_1 = wr σ (rfR r0) 10 ((σ.1 (rfR r0) 10) + (1 : Int32)) → ∀ σ_2 : St, σ_2 = wr σ_1 (rfR r0) 4 (1 : Int32) → Q σ_2
def m_5_endShift_66 (r0 : Nat) (Q : St → Prop) (σ : St) : Prop :=
  vp_in (4 : Int32) 6 ∧ (((σ.1 ((rfR r0) + 3) ((4 : Int32)).toNatClampNeg) ≤ (σ.1 (rfR r0) 6) → m_5_endShift_120 r0 Q   σ) ∧ (¬ (σ.1 ((rfR r0) + 3) ((4 : Int32)).toNatClampNeg) ≤ (σ.1 (rfR r0) 6) → vp_in (2 : Int32) 6 ∧ (((σ.1 ((rfR r0) + 3) ((2 : Int32)).toNatClampNeg) ≤ 0 → m_5_endShift_120 r0 Q   σ) ∧ (¬ (σ.1 ((rfR r0) + 3) ((2 : Int32)).toNatClampNeg) ≤ 0 → ∀ σ_1 : St, σ_1 = wr σ (rfR r0) 6 (1000 : Int32) → vp_in (2 : Int32) 6 ∧ vp_in (2 : Int32) 6 ∧ ∀ σ_2 : St, σ_2 = wr σ_1 ((rfR r0) + 3) ((2 : Int32)).toNatClampNeg ((σ_1.1 ((rfR r0) + 3) ((2 : Int32)).toNatClampNeg) - (1 : Int32)) → m_5_endShift_120 r0 Q   σ_2))))
def m_5_endShift_38 (r0 : Nat) (Q : St → Prop) (σ : St) : Prop :=
  vp_in (1 : Int32) 6 ∧ ((((2 : Int32) * (σ.1 (rfR r0) 7)) < (σ.1 ((rfR r0) + 3) ((1 : Int32)).toNatClampNeg) → m_5_endShift_66 r0 Q   σ) ∧ (¬ ((2 : Int32) * (σ.1 (rfR r0) 7)) < (σ.1 ((rfR r0) + 3) ((1 : Int32)).toNatClampNeg) → m_8_emptyHopper (rfR r0) (fun (σ_1 : St) => m_5_endShift_66 r0 Q   σ_1) σ))
def m_5_endShift (r0 : Nat) (Q : St → Prop) (σ : St) : Prop :=
  (((σ.1 r0 1) = (-1 : Int32) → m_5_endShift_38 r0 Q   σ) ∧ (¬ (σ.1 r0 1) = (-1 : Int32) → vp_in (σ.1 r0 1) 6 ∧ m_6_driveToDump (((rfR r0) + 1) + 5 + 3 * ((σ.1 r0 1)).toNatClampNeg) (fun (v_3 : Int32) (σ_2 : St) => ∀ σ_4 : St, σ_4 = wr σ_2 ((rfR r0) + 5) 1 ((σ.1 ((rfR r0) + 5) 1) + v_3) → m_5_endShift_38 r0 Q   σ_4) σ))
theorem d_5_carryOut_0 : decode prog_7_method_2_code 0 = .ok (.aload_n 0, 1) := by decide +kernel
theorem d_5_carryOut_1 : decode prog_7_method_2_code 1 = .ok (.getfield 9, 3) := by decide +kernel
theorem d_5_carryOut_4 : decode prog_7_method_2_code 4 = .ok (.getfield 15, 3) := by decide +kernel
theorem d_5_carryOut_7 : decode prog_7_method_2_code 7 = .ok (.astore_n 1, 1) := by decide +kernel
theorem d_5_carryOut_8 : decode prog_7_method_2_code 8 = .ok (.aload_n 1, 1) := by decide +kernel
theorem d_5_carryOut_9 : decode prog_7_method_2_code 9 = .ok (.invokevirtual 21, 3) := by decide +kernel
theorem d_5_carryOut_12 : decode prog_7_method_2_code 12 = .ok (.aload_n 0, 1) := by decide +kernel
theorem d_5_carryOut_13 : decode prog_7_method_2_code 13 = .ok (.iconst (-1), 1) := by decide +kernel
theorem d_5_carryOut_14 : decode prog_7_method_2_code 14 = .ok (.putfield 26, 3) := by decide +kernel
theorem d_5_carryOut_17 : decode prog_7_method_2_code 17 = .ok (.iconst 0, 1) := by decide +kernel
theorem d_5_carryOut_18 : decode prog_7_method_2_code 18 = .ok (.istore_n 2, 1) := by decide +kernel
theorem d_5_carryOut_19 : decode prog_7_method_2_code 19 = .ok (.iload_n 2, 1) := by decide +kernel
theorem d_5_carryOut_20 : decode prog_7_method_2_code 20 = .ok (.aload_n 0, 1) := by decide +kernel
theorem d_5_carryOut_21 : decode prog_7_method_2_code 21 = .ok (.getfield 9, 3) := by decide +kernel
theorem d_5_carryOut_24 : decode prog_7_method_2_code 24 = .ok (.getfield 30, 3) := by decide +kernel
theorem d_5_carryOut_27 : decode prog_7_method_2_code 27 = .ok (.if_icmp .ge 35, 3) := by decide +kernel
theorem d_5_carryOut_30 : decode prog_7_method_2_code 30 = .ok (.aload_n 0, 1) := by decide +kernel
theorem d_5_carryOut_31 : decode prog_7_method_2_code 31 = .ok (.getfield 9, 3) := by decide +kernel
theorem d_5_carryOut_34 : decode prog_7_method_2_code 34 = .ok (.getfield 33, 3) := by decide +kernel
theorem d_5_carryOut_37 : decode prog_7_method_2_code 37 = .ok (.iload_n 2, 1) := by decide +kernel
theorem d_5_carryOut_38 : decode prog_7_method_2_code 38 = .ok (.aaload, 1) := by decide +kernel
theorem d_5_carryOut_39 : decode prog_7_method_2_code 39 = .ok (.iconst 0, 1) := by decide +kernel
theorem d_5_carryOut_40 : decode prog_7_method_2_code 40 = .ok (.putfield 37, 3) := by decide +kernel
theorem d_5_carryOut_43 : decode prog_7_method_2_code 43 = .ok (.aload_n 0, 1) := by decide +kernel
theorem d_5_carryOut_44 : decode prog_7_method_2_code 44 = .ok (.getfield 9, 3) := by decide +kernel
theorem d_5_carryOut_47 : decode prog_7_method_2_code 47 = .ok (.getfield 33, 3) := by decide +kernel
theorem d_5_carryOut_50 : decode prog_7_method_2_code 50 = .ok (.iload_n 2, 1) := by decide +kernel
theorem d_5_carryOut_51 : decode prog_7_method_2_code 51 = .ok (.aaload, 1) := by decide +kernel
theorem d_5_carryOut_52 : decode prog_7_method_2_code 52 = .ok (.iconst 0, 1) := by decide +kernel
theorem d_5_carryOut_53 : decode prog_7_method_2_code 53 = .ok (.putfield 42, 3) := by decide +kernel
theorem d_5_carryOut_56 : decode prog_7_method_2_code 56 = .ok (.iinc 2 1, 3) := by decide +kernel
theorem d_5_carryOut_59 : decode prog_7_method_2_code 59 = .ok (.goto (-40), 3) := by decide +kernel
theorem d_5_carryOut_62 : decode prog_7_method_2_code 62 = .ok (.iconst 0, 1) := by decide +kernel
theorem d_5_carryOut_63 : decode prog_7_method_2_code 63 = .ok (.istore_n 2, 1) := by decide +kernel
theorem d_5_carryOut_64 : decode prog_7_method_2_code 64 = .ok (.iload_n 2, 1) := by decide +kernel
theorem d_5_carryOut_65 : decode prog_7_method_2_code 65 = .ok (.aload_n 0, 1) := by decide +kernel
theorem d_5_carryOut_66 : decode prog_7_method_2_code 66 = .ok (.getfield 9, 3) := by decide +kernel
theorem d_5_carryOut_69 : decode prog_7_method_2_code 69 = .ok (.getfield 30, 3) := by decide +kernel
theorem d_5_carryOut_72 : decode prog_7_method_2_code 72 = .ok (.if_icmp .ge 115, 3) := by decide +kernel
theorem d_5_carryOut_75 : decode prog_7_method_2_code 75 = .ok (.aload_n 1, 1) := by decide +kernel
theorem d_5_carryOut_76 : decode prog_7_method_2_code 76 = .ok (.getfield 45, 3) := by decide +kernel
theorem d_5_carryOut_79 : decode prog_7_method_2_code 79 = .ok (.ifCond .ne 108, 3) := by decide +kernel
theorem d_5_carryOut_82 : decode prog_7_method_2_code 82 = .ok (.aload_n 0, 1) := by decide +kernel
theorem d_5_carryOut_83 : decode prog_7_method_2_code 83 = .ok (.getfield 9, 3) := by decide +kernel
theorem d_5_carryOut_86 : decode prog_7_method_2_code 86 = .ok (.getfield 33, 3) := by decide +kernel
theorem d_5_carryOut_89 : decode prog_7_method_2_code 89 = .ok (.iload_n 2, 1) := by decide +kernel
theorem d_5_carryOut_90 : decode prog_7_method_2_code 90 = .ok (.aaload, 1) := by decide +kernel
theorem d_5_carryOut_91 : decode prog_7_method_2_code 91 = .ok (.astore_n 3, 1) := by decide +kernel
theorem d_5_carryOut_92 : decode prog_7_method_2_code 92 = .ok (.aload_n 0, 1) := by decide +kernel
theorem d_5_carryOut_93 : decode prog_7_method_2_code 93 = .ok (.getfield 9, 3) := by decide +kernel
theorem d_5_carryOut_96 : decode prog_7_method_2_code 96 = .ok (.getfield 48, 3) := by decide +kernel
theorem d_5_carryOut_99 : decode prog_7_method_2_code 99 = .ok (.aload_n 3, 1) := by decide +kernel
theorem d_5_carryOut_100 : decode prog_7_method_2_code 100 = .ok (.getfield 52, 3) := by decide +kernel
theorem d_5_carryOut_103 : decode prog_7_method_2_code 103 = .ok (.aaload, 1) := by decide +kernel
theorem d_5_carryOut_104 : decode prog_7_method_2_code 104 = .ok (.astore 4, 2) := by decide +kernel
theorem d_5_carryOut_106 : decode prog_7_method_2_code 106 = .ok (.aload_n 1, 1) := by decide +kernel
theorem d_5_carryOut_107 : decode prog_7_method_2_code 107 = .ok (.aload_n 0, 1) := by decide +kernel
theorem d_5_carryOut_108 : decode prog_7_method_2_code 108 = .ok (.aload_n 3, 1) := by decide +kernel
theorem d_5_carryOut_109 : decode prog_7_method_2_code 109 = .ok (.aload 4, 2) := by decide +kernel
theorem d_5_carryOut_111 : decode prog_7_method_2_code 111 = .ok (.invokevirtual 55, 3) := by decide +kernel
theorem d_5_carryOut_114 : decode prog_7_method_2_code 114 = .ok (.putfield 45, 3) := by decide +kernel
theorem d_5_carryOut_117 : decode prog_7_method_2_code 117 = .ok (.iconst 0, 1) := by decide +kernel
theorem d_5_carryOut_118 : decode prog_7_method_2_code 118 = .ok (.istore 5, 2) := by decide +kernel
theorem d_5_carryOut_120 : decode prog_7_method_2_code 120 = .ok (.iload 5, 2) := by decide +kernel
theorem d_5_carryOut_122 : decode prog_7_method_2_code 122 = .ok (.aload 4, 2) := by decide +kernel
theorem d_5_carryOut_124 : decode prog_7_method_2_code 124 = .ok (.getfield 59, 3) := by decide +kernel
theorem d_5_carryOut_127 : decode prog_7_method_2_code 127 = .ok (.if_icmp .ge 36, 3) := by decide +kernel
theorem d_5_carryOut_130 : decode prog_7_method_2_code 130 = .ok (.aload_n 1, 1) := by decide +kernel
theorem d_5_carryOut_131 : decode prog_7_method_2_code 131 = .ok (.getfield 45, 3) := by decide +kernel
theorem d_5_carryOut_134 : decode prog_7_method_2_code 134 = .ok (.ifCond .ne 29, 3) := by decide +kernel
theorem d_5_carryOut_137 : decode prog_7_method_2_code 137 = .ok (.aload_n 1, 1) := by decide +kernel
theorem d_5_carryOut_138 : decode prog_7_method_2_code 138 = .ok (.aload_n 0, 1) := by decide +kernel
theorem d_5_carryOut_139 : decode prog_7_method_2_code 139 = .ok (.aload_n 3, 1) := by decide +kernel
theorem d_5_carryOut_140 : decode prog_7_method_2_code 140 = .ok (.aload 4, 2) := by decide +kernel
theorem d_5_carryOut_142 : decode prog_7_method_2_code 142 = .ok (.aload_n 3, 1) := by decide +kernel
theorem d_5_carryOut_143 : decode prog_7_method_2_code 143 = .ok (.getfield 64, 3) := by decide +kernel
theorem d_5_carryOut_146 : decode prog_7_method_2_code 146 = .ok (.iload 5, 2) := by decide +kernel
theorem d_5_carryOut_148 : decode prog_7_method_2_code 148 = .ok (.invokestatic 67, 3) := by decide +kernel
theorem d_5_carryOut_151 : decode prog_7_method_2_code 151 = .ok (.invokevirtual 71, 3) := by decide +kernel
theorem d_5_carryOut_154 : decode prog_7_method_2_code 154 = .ok (.putfield 45, 3) := by decide +kernel
theorem d_5_carryOut_157 : decode prog_7_method_2_code 157 = .ok (.iinc 5 1, 3) := by decide +kernel
theorem d_5_carryOut_160 : decode prog_7_method_2_code 160 = .ok (.goto (-40), 3) := by decide +kernel
theorem d_5_carryOut_163 : decode prog_7_method_2_code 163 = .ok (.aload_n 1, 1) := by decide +kernel
theorem d_5_carryOut_164 : decode prog_7_method_2_code 164 = .ok (.aload_n 1, 1) := by decide +kernel
theorem d_5_carryOut_165 : decode prog_7_method_2_code 165 = .ok (.getfield 45, 3) := by decide +kernel
theorem d_5_carryOut_168 : decode prog_7_method_2_code 168 = .ok (.ifCond .ne 9, 3) := by decide +kernel
theorem d_5_carryOut_171 : decode prog_7_method_2_code 171 = .ok (.iload_n 2, 1) := by decide +kernel
theorem d_5_carryOut_172 : decode prog_7_method_2_code 172 = .ok (.iconst 1, 1) := by decide +kernel
theorem d_5_carryOut_173 : decode prog_7_method_2_code 173 = .ok (.iadd, 1) := by decide +kernel
theorem d_5_carryOut_174 : decode prog_7_method_2_code 174 = .ok (.goto 4, 3) := by decide +kernel
theorem d_5_carryOut_177 : decode prog_7_method_2_code 177 = .ok (.iload_n 2, 1) := by decide +kernel
theorem d_5_carryOut_178 : decode prog_7_method_2_code 178 = .ok (.putfield 75, 3) := by decide +kernel
theorem d_5_carryOut_181 : decode prog_7_method_2_code 181 = .ok (.iinc 2 1, 3) := by decide +kernel
theorem d_5_carryOut_184 : decode prog_7_method_2_code 184 = .ok (.goto (-120), 3) := by decide +kernel
theorem d_5_carryOut_187 : decode prog_7_method_2_code 187 = .ok (.aload_n 0, 1) := by decide +kernel
theorem d_5_carryOut_188 : decode prog_7_method_2_code 188 = .ok (.invokevirtual 78, 3) := by decide +kernel
theorem d_5_carryOut_191 : decode prog_7_method_2_code 191 = .ok (.return_, 1) := by decide +kernel
def m_5_carryOut_187 (r0 : Nat) (Q : St → Prop) (σ : St) : Prop :=
  m_5_endShift r0 (fun (σ_1 : St) => Q σ_1) σ
def m_5_carryOut_178 (r0 : Nat) (r1 : Nat) (x2 : Int32) (B64 : Int32 → St → Prop) (Q : St → Prop) (t0 : Int32) (t1 : Nat) (σ : St) : Prop :=
  ∀ σ_1 : St, σ_1 = wr σ t1 5 t0 → ∀ x2_2 : Int32, x2_2 = x2 + 1 → B64 x2_2 σ_1
def m_5_carryOut_163 (r0 : Nat) (r1 : Nat) (x2 : Int32) (B64 : Int32 → St → Prop) (Q : St → Prop) (σ : St) : Prop :=
  ((¬ (σ.1 r1 0) = 0 → m_5_carryOut_178 r0 r1 x2 B64 Q  x2 r1 σ) ∧ ((σ.1 r1 0) = 0 → m_5_carryOut_178 r0 r1 x2 B64 Q  (x2 + (1 : Int32)) r1 σ))
def m_5_carryOut_120 (r0 : Nat) (r1 : Nat) (x2 : Int32) (r3 : Nat) (r4 : Nat) (B64 : Int32 → St → Prop) (Q : St → Prop) (B120 : Int32 → St → Prop) (x5 : Int32) (σ : St) : Prop :=
  (((σ.1 r4 0) ≤ x5 → m_5_carryOut_163 r0 r1 x2 B64 Q   σ) ∧ (¬ (σ.1 r4 0) ≤ x5 → ((¬ (σ.1 r1 0) = 0 → m_5_carryOut_163 r0 r1 x2 B64 Q   σ) ∧ ((σ.1 r1 0) = 0 → m_9_placeOf (σ.1 r3 1) x5 (fun (v_2 : Int32) (σ_1 : St) => m_5_finishCell r0 r3 r4 v_2 (fun (v_4 : Int32) (σ_3 : St) => ∀ σ_5 : St, σ_5 = wr σ_3 r1 0 v_4 → ∀ x5_6 : Int32, x5_6 = x5 + 1 → B120 x5_6 σ_5) σ_1) σ))))
def m_5_carryOut_64 (r0 : Nat) (r1 : Nat) (Q : St → Prop) (B64 : Int32 → St → Prop) (x2 : Int32) (σ : St) : Prop :=
  (((σ.1 (rfR r0) 3) ≤ x2 → m_5_carryOut_187 r0 Q   σ) ∧ (¬ (σ.1 (rfR r0) 3) ≤ x2 → ((¬ (σ.1 r1 0) = 0 → m_5_carryOut_187 r0 Q   σ) ∧ ((σ.1 r1 0) = 0 → vp_in x2 10 ∧ ∀ r3_2 : Nat, r3_2 = (((rfR r0) + 2) + 22 + (x2).toNatClampNeg) → vp_in (σ.1 r3_2 0) 6 ∧ ∀ r4_4 : Nat, r4_4 = (((rfR r0) + 1) + 5 + 3 * ((σ.1 r3_2 0)).toNatClampNeg) → m_5_driveToLeg r0 r3_2 r4_4 (fun (v_6 : Int32) (σ_5 : St) => ∀ σ_7 : St, σ_7 = wr σ_5 r1 0 v_6 → itN (m_5_carryOut_120 r0 r1 x2 r3_2 r4_4 B64 Q) (fun _ _ => False) FU (0 : Int32) σ_7) σ))))
def m_5_carryOut_19 (r0 : Nat) (r1 : Nat) (Q : St → Prop) (B19 : Int32 → St → Prop) (x2 : Int32) (σ : St) : Prop :=
  (((σ.1 (rfR r0) 3) ≤ x2 → itN (m_5_carryOut_64 r0 r1 Q) (fun _ _ => False) FU (0 : Int32) σ) ∧ (¬ (σ.1 (rfR r0) 3) ≤ x2 → vp_in x2 10 ∧ ∀ σ_2 : St, σ_2 = wr σ (((rfR r0) + 2) + 22 + (x2).toNatClampNeg) 2 (0 : Int32) → vp_in x2 10 ∧ ∀ σ_4 : St, σ_4 = wr σ_2 (((rfR r0) + 2) + 22 + (x2).toNatClampNeg) 3 (0 : Int32) → ∀ x2_5 : Int32, x2_5 = x2 + 1 → B19 x2_5 σ_4))
def m_5_carryOut (r0 : Nat) (Q : St → Prop) (σ : St) : Prop :=
  ∀ r1_1 : Nat, r1_1 = ((rfR r0) + 5) → m_4_clear r1_1 (fun (σ_2 : St) => ∀ σ_4 : St, σ_4 = wr σ_2 r0 1 (-1 : Int32) → itN (m_5_carryOut_19 r0 r1_1 Q) (fun _ _ => False) FU (0 : Int32) σ_4) σ
theorem d_9_shift_0 : decode prog_1_method_16_code 0 = .ok (.aload_n 0, 1) := by decide +kernel
theorem d_9_shift_1 : decode prog_1_method_16_code 1 = .ok (.getfield 42, 3) := by decide +kernel
theorem d_9_shift_4 : decode prog_1_method_16_code 4 = .ok (.aload_n 0, 1) := by decide +kernel
theorem d_9_shift_5 : decode prog_1_method_16_code 5 = .ok (.getfield 26, 3) := by decide +kernel
theorem d_9_shift_8 : decode prog_1_method_16_code 8 = .ok (.invokevirtual 80, 3) := by decide +kernel
theorem d_9_shift_11 : decode prog_1_method_16_code 11 = .ok (.aload_n 0, 1) := by decide +kernel
theorem d_9_shift_12 : decode prog_1_method_16_code 12 = .ok (.getfield 35, 3) := by decide +kernel
theorem d_9_shift_15 : decode prog_1_method_16_code 15 = .ok (.invokevirtual 208, 3) := by decide +kernel
theorem d_9_shift_18 : decode prog_1_method_16_code 18 = .ok (.aload_n 0, 1) := by decide +kernel
theorem d_9_shift_19 : decode prog_1_method_16_code 19 = .ok (.getfield 26, 3) := by decide +kernel
theorem d_9_shift_22 : decode prog_1_method_16_code 22 = .ok (.getfield 211, 3) := by decide +kernel
theorem d_9_shift_25 : decode prog_1_method_16_code 25 = .ok (.getfield 215, 3) := by decide +kernel
theorem d_9_shift_28 : decode prog_1_method_16_code 28 = .ok (.ireturn, 1) := by decide +kernel
def m_9_shift (r0 : Nat) (Q : Int32 → St → Prop) (σ : St) : Prop :=
  m_0_remember (r0 + 42) (r0 + 7) (fun (σ_1 : St) => m_5_carryOut (r0 + 41) (fun (σ_3 : St) => Q (σ_3.1 ((r0 + 7) + 5) 3) σ_3) σ_1) σ
theorem d_8_fallOn_0 : decode prog_10_method_19_code 0 = .ok (.aload_n 1, 1) := by decide +kernel
theorem d_8_fallOn_1 : decode prog_10_method_19_code 1 = .ok (.getfield 101, 3) := by decide +kernel
theorem d_8_fallOn_4 : decode prog_10_method_19_code 4 = .ok (.aload_n 0, 1) := by decide +kernel
theorem d_8_fallOn_5 : decode prog_10_method_19_code 5 = .ok (.getfield 23, 3) := by decide +kernel
theorem d_8_fallOn_8 : decode prog_10_method_19_code 8 = .ok (.iconst 5, 1) := by decide +kernel
theorem d_8_fallOn_9 : decode prog_10_method_19_code 9 = .ok (.iaload, 1) := by decide +kernel
theorem d_8_fallOn_10 : decode prog_10_method_19_code 10 = .ok (.imul, 1) := by decide +kernel
theorem d_8_fallOn_11 : decode prog_10_method_19_code 11 = .ok (.bipush 100, 2) := by decide +kernel
theorem d_8_fallOn_13 : decode prog_10_method_19_code 13 = .ok (.idiv, 1) := by decide +kernel
theorem d_8_fallOn_14 : decode prog_10_method_19_code 14 = .ok (.ireturn, 1) := by decide +kernel
def m_8_fallOn (r0 : Nat) (r1 : Nat) (Q : Int32 → St → Prop) (σ : St) : Prop :=
  vp_in (5 : Int32) 6 ∧ Q (((σ.1 r1 2) * (σ.1 (r0 + 3) ((5 : Int32)).toNatClampNeg)) / (100 : Int32)) σ
theorem d_6_putDirt_0 : decode prog_8_method_9_code 0 = .ok (.aload_n 0, 1) := by decide +kernel
theorem d_6_putDirt_1 : decode prog_8_method_9_code 1 = .ok (.getfield 9, 3) := by decide +kernel
theorem d_6_putDirt_4 : decode prog_8_method_9_code 4 = .ok (.iload_n 1, 1) := by decide +kernel
theorem d_6_putDirt_5 : decode prog_8_method_9_code 5 = .ok (.iaload, 1) := by decide +kernel
theorem d_6_putDirt_6 : decode prog_8_method_9_code 6 = .ok (.iload_n 2, 1) := by decide +kernel
theorem d_6_putDirt_7 : decode prog_8_method_9_code 7 = .ok (.iadd, 1) := by decide +kernel
theorem d_6_putDirt_8 : decode prog_8_method_9_code 8 = .ok (.istore_n 3, 1) := by decide +kernel
theorem d_6_putDirt_9 : decode prog_8_method_9_code 9 = .ok (.aload_n 0, 1) := by decide +kernel
theorem d_6_putDirt_10 : decode prog_8_method_9_code 10 = .ok (.getfield 9, 3) := by decide +kernel
theorem d_6_putDirt_13 : decode prog_8_method_9_code 13 = .ok (.iload_n 1, 1) := by decide +kernel
theorem d_6_putDirt_14 : decode prog_8_method_9_code 14 = .ok (.iload_n 3, 1) := by decide +kernel
theorem d_6_putDirt_15 : decode prog_8_method_9_code 15 = .ok (.bipush 99, 2) := by decide +kernel
theorem d_6_putDirt_17 : decode prog_8_method_9_code 17 = .ok (.invokestatic 42, 3) := by decide +kernel
theorem d_6_putDirt_20 : decode prog_8_method_9_code 20 = .ok (.iastore, 1) := by decide +kernel
theorem d_6_putDirt_21 : decode prog_8_method_9_code 21 = .ok (.iload_n 3, 1) := by decide +kernel
theorem d_6_putDirt_22 : decode prog_8_method_9_code 22 = .ok (.aload_n 0, 1) := by decide +kernel
theorem d_6_putDirt_23 : decode prog_8_method_9_code 23 = .ok (.getfield 9, 3) := by decide +kernel
theorem d_6_putDirt_26 : decode prog_8_method_9_code 26 = .ok (.iload_n 1, 1) := by decide +kernel
theorem d_6_putDirt_27 : decode prog_8_method_9_code 27 = .ok (.iaload, 1) := by decide +kernel
theorem d_6_putDirt_28 : decode prog_8_method_9_code 28 = .ok (.isub, 1) := by decide +kernel
theorem d_6_putDirt_29 : decode prog_8_method_9_code 29 = .ok (.ireturn, 1) := by decide +kernel
def m_6_putDirt (r0 : Nat) (x1 : Int32) (x2 : Int32) (Q : Int32 → St → Prop) (σ : St) : Prop :=
  vp_in x1 40 ∧ ∀ x3_1 : Int32, x3_1 = ((σ.1 (r0 + 1) (x1).toNatClampNeg) + x2) → vp_in x1 40 ∧ ∀ σ_2 : St, σ_2 = wr σ (r0 + 1) (x1).toNatClampNeg (if (99 : Int32) < x3_1 then (99 : Int32) else x3_1) → vp_in x1 40 ∧ Q (x3_1 - (σ_2.1 (r0 + 1) (x1).toNatClampNeg)) σ_2
theorem d_8_passNights_0 : decode prog_10_method_20_code 0 = .ok (.iconst 0, 1) := by decide +kernel
theorem d_8_passNights_1 : decode prog_10_method_20_code 1 = .ok (.istore_n 2, 1) := by decide +kernel
theorem d_8_passNights_2 : decode prog_10_method_20_code 2 = .ok (.iload_n 2, 1) := by decide +kernel
theorem d_8_passNights_3 : decode prog_10_method_20_code 3 = .ok (.aload_n 0, 1) := by decide +kernel
theorem d_8_passNights_4 : decode prog_10_method_20_code 4 = .ok (.getfield 52, 3) := by decide +kernel
theorem d_8_passNights_7 : decode prog_10_method_20_code 7 = .ok (.if_icmp .ge 90, 3) := by decide +kernel
theorem d_8_passNights_10 : decode prog_10_method_20_code 10 = .ok (.aload_n 0, 1) := by decide +kernel
theorem d_8_passNights_11 : decode prog_10_method_20_code 11 = .ok (.getfield 11, 3) := by decide +kernel
theorem d_8_passNights_14 : decode prog_10_method_20_code 14 = .ok (.iload_n 2, 1) := by decide +kernel
theorem d_8_passNights_15 : decode prog_10_method_20_code 15 = .ok (.aaload, 1) := by decide +kernel
theorem d_8_passNights_16 : decode prog_10_method_20_code 16 = .ok (.astore_n 3, 1) := by decide +kernel
theorem d_8_passNights_17 : decode prog_10_method_20_code 17 = .ok (.aload_n 0, 1) := by decide +kernel
theorem d_8_passNights_18 : decode prog_10_method_20_code 18 = .ok (.aload_n 3, 1) := by decide +kernel
theorem d_8_passNights_19 : decode prog_10_method_20_code 19 = .ok (.invokevirtual 123, 3) := by decide +kernel
theorem d_8_passNights_22 : decode prog_10_method_20_code 22 = .ok (.iload_n 1, 1) := by decide +kernel
theorem d_8_passNights_23 : decode prog_10_method_20_code 23 = .ok (.imul, 1) := by decide +kernel
theorem d_8_passNights_24 : decode prog_10_method_20_code 24 = .ok (.istore 4, 2) := by decide +kernel
theorem d_8_passNights_26 : decode prog_10_method_20_code 26 = .ok (.iconst 0, 1) := by decide +kernel
theorem d_8_passNights_27 : decode prog_10_method_20_code 27 = .ok (.istore 5, 2) := by decide +kernel
theorem d_8_passNights_29 : decode prog_10_method_20_code 29 = .ok (.iload 5, 2) := by decide +kernel
theorem d_8_passNights_31 : decode prog_10_method_20_code 31 = .ok (.aload_n 3, 1) := by decide +kernel
theorem d_8_passNights_32 : decode prog_10_method_20_code 32 = .ok (.getfield 85, 3) := by decide +kernel
theorem d_8_passNights_35 : decode prog_10_method_20_code 35 = .ok (.if_icmp .ge 56, 3) := by decide +kernel
theorem d_8_passNights_38 : decode prog_10_method_20_code 38 = .ok (.aload_n 0, 1) := by decide +kernel
theorem d_8_passNights_39 : decode prog_10_method_20_code 39 = .ok (.getfield 27, 3) := by decide +kernel
theorem d_8_passNights_42 : decode prog_10_method_20_code 42 = .ok (.iconst 3, 1) := by decide +kernel
theorem d_8_passNights_43 : decode prog_10_method_20_code 43 = .ok (.dup2, 1) := by decide +kernel
theorem d_8_passNights_44 : decode prog_10_method_20_code 44 = .ok (.iaload, 1) := by decide +kernel
theorem d_8_passNights_45 : decode prog_10_method_20_code 45 = .ok (.aload_n 3, 1) := by decide +kernel
theorem d_8_passNights_46 : decode prog_10_method_20_code 46 = .ok (.iconst 0, 1) := by decide +kernel
theorem d_8_passNights_47 : decode prog_10_method_20_code 47 = .ok (.iload 5, 2) := by decide +kernel
theorem d_8_passNights_49 : decode prog_10_method_20_code 49 = .ok (.invokestatic 127, 3) := by decide +kernel
theorem d_8_passNights_52 : decode prog_10_method_20_code 52 = .ok (.iload 4, 2) := by decide +kernel
theorem d_8_passNights_54 : decode prog_10_method_20_code 54 = .ok (.invokevirtual 130, 3) := by decide +kernel
theorem d_8_passNights_57 : decode prog_10_method_20_code 57 = .ok (.aload_n 3, 1) := by decide +kernel
theorem d_8_passNights_58 : decode prog_10_method_20_code 58 = .ok (.iconst 1, 1) := by decide +kernel
theorem d_8_passNights_59 : decode prog_10_method_20_code 59 = .ok (.iload 5, 2) := by decide +kernel
theorem d_8_passNights_61 : decode prog_10_method_20_code 61 = .ok (.invokestatic 127, 3) := by decide +kernel
theorem d_8_passNights_64 : decode prog_10_method_20_code 64 = .ok (.iload 4, 2) := by decide +kernel
theorem d_8_passNights_66 : decode prog_10_method_20_code 66 = .ok (.invokevirtual 130, 3) := by decide +kernel
theorem d_8_passNights_69 : decode prog_10_method_20_code 69 = .ok (.iadd, 1) := by decide +kernel
theorem d_8_passNights_70 : decode prog_10_method_20_code 70 = .ok (.iadd, 1) := by decide +kernel
theorem d_8_passNights_71 : decode prog_10_method_20_code 71 = .ok (.iastore, 1) := by decide +kernel
theorem d_8_passNights_72 : decode prog_10_method_20_code 72 = .ok (.aload_n 0, 1) := by decide +kernel
theorem d_8_passNights_73 : decode prog_10_method_20_code 73 = .ok (.getfield 27, 3) := by decide +kernel
theorem d_8_passNights_76 : decode prog_10_method_20_code 76 = .ok (.iconst 1, 1) := by decide +kernel
theorem d_8_passNights_77 : decode prog_10_method_20_code 77 = .ok (.dup2, 1) := by decide +kernel
theorem d_8_passNights_78 : decode prog_10_method_20_code 78 = .ok (.iaload, 1) := by decide +kernel
theorem d_8_passNights_79 : decode prog_10_method_20_code 79 = .ok (.iconst 2, 1) := by decide +kernel
theorem d_8_passNights_80 : decode prog_10_method_20_code 80 = .ok (.iload 4, 2) := by decide +kernel
theorem d_8_passNights_82 : decode prog_10_method_20_code 82 = .ok (.imul, 1) := by decide +kernel
theorem d_8_passNights_83 : decode prog_10_method_20_code 83 = .ok (.iadd, 1) := by decide +kernel
theorem d_8_passNights_84 : decode prog_10_method_20_code 84 = .ok (.iastore, 1) := by decide +kernel
theorem d_8_passNights_85 : decode prog_10_method_20_code 85 = .ok (.iinc 5 1, 3) := by decide +kernel
theorem d_8_passNights_88 : decode prog_10_method_20_code 88 = .ok (.goto (-59), 3) := by decide +kernel
theorem d_8_passNights_91 : decode prog_10_method_20_code 91 = .ok (.iinc 2 1, 3) := by decide +kernel
theorem d_8_passNights_94 : decode prog_10_method_20_code 94 = .ok (.goto (-92), 3) := by decide +kernel
theorem d_8_passNights_97 : decode prog_10_method_20_code 97 = .ok (.aload_n 0, 1) := by decide +kernel
theorem d_8_passNights_98 : decode prog_10_method_20_code 98 = .ok (.dup, 1) := by decide +kernel
theorem d_8_passNights_99 : decode prog_10_method_20_code 99 = .ok (.getfield 78, 3) := by decide +kernel
theorem d_8_passNights_102 : decode prog_10_method_20_code 102 = .ok (.iload_n 1, 1) := by decide +kernel
theorem d_8_passNights_103 : decode prog_10_method_20_code 103 = .ok (.iadd, 1) := by decide +kernel
theorem d_8_passNights_104 : decode prog_10_method_20_code 104 = .ok (.putfield 78, 3) := by decide +kernel
theorem d_8_passNights_107 : decode prog_10_method_20_code 107 = .ok (.return_, 1) := by decide +kernel
def m_8_passNights_29 (r0 : Nat) (x1 : Int32) (x2 : Int32) (r3 : Nat) (x4 : Int32) (B2 : Int32 → St → Prop) (Q : St → Prop) (B29 : Int32 → St → Prop) (x5 : Int32) (σ : St) : Prop :=
  (((σ.1 r3 0) ≤ x5 → ∀ x2_1 : Int32, x2_1 = x2 + 1 → B2 x2_1 σ) ∧ (¬ (σ.1 r3 0) ≤ x5 → vp_in (3 : Int32) 6 ∧ m_9_placeOf (0 : Int32) x5 (fun (v_3 : Int32) (σ_2 : St) => m_6_putDirt r3 v_3 x4 (fun (v_5 : Int32) (σ_4 : St) => m_9_placeOf (1 : Int32) x5 (fun (v_7 : Int32) (σ_6 : St) => m_6_putDirt r3 v_7 x4 (fun (v_9 : Int32) (σ_8 : St) => vp_in (3 : Int32) 6 ∧ ∀ σ_10 : St, σ_10 = wr σ_8 (r0 + 4) ((3 : Int32)).toNatClampNeg ((σ.1 (r0 + 4) ((3 : Int32)).toNatClampNeg) + (v_5 + v_9)) → vp_in (1 : Int32) 6 ∧ vp_in (1 : Int32) 6 ∧ ∀ σ_11 : St, σ_11 = wr σ_10 (r0 + 4) ((1 : Int32)).toNatClampNeg ((σ_10.1 (r0 + 4) ((1 : Int32)).toNatClampNeg) + ((2 : Int32) * x4)) → ∀ x5_12 : Int32, x5_12 = x5 + 1 → B29 x5_12 σ_11) σ_6) σ_4) σ_2) σ))
def m_8_passNights_2 (r0 : Nat) (x1 : Int32) (Q : St → Prop) (B2 : Int32 → St → Prop) (x2 : Int32) (σ : St) : Prop :=
  (((σ.1 r0 1) ≤ x2 → ∀ σ_1 : St, σ_1 = wr σ r0 11 ((σ.1 r0 11) + x1) → Q σ_1) ∧ (¬ (σ.1 r0 1) ≤ x2 → vp_in x2 6 ∧ ∀ r3_3 : Nat, r3_3 = ((r0 + 1) + 5 + 3 * (x2).toNatClampNeg) → m_8_fallOn r0 r3_3 (fun (v_5 : Int32) (σ_4 : St) => ∀ x4_6 : Int32, x4_6 = (v_5 * x1) → itN (m_8_passNights_29 r0 x1 x2 r3_3 x4_6 B2 Q) (fun _ _ => False) FU (0 : Int32) σ_4) σ))
def m_8_passNights (r0 : Nat) (x1 : Int32) (Q : St → Prop) (σ : St) : Prop :=
  itN (m_8_passNights_2 r0 x1 Q) (fun _ _ => False) FU (0 : Int32) σ
theorem d_6_allDirt_0 : decode prog_8_method_5_code 0 = .ok (.aload_n 0, 1) := by decide +kernel
theorem d_6_allDirt_1 : decode prog_8_method_5_code 1 = .ok (.iconst 0, 1) := by decide +kernel
theorem d_6_allDirt_2 : decode prog_8_method_5_code 2 = .ok (.invokevirtual 33, 3) := by decide +kernel
theorem d_6_allDirt_5 : decode prog_8_method_5_code 5 = .ok (.aload_n 0, 1) := by decide +kernel
theorem d_6_allDirt_6 : decode prog_8_method_5_code 6 = .ok (.iconst 1, 1) := by decide +kernel
theorem d_6_allDirt_7 : decode prog_8_method_5_code 7 = .ok (.invokevirtual 33, 3) := by decide +kernel
theorem d_6_allDirt_10 : decode prog_8_method_5_code 10 = .ok (.iadd, 1) := by decide +kernel
theorem d_6_allDirt_11 : decode prog_8_method_5_code 11 = .ok (.ireturn, 1) := by decide +kernel
def m_6_allDirt (r0 : Nat) (Q : Int32 → St → Prop) (σ : St) : Prop :=
  m_6_dirtOfSide r0 (0 : Int32) (fun (v_2 : Int32) (σ_1 : St) => m_6_dirtOfSide r0 (1 : Int32) (fun (v_4 : Int32) (σ_3 : St) => Q (v_2 + v_4) σ_3) σ_1) σ
theorem d_8_dirtOnStreets_0 : decode prog_10_method_6_code 0 = .ok (.iconst 0, 1) := by decide +kernel
theorem d_8_dirtOnStreets_1 : decode prog_10_method_6_code 1 = .ok (.istore_n 1, 1) := by decide +kernel
theorem d_8_dirtOnStreets_2 : decode prog_10_method_6_code 2 = .ok (.iconst 0, 1) := by decide +kernel
theorem d_8_dirtOnStreets_3 : decode prog_10_method_6_code 3 = .ok (.istore_n 2, 1) := by decide +kernel
theorem d_8_dirtOnStreets_4 : decode prog_10_method_6_code 4 = .ok (.iload_n 2, 1) := by decide +kernel
theorem d_8_dirtOnStreets_5 : decode prog_10_method_6_code 5 = .ok (.aload_n 0, 1) := by decide +kernel
theorem d_8_dirtOnStreets_6 : decode prog_10_method_6_code 6 = .ok (.getfield 52, 3) := by decide +kernel
theorem d_8_dirtOnStreets_9 : decode prog_10_method_6_code 9 = .ok (.if_icmp .ge 21, 3) := by decide +kernel
theorem d_8_dirtOnStreets_12 : decode prog_10_method_6_code 12 = .ok (.iload_n 1, 1) := by decide +kernel
theorem d_8_dirtOnStreets_13 : decode prog_10_method_6_code 13 = .ok (.aload_n 0, 1) := by decide +kernel
theorem d_8_dirtOnStreets_14 : decode prog_10_method_6_code 14 = .ok (.getfield 11, 3) := by decide +kernel
theorem d_8_dirtOnStreets_17 : decode prog_10_method_6_code 17 = .ok (.iload_n 2, 1) := by decide +kernel
theorem d_8_dirtOnStreets_18 : decode prog_10_method_6_code 18 = .ok (.aaload, 1) := by decide +kernel
theorem d_8_dirtOnStreets_19 : decode prog_10_method_6_code 19 = .ok (.invokevirtual 88, 3) := by decide +kernel
theorem d_8_dirtOnStreets_22 : decode prog_10_method_6_code 22 = .ok (.iadd, 1) := by decide +kernel
theorem d_8_dirtOnStreets_23 : decode prog_10_method_6_code 23 = .ok (.istore_n 1, 1) := by decide +kernel
theorem d_8_dirtOnStreets_24 : decode prog_10_method_6_code 24 = .ok (.iinc 2 1, 3) := by decide +kernel
theorem d_8_dirtOnStreets_27 : decode prog_10_method_6_code 27 = .ok (.goto (-23), 3) := by decide +kernel
theorem d_8_dirtOnStreets_30 : decode prog_10_method_6_code 30 = .ok (.iload_n 1, 1) := by decide +kernel
theorem d_8_dirtOnStreets_31 : decode prog_10_method_6_code 31 = .ok (.ireturn, 1) := by decide +kernel
def m_8_dirtOnStreets_4 (r0 : Nat) (Q : Int32 → St → Prop) (B4 : Int32 → Int32 → St → Prop) (x1 : Int32) (x2 : Int32) (σ : St) : Prop :=
  (((σ.1 r0 1) ≤ x2 → Q x1 σ) ∧ (¬ (σ.1 r0 1) ≤ x2 → vp_in x2 6 ∧ m_6_allDirt ((r0 + 1) + 5 + 3 * (x2).toNatClampNeg) (fun (v_3 : Int32) (σ_2 : St) => ∀ x1_4 : Int32, x1_4 = (x1 + v_3) → ∀ x2_5 : Int32, x2_5 = x2 + 1 → B4 x1_4 x2_5 σ_2) σ))
def m_8_dirtOnStreets (r0 : Nat) (Q : Int32 → St → Prop) (σ : St) : Prop :=
  itN (m_8_dirtOnStreets_4 r0 Q) (fun _ _ _ => False) FU (0 : Int32) (0 : Int32) σ
theorem d_9_night_0 : decode prog_1_method_17_code 0 = .ok (.iload_n 1, 1) := by decide +kernel
theorem d_9_night_1 : decode prog_1_method_17_code 1 = .ok (.iconst 1, 1) := by decide +kernel
theorem d_9_night_2 : decode prog_1_method_17_code 2 = .ok (.if_icmp .lt 9, 3) := by decide +kernel
theorem d_9_night_5 : decode prog_1_method_17_code 5 = .ok (.iload_n 1, 1) := by decide +kernel
theorem d_9_night_6 : decode prog_1_method_17_code 6 = .ok (.bipush 30, 2) := by decide +kernel
theorem d_9_night_8 : decode prog_1_method_17_code 8 = .ok (.if_icmp .le 5, 3) := by decide +kernel
theorem d_9_night_11 : decode prog_1_method_17_code 11 = .ok (.iconst (-1), 1) := by decide +kernel
theorem d_9_night_12 : decode prog_1_method_17_code 12 = .ok (.ireturn, 1) := by decide +kernel
theorem d_9_night_13 : decode prog_1_method_17_code 13 = .ok (.aload_n 0, 1) := by decide +kernel
theorem d_9_night_14 : decode prog_1_method_17_code 14 = .ok (.getfield 42, 3) := by decide +kernel
theorem d_9_night_17 : decode prog_1_method_17_code 17 = .ok (.aload_n 0, 1) := by decide +kernel
theorem d_9_night_18 : decode prog_1_method_17_code 18 = .ok (.getfield 26, 3) := by decide +kernel
theorem d_9_night_21 : decode prog_1_method_17_code 21 = .ok (.invokevirtual 80, 3) := by decide +kernel
theorem d_9_night_24 : decode prog_1_method_17_code 24 = .ok (.aload_n 0, 1) := by decide +kernel
theorem d_9_night_25 : decode prog_1_method_17_code 25 = .ok (.getfield 26, 3) := by decide +kernel
theorem d_9_night_28 : decode prog_1_method_17_code 28 = .ok (.iload_n 1, 1) := by decide +kernel
theorem d_9_night_29 : decode prog_1_method_17_code 29 = .ok (.invokevirtual 218, 3) := by decide +kernel
theorem d_9_night_32 : decode prog_1_method_17_code 32 = .ok (.aload_n 0, 1) := by decide +kernel
theorem d_9_night_33 : decode prog_1_method_17_code 33 = .ok (.getfield 26, 3) := by decide +kernel
theorem d_9_night_36 : decode prog_1_method_17_code 36 = .ok (.invokevirtual 221, 3) := by decide +kernel
theorem d_9_night_39 : decode prog_1_method_17_code 39 = .ok (.ireturn, 1) := by decide +kernel
def m_9_night (r0 : Nat) (x1 : Int32) (Q : Int32 → St → Prop) (σ : St) : Prop :=
  ((x1 < (1 : Int32) → Q (-1 : Int32) σ) ∧ (¬ x1 < (1 : Int32) → ((x1 ≤ (30 : Int32) → m_0_remember (r0 + 42) (r0 + 7) (fun (σ_1 : St) => m_8_passNights (r0 + 7) x1 (fun (σ_3 : St) => m_8_dirtOnStreets (r0 + 7) (fun (v_6 : Int32) (σ_5 : St) => Q v_6 σ_5) σ_3) σ_1) σ) ∧ (¬ x1 ≤ (30 : Int32) → Q (-1 : Int32) σ))))
theorem d_6_washSide_0 : decode prog_8_method_10_code 0 = .ok (.iconst 0, 1) := by decide +kernel
theorem d_6_washSide_1 : decode prog_8_method_10_code 1 = .ok (.istore_n 3, 1) := by decide +kernel
theorem d_6_washSide_2 : decode prog_8_method_10_code 2 = .ok (.aload_n 0, 1) := by decide +kernel
theorem d_6_washSide_3 : decode prog_8_method_10_code 3 = .ok (.getfield 19, 3) := by decide +kernel
theorem d_6_washSide_6 : decode prog_8_method_10_code 6 = .ok (.iconst 1, 1) := by decide +kernel
theorem d_6_washSide_7 : decode prog_8_method_10_code 7 = .ok (.isub, 1) := by decide +kernel
theorem d_6_washSide_8 : decode prog_8_method_10_code 8 = .ok (.istore 4, 2) := by decide +kernel
theorem d_6_washSide_10 : decode prog_8_method_10_code 10 = .ok (.iload 4, 2) := by decide +kernel
theorem d_6_washSide_12 : decode prog_8_method_10_code 12 = .ok (.ifCond .lt 86, 3) := by decide +kernel
theorem d_6_washSide_15 : decode prog_8_method_10_code 15 = .ok (.iload_n 1, 1) := by decide +kernel
theorem d_6_washSide_16 : decode prog_8_method_10_code 16 = .ok (.iload 4, 2) := by decide +kernel
theorem d_6_washSide_18 : decode prog_8_method_10_code 18 = .ok (.invokestatic 29, 3) := by decide +kernel
theorem d_6_washSide_21 : decode prog_8_method_10_code 21 = .ok (.istore 5, 2) := by decide +kernel
theorem d_6_washSide_23 : decode prog_8_method_10_code 23 = .ok (.aload_n 0, 1) := by decide +kernel
theorem d_6_washSide_24 : decode prog_8_method_10_code 24 = .ok (.getfield 15, 3) := by decide +kernel
theorem d_6_washSide_27 : decode prog_8_method_10_code 27 = .ok (.iload 5, 2) := by decide +kernel
theorem d_6_washSide_29 : decode prog_8_method_10_code 29 = .ok (.baload, 1) := by decide +kernel
theorem d_6_washSide_30 : decode prog_8_method_10_code 30 = .ok (.ifCond .eq 7, 3) := by decide +kernel
theorem d_6_washSide_33 : decode prog_8_method_10_code 33 = .ok (.iconst 0, 1) := by decide +kernel
theorem d_6_washSide_34 : decode prog_8_method_10_code 34 = .ok (.goto 15, 3) := by decide +kernel
theorem d_6_washSide_37 : decode prog_8_method_10_code 37 = .ok (.aload_n 0, 1) := by decide +kernel
theorem d_6_washSide_38 : decode prog_8_method_10_code 38 = .ok (.getfield 9, 3) := by decide +kernel
theorem d_6_washSide_41 : decode prog_8_method_10_code 41 = .ok (.iload 5, 2) := by decide +kernel
theorem d_6_washSide_43 : decode prog_8_method_10_code 43 = .ok (.iaload, 1) := by decide +kernel
theorem d_6_washSide_44 : decode prog_8_method_10_code 44 = .ok (.iload_n 2, 1) := by decide +kernel
theorem d_6_washSide_45 : decode prog_8_method_10_code 45 = .ok (.imul, 1) := by decide +kernel
theorem d_6_washSide_46 : decode prog_8_method_10_code 46 = .ok (.bipush 100, 2) := by decide +kernel
theorem d_6_washSide_48 : decode prog_8_method_10_code 48 = .ok (.idiv, 1) := by decide +kernel
theorem d_6_washSide_49 : decode prog_8_method_10_code 49 = .ok (.istore 6, 2) := by decide +kernel
theorem d_6_washSide_51 : decode prog_8_method_10_code 51 = .ok (.aload_n 0, 1) := by decide +kernel
theorem d_6_washSide_52 : decode prog_8_method_10_code 52 = .ok (.getfield 9, 3) := by decide +kernel
theorem d_6_washSide_55 : decode prog_8_method_10_code 55 = .ok (.iload 5, 2) := by decide +kernel
theorem d_6_washSide_57 : decode prog_8_method_10_code 57 = .ok (.dup2, 1) := by decide +kernel
theorem d_6_washSide_58 : decode prog_8_method_10_code 58 = .ok (.iaload, 1) := by decide +kernel
theorem d_6_washSide_59 : decode prog_8_method_10_code 59 = .ok (.iload 6, 2) := by decide +kernel
theorem d_6_washSide_61 : decode prog_8_method_10_code 61 = .ok (.isub, 1) := by decide +kernel
theorem d_6_washSide_62 : decode prog_8_method_10_code 62 = .ok (.iastore, 1) := by decide +kernel
theorem d_6_washSide_63 : decode prog_8_method_10_code 63 = .ok (.iload_n 3, 1) := by decide +kernel
theorem d_6_washSide_64 : decode prog_8_method_10_code 64 = .ok (.iload 4, 2) := by decide +kernel
theorem d_6_washSide_66 : decode prog_8_method_10_code 66 = .ok (.aload_n 0, 1) := by decide +kernel
theorem d_6_washSide_67 : decode prog_8_method_10_code 67 = .ok (.getfield 19, 3) := by decide +kernel
theorem d_6_washSide_70 : decode prog_8_method_10_code 70 = .ok (.iconst 1, 1) := by decide +kernel
theorem d_6_washSide_71 : decode prog_8_method_10_code 71 = .ok (.isub, 1) := by decide +kernel
theorem d_6_washSide_72 : decode prog_8_method_10_code 72 = .ok (.if_icmp .ne 8, 3) := by decide +kernel
theorem d_6_washSide_75 : decode prog_8_method_10_code 75 = .ok (.iload 6, 2) := by decide +kernel
theorem d_6_washSide_77 : decode prog_8_method_10_code 77 = .ok (.goto 13, 3) := by decide +kernel
theorem d_6_washSide_80 : decode prog_8_method_10_code 80 = .ok (.aload_n 0, 1) := by decide +kernel
theorem d_6_washSide_81 : decode prog_8_method_10_code 81 = .ok (.iload 5, 2) := by decide +kernel
theorem d_6_washSide_83 : decode prog_8_method_10_code 83 = .ok (.iconst 1, 1) := by decide +kernel
theorem d_6_washSide_84 : decode prog_8_method_10_code 84 = .ok (.iadd, 1) := by decide +kernel
theorem d_6_washSide_85 : decode prog_8_method_10_code 85 = .ok (.iload 6, 2) := by decide +kernel
theorem d_6_washSide_87 : decode prog_8_method_10_code 87 = .ok (.invokevirtual 45, 3) := by decide +kernel
theorem d_6_washSide_90 : decode prog_8_method_10_code 90 = .ok (.iadd, 1) := by decide +kernel
theorem d_6_washSide_91 : decode prog_8_method_10_code 91 = .ok (.istore_n 3, 1) := by decide +kernel
theorem d_6_washSide_92 : decode prog_8_method_10_code 92 = .ok (.iinc 4 (-1), 3) := by decide +kernel
theorem d_6_washSide_95 : decode prog_8_method_10_code 95 = .ok (.goto (-85), 3) := by decide +kernel
theorem d_6_washSide_98 : decode prog_8_method_10_code 98 = .ok (.iload_n 3, 1) := by decide +kernel
theorem d_6_washSide_99 : decode prog_8_method_10_code 99 = .ok (.ireturn, 1) := by decide +kernel
def m_6_washSide_49 (r0 : Nat) (x1 : Int32) (x2 : Int32) (x3 : Int32) (x4 : Int32) (x5 : Int32) (B10 : Int32 → Int32 → St → Prop) (Q : Int32 → St → Prop) (t0 : Int32) (σ : St) : Prop :=
  vp_in x5 40 ∧ vp_in x5 40 ∧ ∀ σ_1 : St, σ_1 = wr σ (r0 + 1) (x5).toNatClampNeg ((σ.1 (r0 + 1) (x5).toNatClampNeg) - t0) → ((¬ x4 = ((σ_1.1 r0 0) - (1 : Int32)) → m_6_putDirt r0 (x5 + (1 : Int32)) t0 (fun (v_3 : Int32) (σ_2 : St) => ∀ x3_4 : Int32, x3_4 = (x3 + v_3) → ∀ x4_5 : Int32, x4_5 = x4 + (-1) → B10 x3_4 x4_5 σ_2) σ_1) ∧ (x4 = ((σ_1.1 r0 0) - (1 : Int32)) → ∀ x3_6 : Int32, x3_6 = (x3 + t0) → ∀ x4_7 : Int32, x4_7 = x4 + (-1) → B10 x3_6 x4_7 σ_1))
def m_6_washSide_10 (r0 : Nat) (x1 : Int32) (x2 : Int32) (Q : Int32 → St → Prop) (B10 : Int32 → Int32 → St → Prop) (x3 : Int32) (x4 : Int32) (σ : St) : Prop :=
  ((x4 < 0 → Q x3 σ) ∧ (¬ x4 < 0 → m_9_placeOf x1 x4 (fun (v_2 : Int32) (σ_1 : St) => vp_in v_2 40 ∧ (((σ_1.1 (r0 + 2) (v_2).toNatClampNeg) = 0 → vp_in v_2 40 ∧ m_6_washSide_49 r0 x1 x2 x3 x4 v_2 B10 Q  (((σ_1.1 (r0 + 1) (v_2).toNatClampNeg) * x2) / (100 : Int32)) σ_1) ∧ (¬ (σ_1.1 (r0 + 2) (v_2).toNatClampNeg) = 0 → m_6_washSide_49 r0 x1 x2 x3 x4 v_2 B10 Q  (0 : Int32) σ_1))) σ))
def m_6_washSide (r0 : Nat) (x1 : Int32) (x2 : Int32) (Q : Int32 → St → Prop) (σ : St) : Prop :=
  ∀ x4_1 : Int32, x4_1 = ((σ.1 r0 0) - (1 : Int32)) → itN (m_6_washSide_10 r0 x1 x2 Q) (fun _ _ _ => False) FU (0 : Int32) x4_1 σ
theorem d_8_washStreets_0 : decode prog_10_method_21_code 0 = .ok (.iconst 0, 1) := by decide +kernel
theorem d_8_washStreets_1 : decode prog_10_method_21_code 1 = .ok (.istore_n 2, 1) := by decide +kernel
theorem d_8_washStreets_2 : decode prog_10_method_21_code 2 = .ok (.iconst 0, 1) := by decide +kernel
theorem d_8_washStreets_3 : decode prog_10_method_21_code 3 = .ok (.istore_n 3, 1) := by decide +kernel
theorem d_8_washStreets_4 : decode prog_10_method_21_code 4 = .ok (.iload_n 3, 1) := by decide +kernel
theorem d_8_washStreets_5 : decode prog_10_method_21_code 5 = .ok (.aload_n 0, 1) := by decide +kernel
theorem d_8_washStreets_6 : decode prog_10_method_21_code 6 = .ok (.getfield 52, 3) := by decide +kernel
theorem d_8_washStreets_9 : decode prog_10_method_21_code 9 = .ok (.if_icmp .ge 35, 3) := by decide +kernel
theorem d_8_washStreets_12 : decode prog_10_method_21_code 12 = .ok (.iload_n 2, 1) := by decide +kernel
theorem d_8_washStreets_13 : decode prog_10_method_21_code 13 = .ok (.aload_n 0, 1) := by decide +kernel
theorem d_8_washStreets_14 : decode prog_10_method_21_code 14 = .ok (.getfield 11, 3) := by decide +kernel
theorem d_8_washStreets_17 : decode prog_10_method_21_code 17 = .ok (.iload_n 3, 1) := by decide +kernel
theorem d_8_washStreets_18 : decode prog_10_method_21_code 18 = .ok (.aaload, 1) := by decide +kernel
theorem d_8_washStreets_19 : decode prog_10_method_21_code 19 = .ok (.iconst 0, 1) := by decide +kernel
theorem d_8_washStreets_20 : decode prog_10_method_21_code 20 = .ok (.iload_n 1, 1) := by decide +kernel
theorem d_8_washStreets_21 : decode prog_10_method_21_code 21 = .ok (.invokevirtual 133, 3) := by decide +kernel
theorem d_8_washStreets_24 : decode prog_10_method_21_code 24 = .ok (.aload_n 0, 1) := by decide +kernel
theorem d_8_washStreets_25 : decode prog_10_method_21_code 25 = .ok (.getfield 11, 3) := by decide +kernel
theorem d_8_washStreets_28 : decode prog_10_method_21_code 28 = .ok (.iload_n 3, 1) := by decide +kernel
theorem d_8_washStreets_29 : decode prog_10_method_21_code 29 = .ok (.aaload, 1) := by decide +kernel
theorem d_8_washStreets_30 : decode prog_10_method_21_code 30 = .ok (.iconst 1, 1) := by decide +kernel
theorem d_8_washStreets_31 : decode prog_10_method_21_code 31 = .ok (.iload_n 1, 1) := by decide +kernel
theorem d_8_washStreets_32 : decode prog_10_method_21_code 32 = .ok (.invokevirtual 133, 3) := by decide +kernel
theorem d_8_washStreets_35 : decode prog_10_method_21_code 35 = .ok (.iadd, 1) := by decide +kernel
theorem d_8_washStreets_36 : decode prog_10_method_21_code 36 = .ok (.iadd, 1) := by decide +kernel
theorem d_8_washStreets_37 : decode prog_10_method_21_code 37 = .ok (.istore_n 2, 1) := by decide +kernel
theorem d_8_washStreets_38 : decode prog_10_method_21_code 38 = .ok (.iinc 3 1, 3) := by decide +kernel
theorem d_8_washStreets_41 : decode prog_10_method_21_code 41 = .ok (.goto (-37), 3) := by decide +kernel
theorem d_8_washStreets_44 : decode prog_10_method_21_code 44 = .ok (.aload_n 0, 1) := by decide +kernel
theorem d_8_washStreets_45 : decode prog_10_method_21_code 45 = .ok (.getfield 27, 3) := by decide +kernel
theorem d_8_washStreets_48 : decode prog_10_method_21_code 48 = .ok (.iconst 4, 1) := by decide +kernel
theorem d_8_washStreets_49 : decode prog_10_method_21_code 49 = .ok (.dup2, 1) := by decide +kernel
theorem d_8_washStreets_50 : decode prog_10_method_21_code 50 = .ok (.iaload, 1) := by decide +kernel
theorem d_8_washStreets_51 : decode prog_10_method_21_code 51 = .ok (.iload_n 2, 1) := by decide +kernel
theorem d_8_washStreets_52 : decode prog_10_method_21_code 52 = .ok (.iadd, 1) := by decide +kernel
theorem d_8_washStreets_53 : decode prog_10_method_21_code 53 = .ok (.iastore, 1) := by decide +kernel
theorem d_8_washStreets_54 : decode prog_10_method_21_code 54 = .ok (.iload_n 2, 1) := by decide +kernel
theorem d_8_washStreets_55 : decode prog_10_method_21_code 55 = .ok (.ireturn, 1) := by decide +kernel
def m_8_washStreets_4 (r0 : Nat) (x1 : Int32) (Q : Int32 → St → Prop) (B4 : Int32 → Int32 → St → Prop) (x2 : Int32) (x3 : Int32) (σ : St) : Prop :=
  (((σ.1 r0 1) ≤ x3 → vp_in (4 : Int32) 6 ∧ vp_in (4 : Int32) 6 ∧ ∀ σ_1 : St, σ_1 = wr σ (r0 + 4) ((4 : Int32)).toNatClampNeg ((σ.1 (r0 + 4) ((4 : Int32)).toNatClampNeg) + x2) → Q x2 σ_1) ∧ (¬ (σ.1 r0 1) ≤ x3 → vp_in x3 6 ∧ m_6_washSide ((r0 + 1) + 5 + 3 * (x3).toNatClampNeg) (0 : Int32) x1 (fun (v_4 : Int32) (σ_3 : St) => vp_in x3 6 ∧ m_6_washSide ((r0 + 1) + 5 + 3 * (x3).toNatClampNeg) (1 : Int32) x1 (fun (v_7 : Int32) (σ_6 : St) => ∀ x2_8 : Int32, x2_8 = (x2 + (v_4 + v_7)) → ∀ x3_9 : Int32, x3_9 = x3 + 1 → B4 x2_8 x3_9 σ_6) σ_3) σ))
def m_8_washStreets (r0 : Nat) (x1 : Int32) (Q : Int32 → St → Prop) (σ : St) : Prop :=
  itN (m_8_washStreets_4 r0 x1 Q) (fun _ _ _ => False) FU (0 : Int32) (0 : Int32) σ
section MB
variable {p : Program} {l : Launch} {e : Env} {R : Room} {s : State} {m : MethodId} {args : Array Value} {below : List Frame} {meth : Method} {c : Code} {cells slots : Nat} {QW : State → Prop}
variable {D : va_G} {ac : Nat → ClassId} {ad : Nat → Nat} {st : SS} {A : Nat → Prop}
set_option maxHeartbeats 4000000 in
set_option maxRecDepth 100000 in
theorem w_8_emptyHopper_0 {r0 : Nat} {Q : St → Prop} {σ : St} {H : Heap} {locs : List Loc} {ls : Array Slot} (S : SC A D ac st p m c prog_10_method_18_code 1 s args "SweeperRounds$World" R cells slots 0 0) (hR : RtV A D ac ad p l e R s m args below meth c prog_10_method_18_code cells slots QW Q) (hk_r0 : kd r0 = 8) (hG : DG A D ac ad s σ H locs) (hl : lv_has ls 1 [(0, .ref (ad r0))]) (hf : m_8_emptyHopper r0 Q σ) : W p l e R s m args below meth c H locs cells slots QW (F0 m 0 ls []) := by
  have hx := S.1.1
  have hb := S.1.2.1
  unfold m_8_emptyHopper at hf
  refine lv_aload_n hx hb d_8_emptyHopper_0 rfl (lv_at hl 0 rfl) ?_
  refine gf_8_27 S hG hk_r0 d_8_emptyHopper_1 ?_
  refine lv_iconst (v := (5 : Int32)) hx hb d_8_emptyHopper_4 (by decide) ?_
  refine lv_dup2_11 hx hb d_8_emptyHopper_5 rfl rfl ?_
  refine mia S hG 27 rfl rfl (kr_8_8 hk_r0) hf.1 d_8_emptyHopper_6 ?_
  have hf := hf.2
  refine lv_aload_n hx hb d_8_emptyHopper_7 rfl (lv_at hl 0 rfl) ?_
  refine gf_8_69 S hG hk_r0 d_8_emptyHopper_8 ?_
  refine lv_iadd hx hb d_8_emptyHopper_11 ?_
  refine mis S hG 27 rfl rfl (kr_8_8 hk_r0) hf.1 d_8_emptyHopper_12 (fun σ_1 eσ_1 H locs hG => ?_)
  have hf := hf.2 σ_1 eσ_1
  refine lv_aload_n hx hb d_8_emptyHopper_13 rfl (lv_at hl 0 rfl) ?_
  refine lv_iconst (v := (0 : Int32)) hx hb d_8_emptyHopper_14 (by decide) ?_
  refine pf_8_69 S hG hk_r0 d_8_emptyHopper_15 (fun σ_2 eσ_2 H locs hG => ?_)
  have hf := hf σ_2 eσ_2
  exact hR _ _ _ _ _ hG hf d_8_emptyHopper_18
theorem c_8_emptyHopper (l : Launch) {D : va_G} {ac : Nat → ClassId} {ad : Nat → Nat} {st : SS} {A : Nat → Prop} {σ : St} {r0 : Nat} {Q : St → Prop} (hk_r0 : kd r0 = 8) (hf : m_8_emptyHopper r0 Q σ) : Met l y_8_emptyHopper (Cond.code y_8_emptyHopper prog_10_method_18_code 1 none :: wA) { frames := 0, cells := 0, slots := 0, locals := 0 } (va_Pc [.ref (ad r0)] (GSt A D ac ad st σ)) (va_Qv Q (GSt A D ac ad st) A) 0 0 A :=
  mkV l (by decide +kernel) rfl [.ref (ad r0)] (Nat.le_of_ble_eq_true rfl) (fun p e s m args below meth c ls QW S hR hG hl => w_8_emptyHopper_0 S hR hk_r0 hG hl hf)
set_option maxHeartbeats 4000000 in
set_option maxRecDepth 100000 in
theorem w_5_finishCell_92 {r0 : Nat} {r1 : Nat} {r2 : Nat} {x3 : Int32} {x4 : Int32} {x5 : Int32} {x6 : Int32} {x7 : Int32} {B20 : Int32 → St → Prop} {Q : Int32 → St → Prop} {σ : St} {H : Heap} {locs : List Loc} {ls : Array Slot} (S : SC A D ac st p m c prog_7_method_6_code 8 s args "SweeperRounds$Round" R cells slots 2 48) (hR : RtI A D ac ad p l e R s m args below meth c prog_7_method_6_code cells slots QW Q) (hk_r0 : kd r0 = 5) (hk_r1 : kd r1 = 1) (hk_r2 : kd r2 = 6) (hB20 : ∀ (x6 : Int32) (σ : St) (H : Heap) (locs : List Loc) (ls : Array Slot), DG A D ac ad s σ H locs → lv_has ls 8 [(0, .ref (ad r0)), (1, .ref (ad r1)), (2, .ref (ad r2)), (3, .int x3), (4, .int x4), (5, .int x5), (6, .int x6)] → B20 x6 σ → W p l e R s m args below meth c H locs cells slots QW (F0 m 20 ls [])) (hG : DG A D ac ad s σ H locs) (hl : lv_has ls 8 [(0, .ref (ad r0)), (1, .ref (ad r1)), (2, .ref (ad r2)), (3, .int x3), (4, .int x4), (5, .int x5), (6, .int x6), (7, .int x7)]) (hf : m_5_finishCell_92 r0 r1 r2 x3 x4 x5 x6 x7 B20 Q σ) : W p l e R s m args below meth c H locs cells slots QW (F0 m 92 ls []) := by
  have hx := S.1.1
  have hb := S.1.2.1
  unfold m_5_finishCell_92 at hf
  refine lv_aload_n hx hb d_5_finishCell_92 rfl (lv_at hl 0 rfl) ?_
  refine lv_iload hx hb d_5_finishCell_93 (lv_at hl 5 rfl) ?_
  refine lv_aload_n hx hb d_5_finishCell_95 rfl (lv_at hl 2 rfl) ?_
  refine iv_5_85 S hl.1 hG hk_r0 (c_5_fits l hk_r0 hk_r2 hf) ⟨Nat.le_of_ble_eq_true rfl, Nat.le_of_ble_eq_true rfl⟩ (Nat.le_of_ble_eq_true rfl) d_5_finishCell_96 (fun v_2 σ_1 hf H locs hG => ?_)
  refine lv_if_ne (tgt := 104) hx hb d_5_finishCell_99 (by decide) (fun hc => ?_) (fun hc => ?_)
  · have hf := hf.1 hc
    refine lv_aload_n hx hb d_5_finishCell_104 rfl (lv_at hl 0 rfl) ?_
    refine gf_5_9 S hG hk_r0 d_5_finishCell_105 ?_
    refine gf_5_15 S hG (kr_5_0 hk_r0) d_5_finishCell_108 ?_
    refine lv_dup hx hb d_5_finishCell_111 rfl ?_
    refine gf_5_89 S hG (kr_8_9 (kr_5_0 hk_r0)) d_5_finishCell_112 ?_
    refine lv_iload hx hb d_5_finishCell_115 (lv_at hl 5 rfl) ?_
    refine lv_iadd hx hb d_5_finishCell_117 ?_
    refine pf_5_89 S hG (kr_8_9 (kr_5_0 hk_r0)) d_5_finishCell_118 (fun σ_3 eσ_3 H locs hG => ?_)
    have hf := hf σ_3 eσ_3
    refine lv_aload_n hx hb d_5_finishCell_121 rfl (lv_at hl 0 rfl) ?_
    refine gf_5_9 S hG hk_r0 d_5_finishCell_122 ?_
    refine gf_5_15 S hG (kr_5_0 hk_r0) d_5_finishCell_125 ?_
    refine lv_dup hx hb d_5_finishCell_128 rfl ?_
    refine gf_5_119 S hG (kr_8_9 (kr_5_0 hk_r0)) d_5_finishCell_129 ?_
    refine lv_iconst (v := (1 : Int32)) hx hb d_5_finishCell_132 (by decide) ?_
    refine lv_iadd hx hb d_5_finishCell_133 ?_
    refine pf_5_119 S hG (kr_8_9 (kr_5_0 hk_r0)) d_5_finishCell_134 (fun σ_4 eσ_4 H locs hG => ?_)
    have hf := hf σ_4 eσ_4
    refine lv_aload_n hx hb d_5_finishCell_137 rfl (lv_at hl 0 rfl) ?_
    refine gf_5_9 S hG hk_r0 d_5_finishCell_138 ?_
    refine iv_5_122 S hl.1 hG (kr_5_0 hk_r0) (c_8_emptyHopper l (kr_5_0 hk_r0) hf) ⟨Nat.le_of_ble_eq_true rfl, Nat.le_of_ble_eq_true rfl⟩ (Nat.le_of_ble_eq_true rfl) d_5_finishCell_141 (fun σ_5 hf H locs hG => ?_)
    refine lv_iload hx hb d_5_finishCell_144 (lv_at hl 7 rfl) ?_
    refine lv_if_eq (tgt := 151) hx hb d_5_finishCell_146 (by decide) (fun hc => ?_) (fun hc => ?_)
    · have hf := hf.1 hc
      obtain ⟨x6_7, ex6_7⟩ : ∃ y : Int32, y = x6 + 1 := ⟨_, rfl⟩
      have hf := hf x6_7 ex6_7
      refine lv_iinc (v := x6_7) (lv' := [(6, .int x6_7), (0, .ref (ad r0)), (1, .ref (ad r1)), (2, .ref (ad r2)), (3, .int x3), (4, .int x4), (5, .int x5), (7, .int x7)]) hx hb d_5_finishCell_151 hl (k := 6) rfl (by rw [ex6_7]; rfl) (by decide) rfl (fun ls hl => ?_)
      refine lv_goto (tgt := 20) hx hb d_5_finishCell_154 (by decide) ?_
      exact hB20 _ _ _ _ _   hG (lv_sub hl [1, 2, 3, 4, 5, 6, 0] rfl) hf
    · have hf := hf.2 hc
      refine lv_iconst (v := (0 : Int32)) hx hb d_5_finishCell_149 (by decide) ?_
      exact hR _ _ _ _ _ _ hG hf d_5_finishCell_150
  · have hf := hf.2 hc
    refine lv_iconst (v := (3 : Int32)) hx hb d_5_finishCell_102 (by decide) ?_
    exact hR _ _ _ _ _ _ hG hf d_5_finishCell_103
set_option maxHeartbeats 4000000 in
set_option maxRecDepth 100000 in
theorem w_5_finishCell_20 {r0 : Nat} {r1 : Nat} {r2 : Nat} {x3 : Int32} {x4 : Int32} {x5 : Int32} {Q : Int32 → St → Prop} {B20 : Int32 → St → Prop} {x6 : Int32} {σ : St} {H : Heap} {locs : List Loc} {ls : Array Slot} (S : SC A D ac st p m c prog_7_method_6_code 8 s args "SweeperRounds$Round" R cells slots 2 48) (hR : RtI A D ac ad p l e R s m args below meth c prog_7_method_6_code cells slots QW Q) (hk_r0 : kd r0 = 5) (hk_r1 : kd r1 = 1) (hk_r2 : kd r2 = 6) (hB20 : ∀ (x6 : Int32) (σ : St) (H : Heap) (locs : List Loc) (ls : Array Slot), DG A D ac ad s σ H locs → lv_has ls 8 [(0, .ref (ad r0)), (1, .ref (ad r1)), (2, .ref (ad r2)), (3, .int x3), (4, .int x4), (5, .int x5), (6, .int x6)] → B20 x6 σ → W p l e R s m args below meth c H locs cells slots QW (F0 m 20 ls [])) (hG : DG A D ac ad s σ H locs) (hl : lv_has ls 8 [(0, .ref (ad r0)), (1, .ref (ad r1)), (2, .ref (ad r2)), (3, .int x3), (4, .int x4), (5, .int x5), (6, .int x6)]) (hf : m_5_finishCell_20 r0 r1 r2 x3 x4 x5 Q B20 x6 σ) : W p l e R s m args below meth c H locs cells slots QW (F0 m 20 ls []) := by
  have hx := S.1.1
  have hb := S.1.2.1
  unfold m_5_finishCell_20 at hf
  refine lv_iload hx hb d_5_finishCell_20 (lv_at hl 6 rfl) ?_
  refine lv_ldc (v := 1000000) hx hb S.1.2.2.2.1 (S.1.2.2.2.2 _ wm_557) d_5_finishCell_22 ?_
  refine lv_icmp_ge (tgt := 157) hx hb d_5_finishCell_24 (by decide) (fun hc => ?_) (fun hc => ?_)
  · have hf := hf.1 hc
    refine lv_iconst (v := (2 : Int32)) hx hb d_5_finishCell_157 (by decide) ?_
    exact hR _ _ _ _ _ _ hG hf d_5_finishCell_158
  · have hf := hf.2 hc
    refine lv_aload_n hx hb d_5_finishCell_27 rfl (lv_at hl 0 rfl) ?_
    refine lv_iload hx hb d_5_finishCell_28 (lv_at hl 4 rfl) ?_
    refine lv_aload_n hx hb d_5_finishCell_30 rfl (lv_at hl 2 rfl) ?_
    refine iv_5_85 S hl.1 hG hk_r0 (c_5_fits l hk_r0 hk_r2 hf) ⟨Nat.le_of_ble_eq_true rfl, Nat.le_of_ble_eq_true rfl⟩ (Nat.le_of_ble_eq_true rfl) d_5_finishCell_31 (fun v_2 σ_1 hf H locs hG => ?_)
    refine lv_if_ne (tgt := 39) hx hb d_5_finishCell_34 (by decide) (fun hc => ?_) (fun hc => ?_)
    · have hf := hf.1 hc
      refine lv_aload_n hx hb d_5_finishCell_39 rfl (lv_at hl 0 rfl) ?_
      refine gf_5_9 S hG hk_r0 d_5_finishCell_40 ?_
      refine gf_5_15 S hG (kr_5_0 hk_r0) d_5_finishCell_43 ?_
      refine lv_dup hx hb d_5_finishCell_46 rfl ?_
      refine gf_5_89 S hG (kr_8_9 (kr_5_0 hk_r0)) d_5_finishCell_47 ?_
      refine lv_iload hx hb d_5_finishCell_50 (lv_at hl 4 rfl) ?_
      refine lv_iadd hx hb d_5_finishCell_52 ?_
      refine pf_5_89 S hG (kr_8_9 (kr_5_0 hk_r0)) d_5_finishCell_53 (fun σ_3 eσ_3 H locs hG => ?_)
      have hf := hf σ_3 eσ_3
      refine lv_aload_n hx hb d_5_finishCell_56 rfl (lv_at hl 0 rfl) ?_
      refine lv_aload_n hx hb d_5_finishCell_57 rfl (lv_at hl 1 rfl) ?_
      refine lv_aload_n hx hb d_5_finishCell_58 rfl (lv_at hl 2 rfl) ?_
      refine lv_iload_n hx hb d_5_finishCell_59 rfl (lv_at hl 3 rfl) ?_
      refine iv_5_112 S hl.1 hG hk_r0 (c_5_sweepOnce l hk_r0 hk_r1 hk_r2 hf) ⟨Nat.le_of_ble_eq_true rfl, Nat.le_of_ble_eq_true rfl⟩ (Nat.le_of_ble_eq_true rfl) d_5_finishCell_60 (fun v_5 σ_4 hf H locs hG => ?_)
      refine lv_istore (lv' := [(7, .int v_5), (0, .ref (ad r0)), (1, .ref (ad r1)), (2, .ref (ad r2)), (3, .int x3), (4, .int x4), (5, .int x5), (6, .int x6)]) hx hb d_5_finishCell_63 hl (by decide) rfl (fun ls hl => ?_)
      refine lv_iload hx hb d_5_finishCell_65 (lv_at hl 0 rfl) ?_
      refine lv_if_eq (tgt := 92) hx hb d_5_finishCell_67 (by decide) (fun hc => ?_) (fun hc => ?_)
      · have hf := hf.1 hc
        exact w_5_finishCell_92 S hR hk_r0 hk_r1 hk_r2   hB20 hG (lv_sub hl [1, 2, 3, 4, 5, 6, 7, 0] rfl) hf
      · have hf := hf.2 hc
        refine lv_aload_n hx hb d_5_finishCell_70 rfl (lv_at hl 2 rfl) ?_
        refine lv_dup hx hb d_5_finishCell_71 rfl ?_
        refine gf_5_37 S hG hk_r1 d_5_finishCell_72 ?_
        refine lv_iconst (v := (1 : Int32)) hx hb d_5_finishCell_75 (by decide) ?_
        refine lv_iadd hx hb d_5_finishCell_76 ?_
        refine pf_5_37 S hG hk_r1 d_5_finishCell_77 (fun σ_6 eσ_6 H locs hG => ?_)
        have hf := hf σ_6 eσ_6
        refine lv_aload_n hx hb d_5_finishCell_80 rfl (lv_at hl 1 rfl) ?_
        refine gf_5_9 S hG hk_r0 d_5_finishCell_81 ?_
        refine iv_5_116 S hl.1 hG (kr_5_0 hk_r0) (c_8_room l (kr_5_0 hk_r0) hf) ⟨Nat.le_of_ble_eq_true rfl, Nat.le_of_ble_eq_true rfl⟩ (Nat.le_of_ble_eq_true rfl) d_5_finishCell_84 (fun v_8 σ_7 hf H locs hG => ?_)
        refine lv_if_le (tgt := 92) hx hb d_5_finishCell_87 (by decide) (fun hc => ?_) (fun hc => ?_)
        · have hf := hf.1 hc
          exact w_5_finishCell_92 S hR hk_r0 hk_r1 hk_r2   hB20 hG (lv_sub hl [1, 2, 3, 4, 5, 6, 7, 0] rfl) hf
        · have hf := hf.2 hc
          refine lv_iconst (v := (0 : Int32)) hx hb d_5_finishCell_90 (by decide) ?_
          exact hR _ _ _ _ _ _ hG hf d_5_finishCell_91
    · have hf := hf.2 hc
      refine lv_iconst (v := (2 : Int32)) hx hb d_5_finishCell_37 (by decide) ?_
      exact hR _ _ _ _ _ _ hG hf d_5_finishCell_38
set_option maxHeartbeats 4000000 in
set_option maxRecDepth 100000 in
theorem lp_5_finishCell_20 {r0 : Nat} {r1 : Nat} {r2 : Nat} {x3 : Int32} {x4 : Int32} {x5 : Int32} {Q : Int32 → St → Prop} (S : SC A D ac st p m c prog_7_method_6_code 8 s args "SweeperRounds$Round" R cells slots 2 48) (hR : RtI A D ac ad p l e R s m args below meth c prog_7_method_6_code cells slots QW Q) (hk_r0 : kd r0 = 5) (hk_r1 : kd r1 = 1) (hk_r2 : kd r2 = 6) : ∀ (n : Nat) (x6 : Int32) (σ : St) (H : Heap) (locs : List Loc) (ls : Array Slot), DG A D ac ad s σ H locs → lv_has ls 8 [(0, .ref (ad r0)), (1, .ref (ad r1)), (2, .ref (ad r2)), (3, .int x3), (4, .int x4), (5, .int x5), (6, .int x6)] → itN (m_5_finishCell_20 r0 r1 r2 x3 x4 x5 Q) (fun _ _ => False) n x6 σ → W p l e R s m args below meth c H locs cells slots QW (F0 m 20 ls []) := by
  intro n
  induction n with
  | zero =>
    intro x6 σ H locs ls  hG hl hf
    exact hf.elim
  | succ n ih =>
    intro x6 σ H locs ls  hG hl hf
    exact w_5_finishCell_20 S hR hk_r0 hk_r1 hk_r2  ih hG hl hf
set_option maxHeartbeats 4000000 in
set_option maxRecDepth 100000 in
theorem w_5_finishCell_0 {r0 : Nat} {r1 : Nat} {r2 : Nat} {x3 : Int32} {Q : Int32 → St → Prop} {σ : St} {H : Heap} {locs : List Loc} {ls : Array Slot} (S : SC A D ac st p m c prog_7_method_6_code 8 s args "SweeperRounds$Round" R cells slots 2 48) (hR : RtI A D ac ad p l e R s m args below meth c prog_7_method_6_code cells slots QW Q) (hk_r0 : kd r0 = 5) (hk_r1 : kd r1 = 1) (hk_r2 : kd r2 = 6) (hG : DG A D ac ad s σ H locs) (hl : lv_has ls 8 [(0, .ref (ad r0)), (1, .ref (ad r1)), (2, .ref (ad r2)), (3, .int x3)]) (hf : m_5_finishCell r0 r1 r2 x3 Q σ) : W p l e R s m args below meth c H locs cells slots QW (F0 m 0 ls []) := by
  have hx := S.1.1
  have hb := S.1.2.1
  unfold m_5_finishCell at hf
  refine lv_aload_n hx hb d_5_finishCell_0 rfl (lv_at hl 0 rfl) ?_
  refine iv_5_108 S hl.1 hG hk_r0 (c_5_unitsForCell l hk_r0 hf) ⟨Nat.le_of_ble_eq_true rfl, Nat.le_of_ble_eq_true rfl⟩ (Nat.le_of_ble_eq_true rfl) d_5_finishCell_1 (fun v_2 σ_1 hf H locs hG => ?_)
  refine lv_istore (lv' := [(4, .int v_2), (0, .ref (ad r0)), (1, .ref (ad r1)), (2, .ref (ad r2)), (3, .int x3)]) hx hb d_5_finishCell_4 hl (by decide) rfl (fun ls hl => ?_)
  refine lv_iconst (v := (2 : Int32)) hx hb d_5_finishCell_6 (by decide) ?_
  refine lv_aload_n hx hb d_5_finishCell_7 rfl (lv_at hl 3 rfl) ?_
  refine iv_5_100 S hl.1 hG hk_r2 (c_6_driveToDump l hk_r2 hf) ⟨Nat.le_of_ble_eq_true rfl, Nat.le_of_ble_eq_true rfl⟩ (Nat.le_of_ble_eq_true rfl) d_5_finishCell_8 (fun v_4 σ_3 hf H locs hG => ?_)
  refine lv_imul hx hb d_5_finishCell_11 ?_
  refine lv_bipush (v := (100 : Int32)) hx hb d_5_finishCell_12 (by decide) ?_
  refine lv_iadd hx hb d_5_finishCell_14 ?_
  refine lv_topi (fun x5_5 ex5_5 => ?_)
  have hf := hf x5_5 ex5_5
  refine lv_istore (lv' := [(5, .int x5_5), (4, .int v_2), (0, .ref (ad r0)), (1, .ref (ad r1)), (2, .ref (ad r2)), (3, .int x3)]) hx hb d_5_finishCell_15 hl (by decide) rfl (fun ls hl => ?_)
  refine lv_iconst (v := (0 : Int32)) hx hb d_5_finishCell_17 (by decide) ?_
  refine lv_istore (lv' := [(6, .int (0 : Int32)), (5, .int x5_5), (4, .int v_2), (0, .ref (ad r0)), (1, .ref (ad r1)), (2, .ref (ad r2)), (3, .int x3)]) hx hb d_5_finishCell_18 hl (by decide) rfl (fun ls hl => ?_)
  exact lp_5_finishCell_20 S hR hk_r0 hk_r1 hk_r2  FU _ _ _ _ _  hG (lv_sub hl [3, 4, 5, 6, 2, 1, 0] rfl) hf
theorem c_5_finishCell (l : Launch) {D : va_G} {ac : Nat → ClassId} {ad : Nat → Nat} {st : SS} {A : Nat → Prop} {σ : St} {r0 : Nat} {r1 : Nat} {r2 : Nat} {x3 : Int32} {Q : Int32 → St → Prop} (hk_r0 : kd r0 = 5) (hk_r1 : kd r1 = 1) (hk_r2 : kd r2 = 6) (hf : m_5_finishCell r0 r1 r2 x3 Q σ) : Met l y_5_finishCell (Cond.code y_5_finishCell prog_7_method_6_code 8 (some .int) :: wA) { frames := 2, cells := 0, slots := 0, locals := 48 } (va_Pc [.ref (ad r0), .ref (ad r1), .ref (ad r2), .int x3] (GSt A D ac ad st σ)) (va_Qi Q (GSt A D ac ad st) A) 0 0 A :=
  mkI l (by decide +kernel) rfl [.ref (ad r0), .ref (ad r1), .ref (ad r2), .int x3] (Nat.le_of_ble_eq_true rfl) (fun p e s m args below meth c ls QW S hR hG hl => w_5_finishCell_0 S hR hk_r0 hk_r1 hk_r2 hG hl hf)
set_option maxHeartbeats 4000000 in
set_option maxRecDepth 100000 in
theorem w_5_endShift_120 {r0 : Nat} {Q : St → Prop} {σ : St} {H : Heap} {locs : List Loc} {ls : Array Slot} (S : SC A D ac st p m c prog_7_method_9_code 1 s args "SweeperRounds$Round" R cells slots 1 20) (hR : RtV A D ac ad p l e R s m args below meth c prog_7_method_9_code cells slots QW Q) (hk_r0 : kd r0 = 5) (hG : DG A D ac ad s σ H locs) (hl : lv_has ls 1 [(0, .ref (ad r0))]) (hf : m_5_endShift_120 r0 Q σ) : W p l e R s m args below meth c H locs cells slots QW (F0 m 120 ls []) := by
  have hx := S.1.1
  have hb := S.1.2.1
  unfold m_5_endShift_120 at hf
  refine lv_aload_n hx hb d_5_endShift_120 rfl (lv_at hl 0 rfl) ?_
  refine gf_5_9 S hG hk_r0 d_5_endShift_121 ?_
  refine lv_dup hx hb d_5_endShift_124 rfl ?_
  refine gf_5_150 S hG (kr_5_0 hk_r0) d_5_endShift_125 ?_
  refine lv_iconst (v := (1 : Int32)) hx hb d_5_endShift_128 (by decide) ?_
  refine lv_iadd hx hb d_5_endShift_129 ?_
  refine pf_5_150 S hG (kr_5_0 hk_r0) d_5_endShift_130 (fun σ_1 eσ_1 H locs hG => ?_)
  have hf := hf σ_1 eσ_1
  refine lv_aload_n hx hb d_5_endShift_133 rfl (lv_at hl 0 rfl) ?_
  refine gf_5_9 S hG hk_r0 d_5_endShift_134 ?_
  refine lv_iconst (v := (1 : Int32)) hx hb d_5_endShift_137 (by decide) ?_
  refine pf_5_153 S hG (kr_5_0 hk_r0) (by unfold isB; decide) d_5_endShift_138 (fun σ_2 eσ_2 H locs hG => ?_)
  have hf := hf σ_2 eσ_2
  exact hR _ _ _ _ _ hG hf d_5_endShift_141
set_option maxHeartbeats 4000000 in
set_option maxRecDepth 100000 in
theorem w_5_endShift_66 {r0 : Nat} {Q : St → Prop} {σ : St} {H : Heap} {locs : List Loc} {ls : Array Slot} (S : SC A D ac st p m c prog_7_method_9_code 1 s args "SweeperRounds$Round" R cells slots 1 20) (hR : RtV A D ac ad p l e R s m args below meth c prog_7_method_9_code cells slots QW Q) (hk_r0 : kd r0 = 5) (hG : DG A D ac ad s σ H locs) (hl : lv_has ls 1 [(0, .ref (ad r0))]) (hf : m_5_endShift_66 r0 Q σ) : W p l e R s m args below meth c H locs cells slots QW (F0 m 66 ls []) := by
  have hx := S.1.1
  have hb := S.1.2.1
  unfold m_5_endShift_66 at hf
  refine lv_aload_n hx hb d_5_endShift_66 rfl (lv_at hl 0 rfl) ?_
  refine gf_5_9 S hG hk_r0 d_5_endShift_67 ?_
  refine gf_5_144 S hG (kr_5_0 hk_r0) d_5_endShift_70 ?_
  refine lv_aload_n hx hb d_5_endShift_73 rfl (lv_at hl 0 rfl) ?_
  refine gf_5_9 S hG hk_r0 d_5_endShift_74 ?_
  refine gf_5_104 S hG (kr_5_0 hk_r0) d_5_endShift_77 ?_
  refine lv_iconst (v := (4 : Int32)) hx hb d_5_endShift_80 (by decide) ?_
  refine mia S hG 26 rfl rfl (kr_8_5 (kr_5_0 hk_r0)) hf.1 d_5_endShift_81 ?_
  have hf := hf.2
  refine lv_icmp_ge (tgt := 120) hx hb d_5_endShift_82 (by decide) (fun hc => ?_) (fun hc => ?_)
  · have hf := hf.1 hc
    exact w_5_endShift_120 S hR hk_r0    hG (lv_sub hl [0] rfl) hf
  · have hf := hf.2 hc
    refine lv_aload_n hx hb d_5_endShift_85 rfl (lv_at hl 0 rfl) ?_
    refine gf_5_9 S hG hk_r0 d_5_endShift_86 ?_
    refine gf_5_104 S hG (kr_5_0 hk_r0) d_5_endShift_89 ?_
    refine lv_iconst (v := (2 : Int32)) hx hb d_5_endShift_92 (by decide) ?_
    refine mia S hG 26 rfl rfl (kr_8_5 (kr_5_0 hk_r0)) hf.1 d_5_endShift_93 ?_
    have hf := hf.2
    refine lv_if_le (tgt := 120) hx hb d_5_endShift_94 (by decide) (fun hc => ?_) (fun hc => ?_)
    · have hf := hf.1 hc
      exact w_5_endShift_120 S hR hk_r0    hG (lv_sub hl [0] rfl) hf
    · have hf := hf.2 hc
      refine lv_aload_n hx hb d_5_endShift_97 rfl (lv_at hl 0 rfl) ?_
      refine gf_5_9 S hG hk_r0 d_5_endShift_98 ?_
      refine lv_sipush (v := (1000 : Int32)) hx hb d_5_endShift_101 (by decide) ?_
      refine pf_5_144 S hG (kr_5_0 hk_r0) d_5_endShift_104 (fun σ_1 eσ_1 H locs hG => ?_)
      have hf := hf σ_1 eσ_1
      refine lv_aload_n hx hb d_5_endShift_107 rfl (lv_at hl 0 rfl) ?_
      refine gf_5_9 S hG hk_r0 d_5_endShift_108 ?_
      refine gf_5_104 S hG (kr_5_0 hk_r0) d_5_endShift_111 ?_
      refine lv_iconst (v := (2 : Int32)) hx hb d_5_endShift_114 (by decide) ?_
      refine lv_dup2_11 hx hb d_5_endShift_115 rfl rfl ?_
      refine mia S hG 26 rfl rfl (kr_8_5 (kr_5_0 hk_r0)) hf.1 d_5_endShift_116 ?_
      have hf := hf.2
      refine lv_iconst (v := (1 : Int32)) hx hb d_5_endShift_117 (by decide) ?_
      refine lv_isub hx hb d_5_endShift_118 ?_
      refine mis S hG 26 rfl rfl (kr_8_5 (kr_5_0 hk_r0)) hf.1 d_5_endShift_119 (fun σ_2 eσ_2 H locs hG => ?_)
      have hf := hf.2 σ_2 eσ_2
      exact w_5_endShift_120 S hR hk_r0    hG (lv_sub hl [0] rfl) hf
set_option maxHeartbeats 4000000 in
set_option maxRecDepth 100000 in
theorem w_5_endShift_38 {r0 : Nat} {Q : St → Prop} {σ : St} {H : Heap} {locs : List Loc} {ls : Array Slot} (S : SC A D ac st p m c prog_7_method_9_code 1 s args "SweeperRounds$Round" R cells slots 1 20) (hR : RtV A D ac ad p l e R s m args below meth c prog_7_method_9_code cells slots QW Q) (hk_r0 : kd r0 = 5) (hG : DG A D ac ad s σ H locs) (hl : lv_has ls 1 [(0, .ref (ad r0))]) (hf : m_5_endShift_38 r0 Q σ) : W p l e R s m args below meth c H locs cells slots QW (F0 m 38 ls []) := by
  have hx := S.1.1
  have hb := S.1.2.1
  unfold m_5_endShift_38 at hf
  refine lv_iconst (v := (2 : Int32)) hx hb d_5_endShift_38 (by decide) ?_
  refine lv_aload_n hx hb d_5_endShift_39 rfl (lv_at hl 0 rfl) ?_
  refine gf_5_9 S hG hk_r0 d_5_endShift_40 ?_
  refine gf_5_140 S hG (kr_5_0 hk_r0) d_5_endShift_43 ?_
  refine lv_imul hx hb d_5_endShift_46 ?_
  refine lv_aload_n hx hb d_5_endShift_47 rfl (lv_at hl 0 rfl) ?_
  refine gf_5_9 S hG hk_r0 d_5_endShift_48 ?_
  refine gf_5_104 S hG (kr_5_0 hk_r0) d_5_endShift_51 ?_
  refine lv_iconst (v := (1 : Int32)) hx hb d_5_endShift_54 (by decide) ?_
  refine mia S hG 26 rfl rfl (kr_8_5 (kr_5_0 hk_r0)) hf.1 d_5_endShift_55 ?_
  have hf := hf.2
  refine lv_icmp_lt (tgt := 66) hx hb d_5_endShift_56 (by decide) (fun hc => ?_) (fun hc => ?_)
  · have hf := hf.1 hc
    exact w_5_endShift_66 S hR hk_r0    hG (lv_sub hl [0] rfl) hf
  · have hf := hf.2 hc
    refine lv_aload_n hx hb d_5_endShift_59 rfl (lv_at hl 0 rfl) ?_
    refine gf_5_9 S hG hk_r0 d_5_endShift_60 ?_
    refine iv_5_122 S hl.1 hG (kr_5_0 hk_r0) (c_8_emptyHopper l (kr_5_0 hk_r0) hf) ⟨Nat.le_of_ble_eq_true rfl, Nat.le_of_ble_eq_true rfl⟩ (Nat.le_of_ble_eq_true rfl) d_5_endShift_63 (fun σ_1 hf H locs hG => ?_)
    exact w_5_endShift_66 S hR hk_r0    hG (lv_sub hl [0] rfl) hf
set_option maxHeartbeats 4000000 in
set_option maxRecDepth 100000 in
theorem w_5_endShift_0 {r0 : Nat} {Q : St → Prop} {σ : St} {H : Heap} {locs : List Loc} {ls : Array Slot} (S : SC A D ac st p m c prog_7_method_9_code 1 s args "SweeperRounds$Round" R cells slots 1 20) (hR : RtV A D ac ad p l e R s m args below meth c prog_7_method_9_code cells slots QW Q) (hk_r0 : kd r0 = 5) (hG : DG A D ac ad s σ H locs) (hl : lv_has ls 1 [(0, .ref (ad r0))]) (hf : m_5_endShift r0 Q σ) : W p l e R s m args below meth c H locs cells slots QW (F0 m 0 ls []) := by
  have hx := S.1.1
  have hb := S.1.2.1
  unfold m_5_endShift at hf
  refine lv_aload_n hx hb d_5_endShift_0 rfl (lv_at hl 0 rfl) ?_
  refine gf_5_26 S hG hk_r0 d_5_endShift_1 ?_
  refine lv_iconst (v := (-1 : Int32)) hx hb d_5_endShift_4 (by decide) ?_
  refine lv_icmp_eq (tgt := 38) hx hb d_5_endShift_5 (by decide) (fun hc => ?_) (fun hc => ?_)
  · have hf := hf.1 hc
    exact w_5_endShift_38 S hR hk_r0    hG (lv_sub hl [0] rfl) hf
  · have hf := hf.2 hc
    refine lv_aload_n hx hb d_5_endShift_8 rfl (lv_at hl 0 rfl) ?_
    refine gf_5_9 S hG hk_r0 d_5_endShift_9 ?_
    refine gf_5_15 S hG (kr_5_0 hk_r0) d_5_endShift_12 ?_
    refine lv_dup hx hb d_5_endShift_15 rfl ?_
    refine gf_5_89 S hG (kr_8_9 (kr_5_0 hk_r0)) d_5_endShift_16 ?_
    refine lv_aload_n hx hb d_5_endShift_19 rfl (lv_at hl 0 rfl) ?_
    refine gf_5_9 S hG hk_r0 d_5_endShift_20 ?_
    refine gf_5_48 S hG (kr_5_0 hk_r0) d_5_endShift_23 ?_
    refine lv_aload_n hx hb d_5_endShift_26 rfl (lv_at hl 0 rfl) ?_
    refine gf_5_26 S hG hk_r0 d_5_endShift_27 ?_
    refine mq3 S hG (kr_8_0 (kr_5_0 hk_r0)) hf.1 d_5_endShift_30 ?_
    have hi_1 := vin_lt hf.1
    have hf := hf.2
    refine iv_5_100 S hl.1 hG (ke_23 (kr_8_0 (kr_5_0 hk_r0)) hi_1) (c_6_driveToDump l (ke_23 (kr_8_0 (kr_5_0 hk_r0)) hi_1) hf) ⟨Nat.le_of_ble_eq_true rfl, Nat.le_of_ble_eq_true rfl⟩ (Nat.le_of_ble_eq_true rfl) d_5_endShift_31 (fun v_3 σ_2 hf H locs hG => ?_)
    refine lv_iadd hx hb d_5_endShift_34 ?_
    refine pf_5_89 S hG (kr_8_9 (kr_5_0 hk_r0)) d_5_endShift_35 (fun σ_4 eσ_4 H locs hG => ?_)
    have hf := hf σ_4 eσ_4
    exact w_5_endShift_38 S hR hk_r0    hG (lv_sub hl [0] rfl) hf
theorem c_5_endShift (l : Launch) {D : va_G} {ac : Nat → ClassId} {ad : Nat → Nat} {st : SS} {A : Nat → Prop} {σ : St} {r0 : Nat} {Q : St → Prop} (hk_r0 : kd r0 = 5) (hf : m_5_endShift r0 Q σ) : Met l y_5_endShift (Cond.code y_5_endShift prog_7_method_9_code 1 none :: wA) { frames := 1, cells := 0, slots := 0, locals := 20 } (va_Pc [.ref (ad r0)] (GSt A D ac ad st σ)) (va_Qv Q (GSt A D ac ad st) A) 0 0 A :=
  mkV l (by decide +kernel) rfl [.ref (ad r0)] (Nat.le_of_ble_eq_true rfl) (fun p e s m args below meth c ls QW S hR hG hl => w_5_endShift_0 S hR hk_r0 hG hl hf)
set_option maxHeartbeats 4000000 in
set_option maxRecDepth 100000 in
theorem w_5_carryOut_187 {r0 : Nat} {Q : St → Prop} {σ : St} {H : Heap} {locs : List Loc} {ls : Array Slot} (S : SC A D ac st p m c prog_7_method_2_code 6 s args "SweeperRounds$Round" R cells slots 3 75) (hR : RtV A D ac ad p l e R s m args below meth c prog_7_method_2_code cells slots QW Q) (hk_r0 : kd r0 = 5) (hG : DG A D ac ad s σ H locs) (hl : lv_has ls 6 [(0, .ref (ad r0))]) (hf : m_5_carryOut_187 r0 Q σ) : W p l e R s m args below meth c H locs cells slots QW (F0 m 187 ls []) := by
  have hx := S.1.1
  have hb := S.1.2.1
  unfold m_5_carryOut_187 at hf
  refine lv_aload_n hx hb d_5_carryOut_187 rfl (lv_at hl 0 rfl) ?_
  refine iv_5_78 S hl.1 hG hk_r0 (c_5_endShift l hk_r0 hf) ⟨Nat.le_of_ble_eq_true rfl, Nat.le_of_ble_eq_true rfl⟩ (Nat.le_of_ble_eq_true rfl) d_5_carryOut_188 (fun σ_1 hf H locs hG => ?_)
  exact hR _ _ _ _ _ hG hf d_5_carryOut_191
set_option maxHeartbeats 4000000 in
set_option maxRecDepth 100000 in
theorem w_5_carryOut_178 {r0 : Nat} {r1 : Nat} {x2 : Int32} {B64 : Int32 → St → Prop} {Q : St → Prop} {t0 : Int32} {t1 : Nat} {σ : St} {H : Heap} {locs : List Loc} {ls : Array Slot} (S : SC A D ac st p m c prog_7_method_2_code 6 s args "SweeperRounds$Round" R cells slots 3 75) (hR : RtV A D ac ad p l e R s m args below meth c prog_7_method_2_code cells slots QW Q) (hk_r0 : kd r0 = 5) (hk_r1 : kd r1 = 4) (hk_t1 : kd t1 = 4) (hB64 : ∀ (x2 : Int32) (σ : St) (H : Heap) (locs : List Loc) (ls : Array Slot), DG A D ac ad s σ H locs → lv_has ls 6 [(0, .ref (ad r0)), (1, .ref (ad r1)), (2, .int x2)] → B64 x2 σ → W p l e R s m args below meth c H locs cells slots QW (F0 m 64 ls [])) (hG : DG A D ac ad s σ H locs) (hl : lv_has ls 6 [(0, .ref (ad r0)), (1, .ref (ad r1)), (2, .int x2)]) (hf : m_5_carryOut_178 r0 r1 x2 B64 Q t0 t1 σ) : W p l e R s m args below meth c H locs cells slots QW (F0 m 178 ls [.int t0, .ref (ad t1)]) := by
  have hx := S.1.1
  have hb := S.1.2.1
  unfold m_5_carryOut_178 at hf
  refine pf_5_75 S hG hk_t1 d_5_carryOut_178 (fun σ_1 eσ_1 H locs hG => ?_)
  have hf := hf σ_1 eσ_1
  obtain ⟨x2_2, ex2_2⟩ : ∃ y : Int32, y = x2 + 1 := ⟨_, rfl⟩
  have hf := hf x2_2 ex2_2
  refine lv_iinc (v := x2_2) (lv' := [(2, .int x2_2), (0, .ref (ad r0)), (1, .ref (ad r1))]) hx hb d_5_carryOut_181 hl (k := 2) rfl (by rw [ex2_2]; rfl) (by decide) rfl (fun ls hl => ?_)
  refine lv_goto (tgt := 64) hx hb d_5_carryOut_184 (by decide) ?_
  exact hB64 _ _ _ _ _   hG (lv_sub hl [1, 2, 0] rfl) hf
set_option maxHeartbeats 4000000 in
set_option maxRecDepth 100000 in
theorem w_5_carryOut_163 {r0 : Nat} {r1 : Nat} {x2 : Int32} {B64 : Int32 → St → Prop} {Q : St → Prop} {σ : St} {H : Heap} {locs : List Loc} {ls : Array Slot} (S : SC A D ac st p m c prog_7_method_2_code 6 s args "SweeperRounds$Round" R cells slots 3 75) (hR : RtV A D ac ad p l e R s m args below meth c prog_7_method_2_code cells slots QW Q) (hk_r0 : kd r0 = 5) (hk_r1 : kd r1 = 4) (hB64 : ∀ (x2 : Int32) (σ : St) (H : Heap) (locs : List Loc) (ls : Array Slot), DG A D ac ad s σ H locs → lv_has ls 6 [(0, .ref (ad r0)), (1, .ref (ad r1)), (2, .int x2)] → B64 x2 σ → W p l e R s m args below meth c H locs cells slots QW (F0 m 64 ls [])) (hG : DG A D ac ad s σ H locs) (hl : lv_has ls 6 [(0, .ref (ad r0)), (1, .ref (ad r1)), (2, .int x2)]) (hf : m_5_carryOut_163 r0 r1 x2 B64 Q σ) : W p l e R s m args below meth c H locs cells slots QW (F0 m 163 ls []) := by
  have hx := S.1.1
  have hb := S.1.2.1
  unfold m_5_carryOut_163 at hf
  refine lv_aload_n hx hb d_5_carryOut_163 rfl (lv_at hl 1 rfl) ?_
  refine lv_aload_n hx hb d_5_carryOut_164 rfl (lv_at hl 1 rfl) ?_
  refine gf_5_45 S hG hk_r1 d_5_carryOut_165 ?_
  refine lv_if_ne (tgt := 177) hx hb d_5_carryOut_168 (by decide) (fun hc => ?_) (fun hc => ?_)
  · have hf := hf.1 hc
    refine lv_iload_n hx hb d_5_carryOut_177 rfl (lv_at hl 2 rfl) ?_
    exact w_5_carryOut_178 S hR hk_r0 hk_r1  hk_r1 hB64 hG (lv_sub hl [0, 1, 2] rfl) hf
  · have hf := hf.2 hc
    refine lv_iload_n hx hb d_5_carryOut_171 rfl (lv_at hl 2 rfl) ?_
    refine lv_iconst (v := (1 : Int32)) hx hb d_5_carryOut_172 (by decide) ?_
    refine lv_iadd hx hb d_5_carryOut_173 ?_
    refine lv_goto (tgt := 178) hx hb d_5_carryOut_174 (by decide) ?_
    exact w_5_carryOut_178 S hR hk_r0 hk_r1  hk_r1 hB64 hG (lv_sub hl [0, 1, 2] rfl) hf
set_option maxHeartbeats 4000000 in
set_option maxRecDepth 100000 in
theorem w_5_carryOut_120 {r0 : Nat} {r1 : Nat} {x2 : Int32} {r3 : Nat} {r4 : Nat} {B64 : Int32 → St → Prop} {Q : St → Prop} {B120 : Int32 → St → Prop} {x5 : Int32} {σ : St} {H : Heap} {locs : List Loc} {ls : Array Slot} (S : SC A D ac st p m c prog_7_method_2_code 6 s args "SweeperRounds$Round" R cells slots 3 75) (hR : RtV A D ac ad p l e R s m args below meth c prog_7_method_2_code cells slots QW Q) (hk_r0 : kd r0 = 5) (hk_r1 : kd r1 = 4) (hk_r3 : kd r3 = 1) (hk_r4 : kd r4 = 6) (hB64 : ∀ (x2 : Int32) (σ : St) (H : Heap) (locs : List Loc) (ls : Array Slot), DG A D ac ad s σ H locs → lv_has ls 6 [(0, .ref (ad r0)), (1, .ref (ad r1)), (2, .int x2)] → B64 x2 σ → W p l e R s m args below meth c H locs cells slots QW (F0 m 64 ls [])) (hB120 : ∀ (x5 : Int32) (σ : St) (H : Heap) (locs : List Loc) (ls : Array Slot), DG A D ac ad s σ H locs → lv_has ls 6 [(0, .ref (ad r0)), (1, .ref (ad r1)), (2, .int x2), (3, .ref (ad r3)), (4, .ref (ad r4)), (5, .int x5)] → B120 x5 σ → W p l e R s m args below meth c H locs cells slots QW (F0 m 120 ls [])) (hG : DG A D ac ad s σ H locs) (hl : lv_has ls 6 [(0, .ref (ad r0)), (1, .ref (ad r1)), (2, .int x2), (3, .ref (ad r3)), (4, .ref (ad r4)), (5, .int x5)]) (hf : m_5_carryOut_120 r0 r1 x2 r3 r4 B64 Q B120 x5 σ) : W p l e R s m args below meth c H locs cells slots QW (F0 m 120 ls []) := by
  have hx := S.1.1
  have hb := S.1.2.1
  unfold m_5_carryOut_120 at hf
  refine lv_iload hx hb d_5_carryOut_120 (lv_at hl 5 rfl) ?_
  refine lv_aload hx hb d_5_carryOut_122 (lv_at hl 4 rfl) ?_
  refine gf_5_59 S hG hk_r4 d_5_carryOut_124 ?_
  refine lv_icmp_ge (tgt := 163) hx hb d_5_carryOut_127 (by decide) (fun hc => ?_) (fun hc => ?_)
  · have hf := hf.1 hc
    exact w_5_carryOut_163 S hR hk_r0 hk_r1   hB64 hG (lv_sub hl [0, 1, 2] rfl) hf
  · have hf := hf.2 hc
    refine lv_aload_n hx hb d_5_carryOut_130 rfl (lv_at hl 1 rfl) ?_
    refine gf_5_45 S hG hk_r1 d_5_carryOut_131 ?_
    refine lv_if_ne (tgt := 163) hx hb d_5_carryOut_134 (by decide) (fun hc => ?_) (fun hc => ?_)
    · have hf := hf.1 hc
      exact w_5_carryOut_163 S hR hk_r0 hk_r1   hB64 hG (lv_sub hl [0, 1, 2] rfl) hf
    · have hf := hf.2 hc
      refine lv_aload_n hx hb d_5_carryOut_137 rfl (lv_at hl 1 rfl) ?_
      refine lv_aload_n hx hb d_5_carryOut_138 rfl (lv_at hl 0 rfl) ?_
      refine lv_aload_n hx hb d_5_carryOut_139 rfl (lv_at hl 3 rfl) ?_
      refine lv_aload hx hb d_5_carryOut_140 (lv_at hl 4 rfl) ?_
      refine lv_aload_n hx hb d_5_carryOut_142 rfl (lv_at hl 3 rfl) ?_
      refine gf_5_64 S hG hk_r3 d_5_carryOut_143 ?_
      refine lv_iload hx hb d_5_carryOut_146 (lv_at hl 5 rfl) ?_
      refine iv_5_67 S hl.1 hG  (c_9_placeOf l  hf) ⟨Nat.le_of_ble_eq_true rfl, Nat.le_of_ble_eq_true rfl⟩ (Nat.le_of_ble_eq_true rfl) d_5_carryOut_148 (fun v_2 σ_1 hf H locs hG => ?_)
      refine iv_5_71 S hl.1 hG hk_r0 (c_5_finishCell l hk_r0 hk_r3 hk_r4 hf) ⟨Nat.le_of_ble_eq_true rfl, Nat.le_of_ble_eq_true rfl⟩ (Nat.le_of_ble_eq_true rfl) d_5_carryOut_151 (fun v_4 σ_3 hf H locs hG => ?_)
      refine pf_5_45 S hG hk_r1 d_5_carryOut_154 (fun σ_5 eσ_5 H locs hG => ?_)
      have hf := hf σ_5 eσ_5
      obtain ⟨x5_6, ex5_6⟩ : ∃ y : Int32, y = x5 + 1 := ⟨_, rfl⟩
      have hf := hf x5_6 ex5_6
      refine lv_iinc (v := x5_6) (lv' := [(5, .int x5_6), (0, .ref (ad r0)), (1, .ref (ad r1)), (2, .int x2), (3, .ref (ad r3)), (4, .ref (ad r4))]) hx hb d_5_carryOut_157 hl (k := 5) rfl (by rw [ex5_6]; rfl) (by decide) rfl (fun ls hl => ?_)
      refine lv_goto (tgt := 120) hx hb d_5_carryOut_160 (by decide) ?_
      exact hB120 _ _ _ _ _   hG (lv_sub hl [1, 2, 3, 4, 5, 0] rfl) hf
set_option maxHeartbeats 4000000 in
set_option maxRecDepth 100000 in
theorem lp_5_carryOut_120 {r0 : Nat} {r1 : Nat} {x2 : Int32} {r3 : Nat} {r4 : Nat} {B64 : Int32 → St → Prop} {Q : St → Prop} (S : SC A D ac st p m c prog_7_method_2_code 6 s args "SweeperRounds$Round" R cells slots 3 75) (hR : RtV A D ac ad p l e R s m args below meth c prog_7_method_2_code cells slots QW Q) (hk_r0 : kd r0 = 5) (hk_r1 : kd r1 = 4) (hk_r3 : kd r3 = 1) (hk_r4 : kd r4 = 6) (hB64 : ∀ (x2 : Int32) (σ : St) (H : Heap) (locs : List Loc) (ls : Array Slot), DG A D ac ad s σ H locs → lv_has ls 6 [(0, .ref (ad r0)), (1, .ref (ad r1)), (2, .int x2)] → B64 x2 σ → W p l e R s m args below meth c H locs cells slots QW (F0 m 64 ls [])) : ∀ (n : Nat) (x5 : Int32) (σ : St) (H : Heap) (locs : List Loc) (ls : Array Slot), DG A D ac ad s σ H locs → lv_has ls 6 [(0, .ref (ad r0)), (1, .ref (ad r1)), (2, .int x2), (3, .ref (ad r3)), (4, .ref (ad r4)), (5, .int x5)] → itN (m_5_carryOut_120 r0 r1 x2 r3 r4 B64 Q) (fun _ _ => False) n x5 σ → W p l e R s m args below meth c H locs cells slots QW (F0 m 120 ls []) := by
  intro n
  induction n with
  | zero =>
    intro x5 σ H locs ls  hG hl hf
    exact hf.elim
  | succ n ih =>
    intro x5 σ H locs ls  hG hl hf
    exact w_5_carryOut_120 S hR hk_r0 hk_r1 hk_r3 hk_r4 hB64 ih hG hl hf
set_option maxHeartbeats 4000000 in
set_option maxRecDepth 100000 in
theorem w_5_carryOut_64 {r0 : Nat} {r1 : Nat} {Q : St → Prop} {B64 : Int32 → St → Prop} {x2 : Int32} {σ : St} {H : Heap} {locs : List Loc} {ls : Array Slot} (S : SC A D ac st p m c prog_7_method_2_code 6 s args "SweeperRounds$Round" R cells slots 3 75) (hR : RtV A D ac ad p l e R s m args below meth c prog_7_method_2_code cells slots QW Q) (hk_r0 : kd r0 = 5) (hk_r1 : kd r1 = 4) (hB64 : ∀ (x2 : Int32) (σ : St) (H : Heap) (locs : List Loc) (ls : Array Slot), DG A D ac ad s σ H locs → lv_has ls 6 [(0, .ref (ad r0)), (1, .ref (ad r1)), (2, .int x2)] → B64 x2 σ → W p l e R s m args below meth c H locs cells slots QW (F0 m 64 ls [])) (hG : DG A D ac ad s σ H locs) (hl : lv_has ls 6 [(0, .ref (ad r0)), (1, .ref (ad r1)), (2, .int x2)]) (hf : m_5_carryOut_64 r0 r1 Q B64 x2 σ) : W p l e R s m args below meth c H locs cells slots QW (F0 m 64 ls []) := by
  have hx := S.1.1
  have hb := S.1.2.1
  unfold m_5_carryOut_64 at hf
  refine lv_iload_n hx hb d_5_carryOut_64 rfl (lv_at hl 2 rfl) ?_
  refine lv_aload_n hx hb d_5_carryOut_65 rfl (lv_at hl 0 rfl) ?_
  refine gf_5_9 S hG hk_r0 d_5_carryOut_66 ?_
  refine gf_5_30 S hG (kr_5_0 hk_r0) d_5_carryOut_69 ?_
  refine lv_icmp_ge (tgt := 187) hx hb d_5_carryOut_72 (by decide) (fun hc => ?_) (fun hc => ?_)
  · have hf := hf.1 hc
    exact w_5_carryOut_187 S hR hk_r0    hG (lv_sub hl [0] rfl) hf
  · have hf := hf.2 hc
    refine lv_aload_n hx hb d_5_carryOut_75 rfl (lv_at hl 1 rfl) ?_
    refine gf_5_45 S hG hk_r1 d_5_carryOut_76 ?_
    refine lv_if_ne (tgt := 187) hx hb d_5_carryOut_79 (by decide) (fun hc => ?_) (fun hc => ?_)
    · have hf := hf.1 hc
      exact w_5_carryOut_187 S hR hk_r0    hG (lv_sub hl [0] rfl) hf
    · have hf := hf.2 hc
      refine lv_aload_n hx hb d_5_carryOut_82 rfl (lv_at hl 0 rfl) ?_
      refine gf_5_9 S hG hk_r0 d_5_carryOut_83 ?_
      refine gf_5_33 S hG (kr_5_0 hk_r0) d_5_carryOut_86 ?_
      refine lv_iload_n hx hb d_5_carryOut_89 rfl (lv_at hl 2 rfl) ?_
      refine mq4 S hG (kr_8_2 (kr_5_0 hk_r0)) hf.1 d_5_carryOut_90 ?_
      have hi_1 := vin_lt hf.1
      have hf := hf.2
      refine lv_topr (fun r3_2 er3_2 => ?_)
      have hf := hf r3_2 er3_2
      have hk_r3_2 : kd r3_2 = 1 := er3_2 ▸ (ke_24 (kr_8_2 (kr_5_0 hk_r0)) hi_1)
      refine lv_astore_n (lv' := [(3, .ref (ad r3_2)), (0, .ref (ad r0)), (1, .ref (ad r1)), (2, .int x2)]) hx hb d_5_carryOut_91 rfl hl (by decide) rfl (fun ls hl => ?_)
      refine lv_aload_n hx hb d_5_carryOut_92 rfl (lv_at hl 1 rfl) ?_
      refine gf_5_9 S hG hk_r0 d_5_carryOut_93 ?_
      refine gf_5_48 S hG (kr_5_0 hk_r0) d_5_carryOut_96 ?_
      refine lv_aload_n hx hb d_5_carryOut_99 rfl (lv_at hl 0 rfl) ?_
      refine gf_5_52 S hG hk_r3_2 d_5_carryOut_100 ?_
      refine mq3 S hG (kr_8_0 (kr_5_0 hk_r0)) hf.1 d_5_carryOut_103 ?_
      have hi_3 := vin_lt hf.1
      have hf := hf.2
      refine lv_topr (fun r4_4 er4_4 => ?_)
      have hf := hf r4_4 er4_4
      have hk_r4_4 : kd r4_4 = 6 := er4_4 ▸ (ke_23 (kr_8_0 (kr_5_0 hk_r0)) hi_3)
      refine lv_astore (lv' := [(4, .ref (ad r4_4)), (3, .ref (ad r3_2)), (0, .ref (ad r0)), (1, .ref (ad r1)), (2, .int x2)]) hx hb d_5_carryOut_104 hl (by decide) rfl (fun ls hl => ?_)
      refine lv_aload_n hx hb d_5_carryOut_106 rfl (lv_at hl 3 rfl) ?_
      refine lv_aload_n hx hb d_5_carryOut_107 rfl (lv_at hl 2 rfl) ?_
      refine lv_aload_n hx hb d_5_carryOut_108 rfl (lv_at hl 1 rfl) ?_
      refine lv_aload hx hb d_5_carryOut_109 (lv_at hl 0 rfl) ?_
      refine iv_5_55 S hl.1 hG hk_r0 (c_5_driveToLeg l hk_r0 hk_r3_2 hk_r4_4 hf) ⟨Nat.le_of_ble_eq_true rfl, Nat.le_of_ble_eq_true rfl⟩ (Nat.le_of_ble_eq_true rfl) d_5_carryOut_111 (fun v_6 σ_5 hf H locs hG => ?_)
      refine pf_5_45 S hG hk_r1 d_5_carryOut_114 (fun σ_7 eσ_7 H locs hG => ?_)
      have hf := hf σ_7 eσ_7
      refine lv_iconst (v := (0 : Int32)) hx hb d_5_carryOut_117 (by decide) ?_
      refine lv_istore (lv' := [(5, .int (0 : Int32)), (4, .ref (ad r4_4)), (3, .ref (ad r3_2)), (0, .ref (ad r0)), (1, .ref (ad r1)), (2, .int x2)]) hx hb d_5_carryOut_118 hl (by decide) rfl (fun ls hl => ?_)
      exact lp_5_carryOut_120 S hR hk_r0 hk_r1 hk_r3_2 hk_r4_4 hB64 FU _ _ _ _ _  hG (lv_sub hl [3, 4, 5, 2, 1, 0] rfl) hf
set_option maxHeartbeats 4000000 in
set_option maxRecDepth 100000 in
theorem lp_5_carryOut_64 {r0 : Nat} {r1 : Nat} {Q : St → Prop} (S : SC A D ac st p m c prog_7_method_2_code 6 s args "SweeperRounds$Round" R cells slots 3 75) (hR : RtV A D ac ad p l e R s m args below meth c prog_7_method_2_code cells slots QW Q) (hk_r0 : kd r0 = 5) (hk_r1 : kd r1 = 4) : ∀ (n : Nat) (x2 : Int32) (σ : St) (H : Heap) (locs : List Loc) (ls : Array Slot), DG A D ac ad s σ H locs → lv_has ls 6 [(0, .ref (ad r0)), (1, .ref (ad r1)), (2, .int x2)] → itN (m_5_carryOut_64 r0 r1 Q) (fun _ _ => False) n x2 σ → W p l e R s m args below meth c H locs cells slots QW (F0 m 64 ls []) := by
  intro n
  induction n with
  | zero =>
    intro x2 σ H locs ls  hG hl hf
    exact hf.elim
  | succ n ih =>
    intro x2 σ H locs ls  hG hl hf
    exact w_5_carryOut_64 S hR hk_r0 hk_r1  ih hG hl hf
set_option maxHeartbeats 4000000 in
set_option maxRecDepth 100000 in
theorem w_5_carryOut_19 {r0 : Nat} {r1 : Nat} {Q : St → Prop} {B19 : Int32 → St → Prop} {x2 : Int32} {σ : St} {H : Heap} {locs : List Loc} {ls : Array Slot} (S : SC A D ac st p m c prog_7_method_2_code 6 s args "SweeperRounds$Round" R cells slots 3 75) (hR : RtV A D ac ad p l e R s m args below meth c prog_7_method_2_code cells slots QW Q) (hk_r0 : kd r0 = 5) (hk_r1 : kd r1 = 4) (hB19 : ∀ (x2 : Int32) (σ : St) (H : Heap) (locs : List Loc) (ls : Array Slot), DG A D ac ad s σ H locs → lv_has ls 6 [(0, .ref (ad r0)), (1, .ref (ad r1)), (2, .int x2)] → B19 x2 σ → W p l e R s m args below meth c H locs cells slots QW (F0 m 19 ls [])) (hG : DG A D ac ad s σ H locs) (hl : lv_has ls 6 [(0, .ref (ad r0)), (1, .ref (ad r1)), (2, .int x2)]) (hf : m_5_carryOut_19 r0 r1 Q B19 x2 σ) : W p l e R s m args below meth c H locs cells slots QW (F0 m 19 ls []) := by
  have hx := S.1.1
  have hb := S.1.2.1
  unfold m_5_carryOut_19 at hf
  refine lv_iload_n hx hb d_5_carryOut_19 rfl (lv_at hl 2 rfl) ?_
  refine lv_aload_n hx hb d_5_carryOut_20 rfl (lv_at hl 0 rfl) ?_
  refine gf_5_9 S hG hk_r0 d_5_carryOut_21 ?_
  refine gf_5_30 S hG (kr_5_0 hk_r0) d_5_carryOut_24 ?_
  refine lv_icmp_ge (tgt := 62) hx hb d_5_carryOut_27 (by decide) (fun hc => ?_) (fun hc => ?_)
  · have hf := hf.1 hc
    refine lv_iconst (v := (0 : Int32)) hx hb d_5_carryOut_62 (by decide) ?_
    refine lv_istore_n (lv' := [(2, .int (0 : Int32)), (0, .ref (ad r0)), (1, .ref (ad r1))]) hx hb d_5_carryOut_63 rfl hl (by decide) rfl (fun ls hl => ?_)
    exact lp_5_carryOut_64 S hR hk_r0 hk_r1  FU _ _ _ _ _  hG (lv_sub hl [1, 2, 0] rfl) hf
  · have hf := hf.2 hc
    refine lv_aload_n hx hb d_5_carryOut_30 rfl (lv_at hl 0 rfl) ?_
    refine gf_5_9 S hG hk_r0 d_5_carryOut_31 ?_
    refine gf_5_33 S hG (kr_5_0 hk_r0) d_5_carryOut_34 ?_
    refine lv_iload_n hx hb d_5_carryOut_37 rfl (lv_at hl 2 rfl) ?_
    refine mq4 S hG (kr_8_2 (kr_5_0 hk_r0)) hf.1 d_5_carryOut_38 ?_
    have hi_1 := vin_lt hf.1
    have hf := hf.2
    refine lv_iconst (v := (0 : Int32)) hx hb d_5_carryOut_39 (by decide) ?_
    refine pf_5_37 S hG (ke_24 (kr_8_2 (kr_5_0 hk_r0)) hi_1) d_5_carryOut_40 (fun σ_2 eσ_2 H locs hG => ?_)
    have hf := hf σ_2 eσ_2
    refine lv_aload_n hx hb d_5_carryOut_43 rfl (lv_at hl 0 rfl) ?_
    refine gf_5_9 S hG hk_r0 d_5_carryOut_44 ?_
    refine gf_5_33 S hG (kr_5_0 hk_r0) d_5_carryOut_47 ?_
    refine lv_iload_n hx hb d_5_carryOut_50 rfl (lv_at hl 2 rfl) ?_
    refine mq4 S hG (kr_8_2 (kr_5_0 hk_r0)) hf.1 d_5_carryOut_51 ?_
    have hi_3 := vin_lt hf.1
    have hf := hf.2
    refine lv_iconst (v := (0 : Int32)) hx hb d_5_carryOut_52 (by decide) ?_
    refine pf_5_42 S hG (ke_24 (kr_8_2 (kr_5_0 hk_r0)) hi_3) d_5_carryOut_53 (fun σ_4 eσ_4 H locs hG => ?_)
    have hf := hf σ_4 eσ_4
    obtain ⟨x2_5, ex2_5⟩ : ∃ y : Int32, y = x2 + 1 := ⟨_, rfl⟩
    have hf := hf x2_5 ex2_5
    refine lv_iinc (v := x2_5) (lv' := [(2, .int x2_5), (0, .ref (ad r0)), (1, .ref (ad r1))]) hx hb d_5_carryOut_56 hl (k := 2) rfl (by rw [ex2_5]; rfl) (by decide) rfl (fun ls hl => ?_)
    refine lv_goto (tgt := 19) hx hb d_5_carryOut_59 (by decide) ?_
    exact hB19 _ _ _ _ _   hG (lv_sub hl [1, 2, 0] rfl) hf
set_option maxHeartbeats 4000000 in
set_option maxRecDepth 100000 in
theorem lp_5_carryOut_19 {r0 : Nat} {r1 : Nat} {Q : St → Prop} (S : SC A D ac st p m c prog_7_method_2_code 6 s args "SweeperRounds$Round" R cells slots 3 75) (hR : RtV A D ac ad p l e R s m args below meth c prog_7_method_2_code cells slots QW Q) (hk_r0 : kd r0 = 5) (hk_r1 : kd r1 = 4) : ∀ (n : Nat) (x2 : Int32) (σ : St) (H : Heap) (locs : List Loc) (ls : Array Slot), DG A D ac ad s σ H locs → lv_has ls 6 [(0, .ref (ad r0)), (1, .ref (ad r1)), (2, .int x2)] → itN (m_5_carryOut_19 r0 r1 Q) (fun _ _ => False) n x2 σ → W p l e R s m args below meth c H locs cells slots QW (F0 m 19 ls []) := by
  intro n
  induction n with
  | zero =>
    intro x2 σ H locs ls  hG hl hf
    exact hf.elim
  | succ n ih =>
    intro x2 σ H locs ls  hG hl hf
    exact w_5_carryOut_19 S hR hk_r0 hk_r1  ih hG hl hf
set_option maxHeartbeats 4000000 in
set_option maxRecDepth 100000 in
theorem w_5_carryOut_0 {r0 : Nat} {Q : St → Prop} {σ : St} {H : Heap} {locs : List Loc} {ls : Array Slot} (S : SC A D ac st p m c prog_7_method_2_code 6 s args "SweeperRounds$Round" R cells slots 3 75) (hR : RtV A D ac ad p l e R s m args below meth c prog_7_method_2_code cells slots QW Q) (hk_r0 : kd r0 = 5) (hG : DG A D ac ad s σ H locs) (hl : lv_has ls 6 [(0, .ref (ad r0))]) (hf : m_5_carryOut r0 Q σ) : W p l e R s m args below meth c H locs cells slots QW (F0 m 0 ls []) := by
  have hx := S.1.1
  have hb := S.1.2.1
  unfold m_5_carryOut at hf
  refine lv_aload_n hx hb d_5_carryOut_0 rfl (lv_at hl 0 rfl) ?_
  refine gf_5_9 S hG hk_r0 d_5_carryOut_1 ?_
  refine gf_5_15 S hG (kr_5_0 hk_r0) d_5_carryOut_4 ?_
  refine lv_topr (fun r1_1 er1_1 => ?_)
  have hf := hf r1_1 er1_1
  have hk_r1_1 : kd r1_1 = 4 := er1_1 ▸ (kr_8_9 (kr_5_0 hk_r0))
  refine lv_astore_n (lv' := [(1, .ref (ad r1_1)), (0, .ref (ad r0))]) hx hb d_5_carryOut_7 rfl hl (by decide) rfl (fun ls hl => ?_)
  refine lv_aload_n hx hb d_5_carryOut_8 rfl (lv_at hl 0 rfl) ?_
  refine iv_5_21 S hl.1 hG hk_r1_1 (c_4_clear l hk_r1_1 hf) ⟨Nat.le_of_ble_eq_true rfl, Nat.le_of_ble_eq_true rfl⟩ (Nat.le_of_ble_eq_true rfl) d_5_carryOut_9 (fun σ_2 hf H locs hG => ?_)
  refine lv_aload_n hx hb d_5_carryOut_12 rfl (lv_at hl 1 rfl) ?_
  refine lv_iconst (v := (-1 : Int32)) hx hb d_5_carryOut_13 (by decide) ?_
  refine pf_5_26 S hG hk_r0 d_5_carryOut_14 (fun σ_4 eσ_4 H locs hG => ?_)
  have hf := hf σ_4 eσ_4
  refine lv_iconst (v := (0 : Int32)) hx hb d_5_carryOut_17 (by decide) ?_
  refine lv_istore_n (lv' := [(2, .int (0 : Int32)), (1, .ref (ad r1_1)), (0, .ref (ad r0))]) hx hb d_5_carryOut_18 rfl hl (by decide) rfl (fun ls hl => ?_)
  exact lp_5_carryOut_19 S hR hk_r0 hk_r1_1  FU _ _ _ _ _  hG (lv_sub hl [2, 1, 0] rfl) hf
theorem c_5_carryOut (l : Launch) {D : va_G} {ac : Nat → ClassId} {ad : Nat → Nat} {st : SS} {A : Nat → Prop} {σ : St} {r0 : Nat} {Q : St → Prop} (hk_r0 : kd r0 = 5) (hf : m_5_carryOut r0 Q σ) : Met l y_5_carryOut (Cond.code y_5_carryOut prog_7_method_2_code 6 none :: wA) { frames := 3, cells := 0, slots := 0, locals := 75 } (va_Pc [.ref (ad r0)] (GSt A D ac ad st σ)) (va_Qv Q (GSt A D ac ad st) A) 0 0 A :=
  mkV l (by decide +kernel) rfl [.ref (ad r0)] (Nat.le_of_ble_eq_true rfl) (fun p e s m args below meth c ls QW S hR hG hl => w_5_carryOut_0 S hR hk_r0 hG hl hf)
set_option maxHeartbeats 4000000 in
set_option maxRecDepth 100000 in
theorem w_9_shift_0 {r0 : Nat} {Q : Int32 → St → Prop} {σ : St} {H : Heap} {locs : List Loc} {ls : Array Slot} (S : SC A D ac st p m c prog_1_method_16_code 1 s args "SweeperRounds" R cells slots 4 100) (hR : RtI A D ac ad p l e R s m args below meth c prog_1_method_16_code cells slots QW Q) (hk_r0 : kd r0 = 9) (hG : DG A D ac ad s σ H locs) (hl : lv_has ls 1 [(0, .ref (ad r0))]) (hf : m_9_shift r0 Q σ) : W p l e R s m args below meth c H locs cells slots QW (F0 m 0 ls []) := by
  have hx := S.1.1
  have hb := S.1.2.1
  unfold m_9_shift at hf
  refine lv_aload_n hx hb d_9_shift_0 rfl (lv_at hl 0 rfl) ?_
  refine gf_9_42 S hG hk_r0 d_9_shift_1 ?_
  refine lv_aload_n hx hb d_9_shift_4 rfl (lv_at hl 0 rfl) ?_
  refine gf_9_26 S hG hk_r0 d_9_shift_5 ?_
  refine iv_9_80 S hl.1 hG (kr_9_4 hk_r0) (c_0_remember l (kr_9_4 hk_r0) (kr_9_2 hk_r0) hf) ⟨Nat.le_of_ble_eq_true rfl, Nat.le_of_ble_eq_true rfl⟩ (Nat.le_of_ble_eq_true rfl) d_9_shift_8 (fun σ_1 hf H locs hG => ?_)
  refine lv_aload_n hx hb d_9_shift_11 rfl (lv_at hl 0 rfl) ?_
  refine gf_9_35 S hG hk_r0 d_9_shift_12 ?_
  refine iv_9_208 S hl.1 hG (kr_9_3 hk_r0) (c_5_carryOut l (kr_9_3 hk_r0) hf) ⟨Nat.le_of_ble_eq_true rfl, Nat.le_of_ble_eq_true rfl⟩ (Nat.le_of_ble_eq_true rfl) d_9_shift_15 (fun σ_3 hf H locs hG => ?_)
  refine lv_aload_n hx hb d_9_shift_18 rfl (lv_at hl 0 rfl) ?_
  refine gf_9_26 S hG hk_r0 d_9_shift_19 ?_
  refine gf_9_211 S hG (kr_9_2 hk_r0) d_9_shift_22 ?_
  refine gf_9_215 S hG (kr_8_9 (kr_9_2 hk_r0)) d_9_shift_25 ?_
  exact hR _ _ _ _ _ _ hG hf d_9_shift_28
theorem c_9_shift (l : Launch) {D : va_G} {ac : Nat → ClassId} {ad : Nat → Nat} {st : SS} {A : Nat → Prop} {σ : St} {r0 : Nat} {Q : Int32 → St → Prop} (hk_r0 : kd r0 = 9) (hf : m_9_shift r0 Q σ) : Met l y_9_shift (Cond.code y_9_shift prog_1_method_16_code 1 (some .int) :: wA) { frames := 4, cells := 0, slots := 0, locals := 100 } (va_Pc [.ref (ad r0)] (GSt A D ac ad st σ)) (va_Qi Q (GSt A D ac ad st) A) 0 0 A :=
  mkI l (by decide +kernel) rfl [.ref (ad r0)] (Nat.le_of_ble_eq_true rfl) (fun p e s m args below meth c ls QW S hR hG hl => w_9_shift_0 S hR hk_r0 hG hl hf)
set_option maxHeartbeats 4000000 in
set_option maxRecDepth 100000 in
theorem w_8_fallOn_0 {r0 : Nat} {r1 : Nat} {Q : Int32 → St → Prop} {σ : St} {H : Heap} {locs : List Loc} {ls : Array Slot} (S : SC A D ac st p m c prog_10_method_19_code 2 s args "SweeperRounds$World" R cells slots 0 0) (hR : RtI A D ac ad p l e R s m args below meth c prog_10_method_19_code cells slots QW Q) (hk_r0 : kd r0 = 8) (hk_r1 : kd r1 = 6) (hG : DG A D ac ad s σ H locs) (hl : lv_has ls 2 [(0, .ref (ad r0)), (1, .ref (ad r1))]) (hf : m_8_fallOn r0 r1 Q σ) : W p l e R s m args below meth c H locs cells slots QW (F0 m 0 ls []) := by
  have hx := S.1.1
  have hb := S.1.2.1
  unfold m_8_fallOn at hf
  refine lv_aload_n hx hb d_8_fallOn_0 rfl (lv_at hl 1 rfl) ?_
  refine gf_8_101 S hG hk_r1 d_8_fallOn_1 ?_
  refine lv_aload_n hx hb d_8_fallOn_4 rfl (lv_at hl 0 rfl) ?_
  refine gf_8_23 S hG hk_r0 d_8_fallOn_5 ?_
  refine lv_iconst (v := (5 : Int32)) hx hb d_8_fallOn_8 (by decide) ?_
  refine mia S hG 26 rfl rfl (kr_8_5 hk_r0) hf.1 d_8_fallOn_9 ?_
  have hf := hf.2
  refine lv_imul hx hb d_8_fallOn_10 ?_
  refine lv_bipush (v := (100 : Int32)) hx hb d_8_fallOn_11 (by decide) ?_
  refine lv_idiv hx hb d_8_fallOn_13 (by decide) ?_
  exact hR _ _ _ _ _ _ hG hf d_8_fallOn_14
theorem c_8_fallOn (l : Launch) {D : va_G} {ac : Nat → ClassId} {ad : Nat → Nat} {st : SS} {A : Nat → Prop} {σ : St} {r0 : Nat} {r1 : Nat} {Q : Int32 → St → Prop} (hk_r0 : kd r0 = 8) (hk_r1 : kd r1 = 6) (hf : m_8_fallOn r0 r1 Q σ) : Met l y_8_fallOn (Cond.code y_8_fallOn prog_10_method_19_code 2 (some .int) :: wA) { frames := 0, cells := 0, slots := 0, locals := 0 } (va_Pc [.ref (ad r0), .ref (ad r1)] (GSt A D ac ad st σ)) (va_Qi Q (GSt A D ac ad st) A) 0 0 A :=
  mkI l (by decide +kernel) rfl [.ref (ad r0), .ref (ad r1)] (Nat.le_of_ble_eq_true rfl) (fun p e s m args below meth c ls QW S hR hG hl => w_8_fallOn_0 S hR hk_r0 hk_r1 hG hl hf)
set_option maxHeartbeats 4000000 in
set_option maxRecDepth 100000 in
theorem w_6_putDirt_0 {r0 : Nat} {x1 : Int32} {x2 : Int32} {Q : Int32 → St → Prop} {σ : St} {H : Heap} {locs : List Loc} {ls : Array Slot} (S : SC A D ac st p m c prog_8_method_9_code 4 s args "SweeperRounds$Street" R cells slots 1 15) (hR : RtI A D ac ad p l e R s m args below meth c prog_8_method_9_code cells slots QW Q) (hk_r0 : kd r0 = 6) (hG : DG A D ac ad s σ H locs) (hl : lv_has ls 4 [(0, .ref (ad r0)), (1, .int x1), (2, .int x2)]) (hf : m_6_putDirt r0 x1 x2 Q σ) : W p l e R s m args below meth c H locs cells slots QW (F0 m 0 ls []) := by
  have hx := S.1.1
  have hb := S.1.2.1
  unfold m_6_putDirt at hf
  refine lv_aload_n hx hb d_6_putDirt_0 rfl (lv_at hl 0 rfl) ?_
  refine gf_6_9 S hG hk_r0 d_6_putDirt_1 ?_
  refine lv_iload_n hx hb d_6_putDirt_4 rfl (lv_at hl 1 rfl) ?_
  refine mia S hG 20 rfl rfl (kr_6_3 hk_r0) hf.1 d_6_putDirt_5 ?_
  have hf := hf.2
  refine lv_iload_n hx hb d_6_putDirt_6 rfl (lv_at hl 2 rfl) ?_
  refine lv_iadd hx hb d_6_putDirt_7 ?_
  refine lv_topi (fun x3_1 ex3_1 => ?_)
  have hf := hf x3_1 ex3_1
  refine lv_istore_n (lv' := [(3, .int x3_1), (0, .ref (ad r0)), (1, .int x1), (2, .int x2)]) hx hb d_6_putDirt_8 rfl hl (by decide) rfl (fun ls hl => ?_)
  refine lv_aload_n hx hb d_6_putDirt_9 rfl (lv_at hl 1 rfl) ?_
  refine gf_6_9 S hG hk_r0 d_6_putDirt_10 ?_
  refine lv_iload_n hx hb d_6_putDirt_13 rfl (lv_at hl 2 rfl) ?_
  refine lv_iload_n hx hb d_6_putDirt_14 rfl (lv_at hl 0 rfl) ?_
  refine lv_bipush (v := (99 : Int32)) hx hb d_6_putDirt_15 (by decide) ?_
  refine mmn S hl.1 wm_438 wm_345 wm_20 wm_346 (by decide) (Nat.le_of_ble_eq_true rfl) d_6_putDirt_17 ?_
  refine mis S hG 20 rfl rfl (kr_6_3 hk_r0) hf.1 d_6_putDirt_20 (fun σ_2 eσ_2 H locs hG => ?_)
  have hf := hf.2 σ_2 eσ_2
  refine lv_iload_n hx hb d_6_putDirt_21 rfl (lv_at hl 0 rfl) ?_
  refine lv_aload_n hx hb d_6_putDirt_22 rfl (lv_at hl 1 rfl) ?_
  refine gf_6_9 S hG hk_r0 d_6_putDirt_23 ?_
  refine lv_iload_n hx hb d_6_putDirt_26 rfl (lv_at hl 2 rfl) ?_
  refine mia S hG 20 rfl rfl (kr_6_3 hk_r0) hf.1 d_6_putDirt_27 ?_
  have hf := hf.2
  refine lv_isub hx hb d_6_putDirt_28 ?_
  exact hR _ _ _ _ _ _ hG hf d_6_putDirt_29
theorem c_6_putDirt (l : Launch) {D : va_G} {ac : Nat → ClassId} {ad : Nat → Nat} {st : SS} {A : Nat → Prop} {σ : St} {r0 : Nat} {x1 : Int32} {x2 : Int32} {Q : Int32 → St → Prop} (hk_r0 : kd r0 = 6) (hf : m_6_putDirt r0 x1 x2 Q σ) : Met l y_6_putDirt (Cond.code y_6_putDirt prog_8_method_9_code 4 (some .int) :: wA) { frames := 1, cells := 0, slots := 0, locals := 15 } (va_Pc [.ref (ad r0), .int x1, .int x2] (GSt A D ac ad st σ)) (va_Qi Q (GSt A D ac ad st) A) 0 0 A :=
  mkI l (by decide +kernel) rfl [.ref (ad r0), .int x1, .int x2] (Nat.le_of_ble_eq_true rfl) (fun p e s m args below meth c ls QW S hR hG hl => w_6_putDirt_0 S hR hk_r0 hG hl hf)
set_option maxHeartbeats 4000000 in
set_option maxRecDepth 100000 in
theorem w_8_passNights_29 {r0 : Nat} {x1 : Int32} {x2 : Int32} {r3 : Nat} {x4 : Int32} {B2 : Int32 → St → Prop} {Q : St → Prop} {B29 : Int32 → St → Prop} {x5 : Int32} {σ : St} {H : Heap} {locs : List Loc} {ls : Array Slot} (S : SC A D ac st p m c prog_10_method_20_code 6 s args "SweeperRounds$World" R cells slots 2 38) (hR : RtV A D ac ad p l e R s m args below meth c prog_10_method_20_code cells slots QW Q) (hk_r0 : kd r0 = 8) (hk_r3 : kd r3 = 6) (hB2 : ∀ (x2 : Int32) (σ : St) (H : Heap) (locs : List Loc) (ls : Array Slot), DG A D ac ad s σ H locs → lv_has ls 6 [(0, .ref (ad r0)), (1, .int x1), (2, .int x2)] → B2 x2 σ → W p l e R s m args below meth c H locs cells slots QW (F0 m 2 ls [])) (hB29 : ∀ (x5 : Int32) (σ : St) (H : Heap) (locs : List Loc) (ls : Array Slot), DG A D ac ad s σ H locs → lv_has ls 6 [(0, .ref (ad r0)), (1, .int x1), (2, .int x2), (3, .ref (ad r3)), (4, .int x4), (5, .int x5)] → B29 x5 σ → W p l e R s m args below meth c H locs cells slots QW (F0 m 29 ls [])) (hG : DG A D ac ad s σ H locs) (hl : lv_has ls 6 [(0, .ref (ad r0)), (1, .int x1), (2, .int x2), (3, .ref (ad r3)), (4, .int x4), (5, .int x5)]) (hf : m_8_passNights_29 r0 x1 x2 r3 x4 B2 Q B29 x5 σ) : W p l e R s m args below meth c H locs cells slots QW (F0 m 29 ls []) := by
  have hx := S.1.1
  have hb := S.1.2.1
  unfold m_8_passNights_29 at hf
  refine lv_iload hx hb d_8_passNights_29 (lv_at hl 5 rfl) ?_
  refine lv_aload_n hx hb d_8_passNights_31 rfl (lv_at hl 3 rfl) ?_
  refine gf_8_85 S hG hk_r3 d_8_passNights_32 ?_
  refine lv_icmp_ge (tgt := 91) hx hb d_8_passNights_35 (by decide) (fun hc => ?_) (fun hc => ?_)
  · have hf := hf.1 hc
    obtain ⟨x2_1, ex2_1⟩ : ∃ y : Int32, y = x2 + 1 := ⟨_, rfl⟩
    have hf := hf x2_1 ex2_1
    refine lv_iinc (v := x2_1) (lv' := [(2, .int x2_1), (0, .ref (ad r0)), (1, .int x1), (3, .ref (ad r3)), (4, .int x4), (5, .int x5)]) hx hb d_8_passNights_91 hl (k := 2) rfl (by rw [ex2_1]; rfl) (by decide) rfl (fun ls hl => ?_)
    refine lv_goto (tgt := 2) hx hb d_8_passNights_94 (by decide) ?_
    exact hB2 _ _ _ _ _   hG (lv_sub hl [1, 2, 0] rfl) hf
  · have hf := hf.2 hc
    refine lv_aload_n hx hb d_8_passNights_38 rfl (lv_at hl 0 rfl) ?_
    refine gf_8_27 S hG hk_r0 d_8_passNights_39 ?_
    refine lv_iconst (v := (3 : Int32)) hx hb d_8_passNights_42 (by decide) ?_
    refine lv_dup2_11 hx hb d_8_passNights_43 rfl rfl ?_
    refine mia S hG 27 rfl rfl (kr_8_8 hk_r0) hf.1 d_8_passNights_44 ?_
    have hf := hf.2
    refine lv_aload_n hx hb d_8_passNights_45 rfl (lv_at hl 3 rfl) ?_
    refine lv_iconst (v := (0 : Int32)) hx hb d_8_passNights_46 (by decide) ?_
    refine lv_iload hx hb d_8_passNights_47 (lv_at hl 5 rfl) ?_
    refine iv_8_127 S hl.1 hG  (c_9_placeOf l  hf) ⟨Nat.le_of_ble_eq_true rfl, Nat.le_of_ble_eq_true rfl⟩ (Nat.le_of_ble_eq_true rfl) d_8_passNights_49 (fun v_3 σ_2 hf H locs hG => ?_)
    refine lv_iload hx hb d_8_passNights_52 (lv_at hl 4 rfl) ?_
    refine iv_8_130 S hl.1 hG hk_r3 (c_6_putDirt l hk_r3 hf) ⟨Nat.le_of_ble_eq_true rfl, Nat.le_of_ble_eq_true rfl⟩ (Nat.le_of_ble_eq_true rfl) d_8_passNights_54 (fun v_5 σ_4 hf H locs hG => ?_)
    refine lv_aload_n hx hb d_8_passNights_57 rfl (lv_at hl 3 rfl) ?_
    refine lv_iconst (v := (1 : Int32)) hx hb d_8_passNights_58 (by decide) ?_
    refine lv_iload hx hb d_8_passNights_59 (lv_at hl 5 rfl) ?_
    refine iv_8_127 S hl.1 hG  (c_9_placeOf l  hf) ⟨Nat.le_of_ble_eq_true rfl, Nat.le_of_ble_eq_true rfl⟩ (Nat.le_of_ble_eq_true rfl) d_8_passNights_61 (fun v_7 σ_6 hf H locs hG => ?_)
    refine lv_iload hx hb d_8_passNights_64 (lv_at hl 4 rfl) ?_
    refine iv_8_130 S hl.1 hG hk_r3 (c_6_putDirt l hk_r3 hf) ⟨Nat.le_of_ble_eq_true rfl, Nat.le_of_ble_eq_true rfl⟩ (Nat.le_of_ble_eq_true rfl) d_8_passNights_66 (fun v_9 σ_8 hf H locs hG => ?_)
    refine lv_iadd hx hb d_8_passNights_69 ?_
    refine lv_iadd hx hb d_8_passNights_70 ?_
    refine mis S hG 27 rfl rfl (kr_8_8 hk_r0) hf.1 d_8_passNights_71 (fun σ_10 eσ_10 H locs hG => ?_)
    have hf := hf.2 σ_10 eσ_10
    refine lv_aload_n hx hb d_8_passNights_72 rfl (lv_at hl 0 rfl) ?_
    refine gf_8_27 S hG hk_r0 d_8_passNights_73 ?_
    refine lv_iconst (v := (1 : Int32)) hx hb d_8_passNights_76 (by decide) ?_
    refine lv_dup2_11 hx hb d_8_passNights_77 rfl rfl ?_
    refine mia S hG 27 rfl rfl (kr_8_8 hk_r0) hf.1 d_8_passNights_78 ?_
    have hf := hf.2
    refine lv_iconst (v := (2 : Int32)) hx hb d_8_passNights_79 (by decide) ?_
    refine lv_iload hx hb d_8_passNights_80 (lv_at hl 4 rfl) ?_
    refine lv_imul hx hb d_8_passNights_82 ?_
    refine lv_iadd hx hb d_8_passNights_83 ?_
    refine mis S hG 27 rfl rfl (kr_8_8 hk_r0) hf.1 d_8_passNights_84 (fun σ_11 eσ_11 H locs hG => ?_)
    have hf := hf.2 σ_11 eσ_11
    obtain ⟨x5_12, ex5_12⟩ : ∃ y : Int32, y = x5 + 1 := ⟨_, rfl⟩
    have hf := hf x5_12 ex5_12
    refine lv_iinc (v := x5_12) (lv' := [(5, .int x5_12), (0, .ref (ad r0)), (1, .int x1), (2, .int x2), (3, .ref (ad r3)), (4, .int x4)]) hx hb d_8_passNights_85 hl (k := 5) rfl (by rw [ex5_12]; rfl) (by decide) rfl (fun ls hl => ?_)
    refine lv_goto (tgt := 29) hx hb d_8_passNights_88 (by decide) ?_
    exact hB29 _ _ _ _ _   hG (lv_sub hl [1, 2, 3, 4, 5, 0] rfl) hf
set_option maxHeartbeats 4000000 in
set_option maxRecDepth 100000 in
theorem lp_8_passNights_29 {r0 : Nat} {x1 : Int32} {x2 : Int32} {r3 : Nat} {x4 : Int32} {B2 : Int32 → St → Prop} {Q : St → Prop} (S : SC A D ac st p m c prog_10_method_20_code 6 s args "SweeperRounds$World" R cells slots 2 38) (hR : RtV A D ac ad p l e R s m args below meth c prog_10_method_20_code cells slots QW Q) (hk_r0 : kd r0 = 8) (hk_r3 : kd r3 = 6) (hB2 : ∀ (x2 : Int32) (σ : St) (H : Heap) (locs : List Loc) (ls : Array Slot), DG A D ac ad s σ H locs → lv_has ls 6 [(0, .ref (ad r0)), (1, .int x1), (2, .int x2)] → B2 x2 σ → W p l e R s m args below meth c H locs cells slots QW (F0 m 2 ls [])) : ∀ (n : Nat) (x5 : Int32) (σ : St) (H : Heap) (locs : List Loc) (ls : Array Slot), DG A D ac ad s σ H locs → lv_has ls 6 [(0, .ref (ad r0)), (1, .int x1), (2, .int x2), (3, .ref (ad r3)), (4, .int x4), (5, .int x5)] → itN (m_8_passNights_29 r0 x1 x2 r3 x4 B2 Q) (fun _ _ => False) n x5 σ → W p l e R s m args below meth c H locs cells slots QW (F0 m 29 ls []) := by
  intro n
  induction n with
  | zero =>
    intro x5 σ H locs ls  hG hl hf
    exact hf.elim
  | succ n ih =>
    intro x5 σ H locs ls  hG hl hf
    exact w_8_passNights_29 S hR hk_r0 hk_r3 hB2 ih hG hl hf
set_option maxHeartbeats 4000000 in
set_option maxRecDepth 100000 in
theorem w_8_passNights_2 {r0 : Nat} {x1 : Int32} {Q : St → Prop} {B2 : Int32 → St → Prop} {x2 : Int32} {σ : St} {H : Heap} {locs : List Loc} {ls : Array Slot} (S : SC A D ac st p m c prog_10_method_20_code 6 s args "SweeperRounds$World" R cells slots 2 38) (hR : RtV A D ac ad p l e R s m args below meth c prog_10_method_20_code cells slots QW Q) (hk_r0 : kd r0 = 8) (hB2 : ∀ (x2 : Int32) (σ : St) (H : Heap) (locs : List Loc) (ls : Array Slot), DG A D ac ad s σ H locs → lv_has ls 6 [(0, .ref (ad r0)), (1, .int x1), (2, .int x2)] → B2 x2 σ → W p l e R s m args below meth c H locs cells slots QW (F0 m 2 ls [])) (hG : DG A D ac ad s σ H locs) (hl : lv_has ls 6 [(0, .ref (ad r0)), (1, .int x1), (2, .int x2)]) (hf : m_8_passNights_2 r0 x1 Q B2 x2 σ) : W p l e R s m args below meth c H locs cells slots QW (F0 m 2 ls []) := by
  have hx := S.1.1
  have hb := S.1.2.1
  unfold m_8_passNights_2 at hf
  refine lv_iload_n hx hb d_8_passNights_2 rfl (lv_at hl 2 rfl) ?_
  refine lv_aload_n hx hb d_8_passNights_3 rfl (lv_at hl 0 rfl) ?_
  refine gf_8_52 S hG hk_r0 d_8_passNights_4 ?_
  refine lv_icmp_ge (tgt := 97) hx hb d_8_passNights_7 (by decide) (fun hc => ?_) (fun hc => ?_)
  · have hf := hf.1 hc
    refine lv_aload_n hx hb d_8_passNights_97 rfl (lv_at hl 0 rfl) ?_
    refine lv_dup hx hb d_8_passNights_98 rfl ?_
    refine gf_8_78 S hG hk_r0 d_8_passNights_99 ?_
    refine lv_iload_n hx hb d_8_passNights_102 rfl (lv_at hl 1 rfl) ?_
    refine lv_iadd hx hb d_8_passNights_103 ?_
    refine pf_8_78 S hG hk_r0 d_8_passNights_104 (fun σ_1 eσ_1 H locs hG => ?_)
    have hf := hf σ_1 eσ_1
    exact hR _ _ _ _ _ hG hf d_8_passNights_107
  · have hf := hf.2 hc
    refine lv_aload_n hx hb d_8_passNights_10 rfl (lv_at hl 0 rfl) ?_
    refine gf_8_11 S hG hk_r0 d_8_passNights_11 ?_
    refine lv_iload_n hx hb d_8_passNights_14 rfl (lv_at hl 2 rfl) ?_
    refine mq3 S hG (kr_8_0 hk_r0) hf.1 d_8_passNights_15 ?_
    have hi_2 := vin_lt hf.1
    have hf := hf.2
    refine lv_topr (fun r3_3 er3_3 => ?_)
    have hf := hf r3_3 er3_3
    have hk_r3_3 : kd r3_3 = 6 := er3_3 ▸ (ke_23 (kr_8_0 hk_r0) hi_2)
    refine lv_astore_n (lv' := [(3, .ref (ad r3_3)), (0, .ref (ad r0)), (1, .int x1), (2, .int x2)]) hx hb d_8_passNights_16 rfl hl (by decide) rfl (fun ls hl => ?_)
    refine lv_aload_n hx hb d_8_passNights_17 rfl (lv_at hl 1 rfl) ?_
    refine lv_aload_n hx hb d_8_passNights_18 rfl (lv_at hl 0 rfl) ?_
    refine iv_8_123 S hl.1 hG hk_r0 (c_8_fallOn l hk_r0 hk_r3_3 hf) ⟨Nat.le_of_ble_eq_true rfl, Nat.le_of_ble_eq_true rfl⟩ (Nat.le_of_ble_eq_true rfl) d_8_passNights_19 (fun v_5 σ_4 hf H locs hG => ?_)
    refine lv_iload_n hx hb d_8_passNights_22 rfl (lv_at hl 2 rfl) ?_
    refine lv_imul hx hb d_8_passNights_23 ?_
    refine lv_topi (fun x4_6 ex4_6 => ?_)
    have hf := hf x4_6 ex4_6
    refine lv_istore (lv' := [(4, .int x4_6), (3, .ref (ad r3_3)), (0, .ref (ad r0)), (1, .int x1), (2, .int x2)]) hx hb d_8_passNights_24 hl (by decide) rfl (fun ls hl => ?_)
    refine lv_iconst (v := (0 : Int32)) hx hb d_8_passNights_26 (by decide) ?_
    refine lv_istore (lv' := [(5, .int (0 : Int32)), (4, .int x4_6), (3, .ref (ad r3_3)), (0, .ref (ad r0)), (1, .int x1), (2, .int x2)]) hx hb d_8_passNights_27 hl (by decide) rfl (fun ls hl => ?_)
    exact lp_8_passNights_29 S hR hk_r0 hk_r3_3 hB2 FU _ _ _ _ _  hG (lv_sub hl [3, 4, 5, 2, 1, 0] rfl) hf
set_option maxHeartbeats 4000000 in
set_option maxRecDepth 100000 in
theorem lp_8_passNights_2 {r0 : Nat} {x1 : Int32} {Q : St → Prop} (S : SC A D ac st p m c prog_10_method_20_code 6 s args "SweeperRounds$World" R cells slots 2 38) (hR : RtV A D ac ad p l e R s m args below meth c prog_10_method_20_code cells slots QW Q) (hk_r0 : kd r0 = 8) : ∀ (n : Nat) (x2 : Int32) (σ : St) (H : Heap) (locs : List Loc) (ls : Array Slot), DG A D ac ad s σ H locs → lv_has ls 6 [(0, .ref (ad r0)), (1, .int x1), (2, .int x2)] → itN (m_8_passNights_2 r0 x1 Q) (fun _ _ => False) n x2 σ → W p l e R s m args below meth c H locs cells slots QW (F0 m 2 ls []) := by
  intro n
  induction n with
  | zero =>
    intro x2 σ H locs ls  hG hl hf
    exact hf.elim
  | succ n ih =>
    intro x2 σ H locs ls  hG hl hf
    exact w_8_passNights_2 S hR hk_r0  ih hG hl hf
set_option maxHeartbeats 4000000 in
set_option maxRecDepth 100000 in
theorem w_8_passNights_0 {r0 : Nat} {x1 : Int32} {Q : St → Prop} {σ : St} {H : Heap} {locs : List Loc} {ls : Array Slot} (S : SC A D ac st p m c prog_10_method_20_code 6 s args "SweeperRounds$World" R cells slots 2 38) (hR : RtV A D ac ad p l e R s m args below meth c prog_10_method_20_code cells slots QW Q) (hk_r0 : kd r0 = 8) (hG : DG A D ac ad s σ H locs) (hl : lv_has ls 6 [(0, .ref (ad r0)), (1, .int x1)]) (hf : m_8_passNights r0 x1 Q σ) : W p l e R s m args below meth c H locs cells slots QW (F0 m 0 ls []) := by
  have hx := S.1.1
  have hb := S.1.2.1
  unfold m_8_passNights at hf
  refine lv_iconst (v := (0 : Int32)) hx hb d_8_passNights_0 (by decide) ?_
  refine lv_istore_n (lv' := [(2, .int (0 : Int32)), (0, .ref (ad r0)), (1, .int x1)]) hx hb d_8_passNights_1 rfl hl (by decide) rfl (fun ls hl => ?_)
  exact lp_8_passNights_2 S hR hk_r0  FU _ _ _ _ _  hG (lv_sub hl [1, 2, 0] rfl) hf
theorem c_8_passNights (l : Launch) {D : va_G} {ac : Nat → ClassId} {ad : Nat → Nat} {st : SS} {A : Nat → Prop} {σ : St} {r0 : Nat} {x1 : Int32} {Q : St → Prop} (hk_r0 : kd r0 = 8) (hf : m_8_passNights r0 x1 Q σ) : Met l y_8_passNights (Cond.code y_8_passNights prog_10_method_20_code 6 none :: wA) { frames := 2, cells := 0, slots := 0, locals := 38 } (va_Pc [.ref (ad r0), .int x1] (GSt A D ac ad st σ)) (va_Qv Q (GSt A D ac ad st) A) 0 0 A :=
  mkV l (by decide +kernel) rfl [.ref (ad r0), .int x1] (Nat.le_of_ble_eq_true rfl) (fun p e s m args below meth c ls QW S hR hG hl => w_8_passNights_0 S hR hk_r0 hG hl hf)
set_option maxHeartbeats 4000000 in
set_option maxRecDepth 100000 in
theorem w_6_allDirt_0 {r0 : Nat} {Q : Int32 → St → Prop} {σ : St} {H : Heap} {locs : List Loc} {ls : Array Slot} (S : SC A D ac st p m c prog_8_method_5_code 1 s args "SweeperRounds$Street" R cells slots 2 44) (hR : RtI A D ac ad p l e R s m args below meth c prog_8_method_5_code cells slots QW Q) (hk_r0 : kd r0 = 6) (hG : DG A D ac ad s σ H locs) (hl : lv_has ls 1 [(0, .ref (ad r0))]) (hf : m_6_allDirt r0 Q σ) : W p l e R s m args below meth c H locs cells slots QW (F0 m 0 ls []) := by
  have hx := S.1.1
  have hb := S.1.2.1
  unfold m_6_allDirt at hf
  refine lv_aload_n hx hb d_6_allDirt_0 rfl (lv_at hl 0 rfl) ?_
  refine lv_iconst (v := (0 : Int32)) hx hb d_6_allDirt_1 (by decide) ?_
  refine iv_6_33 S hl.1 hG hk_r0 (c_6_dirtOfSide l hk_r0 hf) ⟨Nat.le_of_ble_eq_true rfl, Nat.le_of_ble_eq_true rfl⟩ (Nat.le_of_ble_eq_true rfl) d_6_allDirt_2 (fun v_2 σ_1 hf H locs hG => ?_)
  refine lv_aload_n hx hb d_6_allDirt_5 rfl (lv_at hl 0 rfl) ?_
  refine lv_iconst (v := (1 : Int32)) hx hb d_6_allDirt_6 (by decide) ?_
  refine iv_6_33 S hl.1 hG hk_r0 (c_6_dirtOfSide l hk_r0 hf) ⟨Nat.le_of_ble_eq_true rfl, Nat.le_of_ble_eq_true rfl⟩ (Nat.le_of_ble_eq_true rfl) d_6_allDirt_7 (fun v_4 σ_3 hf H locs hG => ?_)
  refine lv_iadd hx hb d_6_allDirt_10 ?_
  exact hR _ _ _ _ _ _ hG hf d_6_allDirt_11
theorem c_6_allDirt (l : Launch) {D : va_G} {ac : Nat → ClassId} {ad : Nat → Nat} {st : SS} {A : Nat → Prop} {σ : St} {r0 : Nat} {Q : Int32 → St → Prop} (hk_r0 : kd r0 = 6) (hf : m_6_allDirt r0 Q σ) : Met l y_6_allDirt (Cond.code y_6_allDirt prog_8_method_5_code 1 (some .int) :: wA) { frames := 2, cells := 0, slots := 0, locals := 44 } (va_Pc [.ref (ad r0)] (GSt A D ac ad st σ)) (va_Qi Q (GSt A D ac ad st) A) 0 0 A :=
  mkI l (by decide +kernel) rfl [.ref (ad r0)] (Nat.le_of_ble_eq_true rfl) (fun p e s m args below meth c ls QW S hR hG hl => w_6_allDirt_0 S hR hk_r0 hG hl hf)
set_option maxHeartbeats 4000000 in
set_option maxRecDepth 100000 in
theorem w_8_dirtOnStreets_4 {r0 : Nat} {Q : Int32 → St → Prop} {B4 : Int32 → Int32 → St → Prop} {x1 : Int32} {x2 : Int32} {σ : St} {H : Heap} {locs : List Loc} {ls : Array Slot} (S : SC A D ac st p m c prog_10_method_6_code 3 s args "SweeperRounds$World" R cells slots 3 64) (hR : RtI A D ac ad p l e R s m args below meth c prog_10_method_6_code cells slots QW Q) (hk_r0 : kd r0 = 8) (hB4 : ∀ (x1 : Int32) (x2 : Int32) (σ : St) (H : Heap) (locs : List Loc) (ls : Array Slot), DG A D ac ad s σ H locs → lv_has ls 3 [(0, .ref (ad r0)), (1, .int x1), (2, .int x2)] → B4 x1 x2 σ → W p l e R s m args below meth c H locs cells slots QW (F0 m 4 ls [])) (hG : DG A D ac ad s σ H locs) (hl : lv_has ls 3 [(0, .ref (ad r0)), (1, .int x1), (2, .int x2)]) (hf : m_8_dirtOnStreets_4 r0 Q B4 x1 x2 σ) : W p l e R s m args below meth c H locs cells slots QW (F0 m 4 ls []) := by
  have hx := S.1.1
  have hb := S.1.2.1
  unfold m_8_dirtOnStreets_4 at hf
  refine lv_iload_n hx hb d_8_dirtOnStreets_4 rfl (lv_at hl 2 rfl) ?_
  refine lv_aload_n hx hb d_8_dirtOnStreets_5 rfl (lv_at hl 0 rfl) ?_
  refine gf_8_52 S hG hk_r0 d_8_dirtOnStreets_6 ?_
  refine lv_icmp_ge (tgt := 30) hx hb d_8_dirtOnStreets_9 (by decide) (fun hc => ?_) (fun hc => ?_)
  · have hf := hf.1 hc
    refine lv_iload_n hx hb d_8_dirtOnStreets_30 rfl (lv_at hl 1 rfl) ?_
    exact hR _ _ _ _ _ _ hG hf d_8_dirtOnStreets_31
  · have hf := hf.2 hc
    refine lv_iload_n hx hb d_8_dirtOnStreets_12 rfl (lv_at hl 1 rfl) ?_
    refine lv_aload_n hx hb d_8_dirtOnStreets_13 rfl (lv_at hl 0 rfl) ?_
    refine gf_8_11 S hG hk_r0 d_8_dirtOnStreets_14 ?_
    refine lv_iload_n hx hb d_8_dirtOnStreets_17 rfl (lv_at hl 2 rfl) ?_
    refine mq3 S hG (kr_8_0 hk_r0) hf.1 d_8_dirtOnStreets_18 ?_
    have hi_1 := vin_lt hf.1
    have hf := hf.2
    refine iv_8_88 S hl.1 hG (ke_23 (kr_8_0 hk_r0) hi_1) (c_6_allDirt l (ke_23 (kr_8_0 hk_r0) hi_1) hf) ⟨Nat.le_of_ble_eq_true rfl, Nat.le_of_ble_eq_true rfl⟩ (Nat.le_of_ble_eq_true rfl) d_8_dirtOnStreets_19 (fun v_3 σ_2 hf H locs hG => ?_)
    refine lv_iadd hx hb d_8_dirtOnStreets_22 ?_
    refine lv_topi (fun x1_4 ex1_4 => ?_)
    have hf := hf x1_4 ex1_4
    refine lv_istore_n (lv' := [(1, .int x1_4), (0, .ref (ad r0)), (2, .int x2)]) hx hb d_8_dirtOnStreets_23 rfl hl (by decide) rfl (fun ls hl => ?_)
    obtain ⟨x2_5, ex2_5⟩ : ∃ y : Int32, y = x2 + 1 := ⟨_, rfl⟩
    have hf := hf x2_5 ex2_5
    refine lv_iinc (v := x2_5) (lv' := [(2, .int x2_5), (1, .int x1_4), (0, .ref (ad r0))]) hx hb d_8_dirtOnStreets_24 hl (k := 2) rfl (by rw [ex2_5]; rfl) (by decide) rfl (fun ls hl => ?_)
    refine lv_goto (tgt := 4) hx hb d_8_dirtOnStreets_27 (by decide) ?_
    exact hB4 _ _ _ _ _ _   hG (lv_sub hl [2, 1, 0] rfl) hf
set_option maxHeartbeats 4000000 in
set_option maxRecDepth 100000 in
theorem lp_8_dirtOnStreets_4 {r0 : Nat} {Q : Int32 → St → Prop} (S : SC A D ac st p m c prog_10_method_6_code 3 s args "SweeperRounds$World" R cells slots 3 64) (hR : RtI A D ac ad p l e R s m args below meth c prog_10_method_6_code cells slots QW Q) (hk_r0 : kd r0 = 8) : ∀ (n : Nat) (x1 : Int32) (x2 : Int32) (σ : St) (H : Heap) (locs : List Loc) (ls : Array Slot), DG A D ac ad s σ H locs → lv_has ls 3 [(0, .ref (ad r0)), (1, .int x1), (2, .int x2)] → itN (m_8_dirtOnStreets_4 r0 Q) (fun _ _ _ => False) n x1 x2 σ → W p l e R s m args below meth c H locs cells slots QW (F0 m 4 ls []) := by
  intro n
  induction n with
  | zero =>
    intro x1 x2 σ H locs ls  hG hl hf
    exact hf.elim
  | succ n ih =>
    intro x1 x2 σ H locs ls  hG hl hf
    exact w_8_dirtOnStreets_4 S hR hk_r0  ih hG hl hf
set_option maxHeartbeats 4000000 in
set_option maxRecDepth 100000 in
theorem w_8_dirtOnStreets_0 {r0 : Nat} {Q : Int32 → St → Prop} {σ : St} {H : Heap} {locs : List Loc} {ls : Array Slot} (S : SC A D ac st p m c prog_10_method_6_code 3 s args "SweeperRounds$World" R cells slots 3 64) (hR : RtI A D ac ad p l e R s m args below meth c prog_10_method_6_code cells slots QW Q) (hk_r0 : kd r0 = 8) (hG : DG A D ac ad s σ H locs) (hl : lv_has ls 3 [(0, .ref (ad r0))]) (hf : m_8_dirtOnStreets r0 Q σ) : W p l e R s m args below meth c H locs cells slots QW (F0 m 0 ls []) := by
  have hx := S.1.1
  have hb := S.1.2.1
  unfold m_8_dirtOnStreets at hf
  refine lv_iconst (v := (0 : Int32)) hx hb d_8_dirtOnStreets_0 (by decide) ?_
  refine lv_istore_n (lv' := [(1, .int (0 : Int32)), (0, .ref (ad r0))]) hx hb d_8_dirtOnStreets_1 rfl hl (by decide) rfl (fun ls hl => ?_)
  refine lv_iconst (v := (0 : Int32)) hx hb d_8_dirtOnStreets_2 (by decide) ?_
  refine lv_istore_n (lv' := [(2, .int (0 : Int32)), (1, .int (0 : Int32)), (0, .ref (ad r0))]) hx hb d_8_dirtOnStreets_3 rfl hl (by decide) rfl (fun ls hl => ?_)
  exact lp_8_dirtOnStreets_4 S hR hk_r0  FU _ _ _ _ _ _  hG (lv_sub hl [2, 1, 0] rfl) hf
theorem c_8_dirtOnStreets (l : Launch) {D : va_G} {ac : Nat → ClassId} {ad : Nat → Nat} {st : SS} {A : Nat → Prop} {σ : St} {r0 : Nat} {Q : Int32 → St → Prop} (hk_r0 : kd r0 = 8) (hf : m_8_dirtOnStreets r0 Q σ) : Met l y_8_dirtOnStreets (Cond.code y_8_dirtOnStreets prog_10_method_6_code 3 (some .int) :: wA) { frames := 3, cells := 0, slots := 0, locals := 64 } (va_Pc [.ref (ad r0)] (GSt A D ac ad st σ)) (va_Qi Q (GSt A D ac ad st) A) 0 0 A :=
  mkI l (by decide +kernel) rfl [.ref (ad r0)] (Nat.le_of_ble_eq_true rfl) (fun p e s m args below meth c ls QW S hR hG hl => w_8_dirtOnStreets_0 S hR hk_r0 hG hl hf)
set_option maxHeartbeats 4000000 in
set_option maxRecDepth 100000 in
theorem w_9_night_0 {r0 : Nat} {x1 : Int32} {Q : Int32 → St → Prop} {σ : St} {H : Heap} {locs : List Loc} {ls : Array Slot} (S : SC A D ac st p m c prog_1_method_17_code 2 s args "SweeperRounds" R cells slots 4 86) (hR : RtI A D ac ad p l e R s m args below meth c prog_1_method_17_code cells slots QW Q) (hk_r0 : kd r0 = 9) (hG : DG A D ac ad s σ H locs) (hl : lv_has ls 2 [(0, .ref (ad r0)), (1, .int x1)]) (hf : m_9_night r0 x1 Q σ) : W p l e R s m args below meth c H locs cells slots QW (F0 m 0 ls []) := by
  have hx := S.1.1
  have hb := S.1.2.1
  unfold m_9_night at hf
  refine lv_iload_n hx hb d_9_night_0 rfl (lv_at hl 1 rfl) ?_
  refine lv_iconst (v := (1 : Int32)) hx hb d_9_night_1 (by decide) ?_
  refine lv_icmp_lt (tgt := 11) hx hb d_9_night_2 (by decide) (fun hc => ?_) (fun hc => ?_)
  · have hf := hf.1 hc
    refine lv_iconst (v := (-1 : Int32)) hx hb d_9_night_11 (by decide) ?_
    exact hR _ _ _ _ _ _ hG hf d_9_night_12
  · have hf := hf.2 hc
    refine lv_iload_n hx hb d_9_night_5 rfl (lv_at hl 1 rfl) ?_
    refine lv_bipush (v := (30 : Int32)) hx hb d_9_night_6 (by decide) ?_
    refine lv_icmp_le (tgt := 13) hx hb d_9_night_8 (by decide) (fun hc => ?_) (fun hc => ?_)
    · have hf := hf.1 hc
      refine lv_aload_n hx hb d_9_night_13 rfl (lv_at hl 0 rfl) ?_
      refine gf_9_42 S hG hk_r0 d_9_night_14 ?_
      refine lv_aload_n hx hb d_9_night_17 rfl (lv_at hl 0 rfl) ?_
      refine gf_9_26 S hG hk_r0 d_9_night_18 ?_
      refine iv_9_80 S hl.1 hG (kr_9_4 hk_r0) (c_0_remember l (kr_9_4 hk_r0) (kr_9_2 hk_r0) hf) ⟨Nat.le_of_ble_eq_true rfl, Nat.le_of_ble_eq_true rfl⟩ (Nat.le_of_ble_eq_true rfl) d_9_night_21 (fun σ_1 hf H locs hG => ?_)
      refine lv_aload_n hx hb d_9_night_24 rfl (lv_at hl 0 rfl) ?_
      refine gf_9_26 S hG hk_r0 d_9_night_25 ?_
      refine lv_iload_n hx hb d_9_night_28 rfl (lv_at hl 1 rfl) ?_
      refine iv_9_218 S hl.1 hG (kr_9_2 hk_r0) (c_8_passNights l (kr_9_2 hk_r0) hf) ⟨Nat.le_of_ble_eq_true rfl, Nat.le_of_ble_eq_true rfl⟩ (Nat.le_of_ble_eq_true rfl) d_9_night_29 (fun σ_3 hf H locs hG => ?_)
      refine lv_aload_n hx hb d_9_night_32 rfl (lv_at hl 0 rfl) ?_
      refine gf_9_26 S hG hk_r0 d_9_night_33 ?_
      refine iv_9_221 S hl.1 hG (kr_9_2 hk_r0) (c_8_dirtOnStreets l (kr_9_2 hk_r0) hf) ⟨Nat.le_of_ble_eq_true rfl, Nat.le_of_ble_eq_true rfl⟩ (Nat.le_of_ble_eq_true rfl) d_9_night_36 (fun v_6 σ_5 hf H locs hG => ?_)
      exact hR _ _ _ _ _ _ hG hf d_9_night_39
    · have hf := hf.2 hc
      refine lv_iconst (v := (-1 : Int32)) hx hb d_9_night_11 (by decide) ?_
      exact hR _ _ _ _ _ _ hG hf d_9_night_12
theorem c_9_night (l : Launch) {D : va_G} {ac : Nat → ClassId} {ad : Nat → Nat} {st : SS} {A : Nat → Prop} {σ : St} {r0 : Nat} {x1 : Int32} {Q : Int32 → St → Prop} (hk_r0 : kd r0 = 9) (hf : m_9_night r0 x1 Q σ) : Met l y_9_night (Cond.code y_9_night prog_1_method_17_code 2 (some .int) :: wA) { frames := 4, cells := 0, slots := 0, locals := 86 } (va_Pc [.ref (ad r0), .int x1] (GSt A D ac ad st σ)) (va_Qi Q (GSt A D ac ad st) A) 0 0 A :=
  mkI l (by decide +kernel) rfl [.ref (ad r0), .int x1] (Nat.le_of_ble_eq_true rfl) (fun p e s m args below meth c ls QW S hR hG hl => w_9_night_0 S hR hk_r0 hG hl hf)
set_option maxHeartbeats 4000000 in
set_option maxRecDepth 100000 in
theorem w_6_washSide_49 {r0 : Nat} {x1 : Int32} {x2 : Int32} {x3 : Int32} {x4 : Int32} {x5 : Int32} {B10 : Int32 → Int32 → St → Prop} {Q : Int32 → St → Prop} {t0 : Int32} {σ : St} {H : Heap} {locs : List Loc} {ls : Array Slot} (S : SC A D ac st p m c prog_8_method_10_code 7 s args "SweeperRounds$Street" R cells slots 2 38) (hR : RtI A D ac ad p l e R s m args below meth c prog_8_method_10_code cells slots QW Q) (hk_r0 : kd r0 = 6) (hB10 : ∀ (x3 : Int32) (x4 : Int32) (σ : St) (H : Heap) (locs : List Loc) (ls : Array Slot), DG A D ac ad s σ H locs → lv_has ls 7 [(0, .ref (ad r0)), (1, .int x1), (2, .int x2), (3, .int x3), (4, .int x4)] → B10 x3 x4 σ → W p l e R s m args below meth c H locs cells slots QW (F0 m 10 ls [])) (hG : DG A D ac ad s σ H locs) (hl : lv_has ls 7 [(0, .ref (ad r0)), (1, .int x1), (2, .int x2), (3, .int x3), (4, .int x4), (5, .int x5)]) (hf : m_6_washSide_49 r0 x1 x2 x3 x4 x5 B10 Q t0 σ) : W p l e R s m args below meth c H locs cells slots QW (F0 m 49 ls [.int t0]) := by
  have hx := S.1.1
  have hb := S.1.2.1
  unfold m_6_washSide_49 at hf
  refine lv_istore (lv' := [(6, .int t0), (0, .ref (ad r0)), (1, .int x1), (2, .int x2), (3, .int x3), (4, .int x4), (5, .int x5)]) hx hb d_6_washSide_49 hl (by decide) rfl (fun ls hl => ?_)
  refine lv_aload_n hx hb d_6_washSide_51 rfl (lv_at hl 1 rfl) ?_
  refine gf_6_9 S hG hk_r0 d_6_washSide_52 ?_
  refine lv_iload hx hb d_6_washSide_55 (lv_at hl 6 rfl) ?_
  refine lv_dup2_11 hx hb d_6_washSide_57 rfl rfl ?_
  refine mia S hG 20 rfl rfl (kr_6_3 hk_r0) hf.1 d_6_washSide_58 ?_
  have hf := hf.2
  refine lv_iload hx hb d_6_washSide_59 (lv_at hl 0 rfl) ?_
  refine lv_isub hx hb d_6_washSide_61 ?_
  refine mis S hG 20 rfl rfl (kr_6_3 hk_r0) hf.1 d_6_washSide_62 (fun σ_1 eσ_1 H locs hG => ?_)
  have hf := hf.2 σ_1 eσ_1
  refine lv_iload_n hx hb d_6_washSide_63 rfl (lv_at hl 4 rfl) ?_
  refine lv_iload hx hb d_6_washSide_64 (lv_at hl 5 rfl) ?_
  refine lv_aload_n hx hb d_6_washSide_66 rfl (lv_at hl 1 rfl) ?_
  refine gf_6_19 S hG hk_r0 d_6_washSide_67 ?_
  refine lv_iconst (v := (1 : Int32)) hx hb d_6_washSide_70 (by decide) ?_
  refine lv_isub hx hb d_6_washSide_71 ?_
  refine lv_icmp_ne (tgt := 80) hx hb d_6_washSide_72 (by decide) (fun hc => ?_) (fun hc => ?_)
  · have hf := hf.1 hc
    refine lv_aload_n hx hb d_6_washSide_80 rfl (lv_at hl 1 rfl) ?_
    refine lv_iload hx hb d_6_washSide_81 (lv_at hl 6 rfl) ?_
    refine lv_iconst (v := (1 : Int32)) hx hb d_6_washSide_83 (by decide) ?_
    refine lv_iadd hx hb d_6_washSide_84 ?_
    refine lv_iload hx hb d_6_washSide_85 (lv_at hl 0 rfl) ?_
    refine iv_6_45 S hl.1 hG hk_r0 (c_6_putDirt l hk_r0 hf) ⟨Nat.le_of_ble_eq_true rfl, Nat.le_of_ble_eq_true rfl⟩ (Nat.le_of_ble_eq_true rfl) d_6_washSide_87 (fun v_3 σ_2 hf H locs hG => ?_)
    refine lv_iadd hx hb d_6_washSide_90 ?_
    refine lv_topi (fun x3_4 ex3_4 => ?_)
    have hf := hf x3_4 ex3_4
    refine lv_istore_n (lv' := [(3, .int x3_4), (6, .int t0), (0, .ref (ad r0)), (1, .int x1), (2, .int x2), (4, .int x4), (5, .int x5)]) hx hb d_6_washSide_91 rfl hl (by decide) rfl (fun ls hl => ?_)
    obtain ⟨x4_5, ex4_5⟩ : ∃ y : Int32, y = x4 + (-1) := ⟨_, rfl⟩
    have hf := hf x4_5 ex4_5
    refine lv_iinc (v := x4_5) (lv' := [(4, .int x4_5), (3, .int x3_4), (6, .int t0), (0, .ref (ad r0)), (1, .int x1), (2, .int x2), (5, .int x5)]) hx hb d_6_washSide_92 hl (k := 5) rfl (by rw [ex4_5]; rfl) (by decide) rfl (fun ls hl => ?_)
    refine lv_goto (tgt := 10) hx hb d_6_washSide_95 (by decide) ?_
    exact hB10 _ _ _ _ _ _   hG (lv_sub hl [3, 4, 5, 1, 0] rfl) hf
  · have hf := hf.2 hc
    refine lv_iload hx hb d_6_washSide_75 (lv_at hl 0 rfl) ?_
    refine lv_goto (tgt := 90) hx hb d_6_washSide_77 (by decide) ?_
    refine lv_iadd hx hb d_6_washSide_90 ?_
    refine lv_topi (fun x3_6 ex3_6 => ?_)
    have hf := hf x3_6 ex3_6
    refine lv_istore_n (lv' := [(3, .int x3_6), (6, .int t0), (0, .ref (ad r0)), (1, .int x1), (2, .int x2), (4, .int x4), (5, .int x5)]) hx hb d_6_washSide_91 rfl hl (by decide) rfl (fun ls hl => ?_)
    obtain ⟨x4_7, ex4_7⟩ : ∃ y : Int32, y = x4 + (-1) := ⟨_, rfl⟩
    have hf := hf x4_7 ex4_7
    refine lv_iinc (v := x4_7) (lv' := [(4, .int x4_7), (3, .int x3_6), (6, .int t0), (0, .ref (ad r0)), (1, .int x1), (2, .int x2), (5, .int x5)]) hx hb d_6_washSide_92 hl (k := 5) rfl (by rw [ex4_7]; rfl) (by decide) rfl (fun ls hl => ?_)
    refine lv_goto (tgt := 10) hx hb d_6_washSide_95 (by decide) ?_
    exact hB10 _ _ _ _ _ _   hG (lv_sub hl [3, 4, 5, 1, 0] rfl) hf
set_option maxHeartbeats 4000000 in
set_option maxRecDepth 100000 in
theorem w_6_washSide_10 {r0 : Nat} {x1 : Int32} {x2 : Int32} {Q : Int32 → St → Prop} {B10 : Int32 → Int32 → St → Prop} {x3 : Int32} {x4 : Int32} {σ : St} {H : Heap} {locs : List Loc} {ls : Array Slot} (S : SC A D ac st p m c prog_8_method_10_code 7 s args "SweeperRounds$Street" R cells slots 2 38) (hR : RtI A D ac ad p l e R s m args below meth c prog_8_method_10_code cells slots QW Q) (hk_r0 : kd r0 = 6) (hB10 : ∀ (x3 : Int32) (x4 : Int32) (σ : St) (H : Heap) (locs : List Loc) (ls : Array Slot), DG A D ac ad s σ H locs → lv_has ls 7 [(0, .ref (ad r0)), (1, .int x1), (2, .int x2), (3, .int x3), (4, .int x4)] → B10 x3 x4 σ → W p l e R s m args below meth c H locs cells slots QW (F0 m 10 ls [])) (hG : DG A D ac ad s σ H locs) (hl : lv_has ls 7 [(0, .ref (ad r0)), (1, .int x1), (2, .int x2), (3, .int x3), (4, .int x4)]) (hf : m_6_washSide_10 r0 x1 x2 Q B10 x3 x4 σ) : W p l e R s m args below meth c H locs cells slots QW (F0 m 10 ls []) := by
  have hx := S.1.1
  have hb := S.1.2.1
  unfold m_6_washSide_10 at hf
  refine lv_iload hx hb d_6_washSide_10 (lv_at hl 4 rfl) ?_
  refine lv_if_lt (tgt := 98) hx hb d_6_washSide_12 (by decide) (fun hc => ?_) (fun hc => ?_)
  · have hf := hf.1 hc
    refine lv_iload_n hx hb d_6_washSide_98 rfl (lv_at hl 3 rfl) ?_
    exact hR _ _ _ _ _ _ hG hf d_6_washSide_99
  · have hf := hf.2 hc
    refine lv_iload_n hx hb d_6_washSide_15 rfl (lv_at hl 1 rfl) ?_
    refine lv_iload hx hb d_6_washSide_16 (lv_at hl 4 rfl) ?_
    refine iv_6_29 S hl.1 hG  (c_9_placeOf l  hf) ⟨Nat.le_of_ble_eq_true rfl, Nat.le_of_ble_eq_true rfl⟩ (Nat.le_of_ble_eq_true rfl) d_6_washSide_18 (fun v_2 σ_1 hf H locs hG => ?_)
    refine lv_istore (lv' := [(5, .int v_2), (0, .ref (ad r0)), (1, .int x1), (2, .int x2), (3, .int x3), (4, .int x4)]) hx hb d_6_washSide_21 hl (by decide) rfl (fun ls hl => ?_)
    refine lv_aload_n hx hb d_6_washSide_23 rfl (lv_at hl 1 rfl) ?_
    refine gf_6_15 S hG hk_r0 d_6_washSide_24 ?_
    refine lv_iload hx hb d_6_washSide_27 (lv_at hl 0 rfl) ?_
    refine mza S hG (kr_6_4 hk_r0) hf.1 d_6_washSide_29 ?_
    have hf := hf.2
    refine lv_if_eq (tgt := 37) hx hb d_6_washSide_30 (by decide) (fun hc => ?_) (fun hc => ?_)
    · have hf := hf.1 hc
      refine lv_aload_n hx hb d_6_washSide_37 rfl (lv_at hl 1 rfl) ?_
      refine gf_6_9 S hG hk_r0 d_6_washSide_38 ?_
      refine lv_iload hx hb d_6_washSide_41 (lv_at hl 0 rfl) ?_
      refine mia S hG 20 rfl rfl (kr_6_3 hk_r0) hf.1 d_6_washSide_43 ?_
      have hf := hf.2
      refine lv_iload_n hx hb d_6_washSide_44 rfl (lv_at hl 3 rfl) ?_
      refine lv_imul hx hb d_6_washSide_45 ?_
      refine lv_bipush (v := (100 : Int32)) hx hb d_6_washSide_46 (by decide) ?_
      refine lv_idiv hx hb d_6_washSide_48 (by decide) ?_
      exact w_6_washSide_49 S hR hk_r0   hB10 hG (lv_sub hl [1, 2, 3, 4, 5, 0] rfl) hf
    · have hf := hf.2 hc
      refine lv_iconst (v := (0 : Int32)) hx hb d_6_washSide_33 (by decide) ?_
      refine lv_goto (tgt := 49) hx hb d_6_washSide_34 (by decide) ?_
      exact w_6_washSide_49 S hR hk_r0   hB10 hG (lv_sub hl [1, 2, 3, 4, 5, 0] rfl) hf
set_option maxHeartbeats 4000000 in
set_option maxRecDepth 100000 in
theorem lp_6_washSide_10 {r0 : Nat} {x1 : Int32} {x2 : Int32} {Q : Int32 → St → Prop} (S : SC A D ac st p m c prog_8_method_10_code 7 s args "SweeperRounds$Street" R cells slots 2 38) (hR : RtI A D ac ad p l e R s m args below meth c prog_8_method_10_code cells slots QW Q) (hk_r0 : kd r0 = 6) : ∀ (n : Nat) (x3 : Int32) (x4 : Int32) (σ : St) (H : Heap) (locs : List Loc) (ls : Array Slot), DG A D ac ad s σ H locs → lv_has ls 7 [(0, .ref (ad r0)), (1, .int x1), (2, .int x2), (3, .int x3), (4, .int x4)] → itN (m_6_washSide_10 r0 x1 x2 Q) (fun _ _ _ => False) n x3 x4 σ → W p l e R s m args below meth c H locs cells slots QW (F0 m 10 ls []) := by
  intro n
  induction n with
  | zero =>
    intro x3 x4 σ H locs ls  hG hl hf
    exact hf.elim
  | succ n ih =>
    intro x3 x4 σ H locs ls  hG hl hf
    exact w_6_washSide_10 S hR hk_r0  ih hG hl hf
set_option maxHeartbeats 4000000 in
set_option maxRecDepth 100000 in
theorem w_6_washSide_0 {r0 : Nat} {x1 : Int32} {x2 : Int32} {Q : Int32 → St → Prop} {σ : St} {H : Heap} {locs : List Loc} {ls : Array Slot} (S : SC A D ac st p m c prog_8_method_10_code 7 s args "SweeperRounds$Street" R cells slots 2 38) (hR : RtI A D ac ad p l e R s m args below meth c prog_8_method_10_code cells slots QW Q) (hk_r0 : kd r0 = 6) (hG : DG A D ac ad s σ H locs) (hl : lv_has ls 7 [(0, .ref (ad r0)), (1, .int x1), (2, .int x2)]) (hf : m_6_washSide r0 x1 x2 Q σ) : W p l e R s m args below meth c H locs cells slots QW (F0 m 0 ls []) := by
  have hx := S.1.1
  have hb := S.1.2.1
  unfold m_6_washSide at hf
  refine lv_iconst (v := (0 : Int32)) hx hb d_6_washSide_0 (by decide) ?_
  refine lv_istore_n (lv' := [(3, .int (0 : Int32)), (0, .ref (ad r0)), (1, .int x1), (2, .int x2)]) hx hb d_6_washSide_1 rfl hl (by decide) rfl (fun ls hl => ?_)
  refine lv_aload_n hx hb d_6_washSide_2 rfl (lv_at hl 1 rfl) ?_
  refine gf_6_19 S hG hk_r0 d_6_washSide_3 ?_
  refine lv_iconst (v := (1 : Int32)) hx hb d_6_washSide_6 (by decide) ?_
  refine lv_isub hx hb d_6_washSide_7 ?_
  refine lv_topi (fun x4_1 ex4_1 => ?_)
  have hf := hf x4_1 ex4_1
  refine lv_istore (lv' := [(4, .int x4_1), (3, .int (0 : Int32)), (0, .ref (ad r0)), (1, .int x1), (2, .int x2)]) hx hb d_6_washSide_8 hl (by decide) rfl (fun ls hl => ?_)
  exact lp_6_washSide_10 S hR hk_r0  FU _ _ _ _ _ _  hG (lv_sub hl [2, 3, 4, 1, 0] rfl) hf
theorem c_6_washSide (l : Launch) {D : va_G} {ac : Nat → ClassId} {ad : Nat → Nat} {st : SS} {A : Nat → Prop} {σ : St} {r0 : Nat} {x1 : Int32} {x2 : Int32} {Q : Int32 → St → Prop} (hk_r0 : kd r0 = 6) (hf : m_6_washSide r0 x1 x2 Q σ) : Met l y_6_washSide (Cond.code y_6_washSide prog_8_method_10_code 7 (some .int) :: wA) { frames := 2, cells := 0, slots := 0, locals := 38 } (va_Pc [.ref (ad r0), .int x1, .int x2] (GSt A D ac ad st σ)) (va_Qi Q (GSt A D ac ad st) A) 0 0 A :=
  mkI l (by decide +kernel) rfl [.ref (ad r0), .int x1, .int x2] (Nat.le_of_ble_eq_true rfl) (fun p e s m args below meth c ls QW S hR hG hl => w_6_washSide_0 S hR hk_r0 hG hl hf)
set_option maxHeartbeats 4000000 in
set_option maxRecDepth 100000 in
theorem w_8_washStreets_4 {r0 : Nat} {x1 : Int32} {Q : Int32 → St → Prop} {B4 : Int32 → Int32 → St → Prop} {x2 : Int32} {x3 : Int32} {σ : St} {H : Heap} {locs : List Loc} {ls : Array Slot} (S : SC A D ac st p m c prog_10_method_21_code 4 s args "SweeperRounds$World" R cells slots 3 64) (hR : RtI A D ac ad p l e R s m args below meth c prog_10_method_21_code cells slots QW Q) (hk_r0 : kd r0 = 8) (hB4 : ∀ (x2 : Int32) (x3 : Int32) (σ : St) (H : Heap) (locs : List Loc) (ls : Array Slot), DG A D ac ad s σ H locs → lv_has ls 4 [(0, .ref (ad r0)), (1, .int x1), (2, .int x2), (3, .int x3)] → B4 x2 x3 σ → W p l e R s m args below meth c H locs cells slots QW (F0 m 4 ls [])) (hG : DG A D ac ad s σ H locs) (hl : lv_has ls 4 [(0, .ref (ad r0)), (1, .int x1), (2, .int x2), (3, .int x3)]) (hf : m_8_washStreets_4 r0 x1 Q B4 x2 x3 σ) : W p l e R s m args below meth c H locs cells slots QW (F0 m 4 ls []) := by
  have hx := S.1.1
  have hb := S.1.2.1
  unfold m_8_washStreets_4 at hf
  refine lv_iload_n hx hb d_8_washStreets_4 rfl (lv_at hl 3 rfl) ?_
  refine lv_aload_n hx hb d_8_washStreets_5 rfl (lv_at hl 0 rfl) ?_
  refine gf_8_52 S hG hk_r0 d_8_washStreets_6 ?_
  refine lv_icmp_ge (tgt := 44) hx hb d_8_washStreets_9 (by decide) (fun hc => ?_) (fun hc => ?_)
  · have hf := hf.1 hc
    refine lv_aload_n hx hb d_8_washStreets_44 rfl (lv_at hl 0 rfl) ?_
    refine gf_8_27 S hG hk_r0 d_8_washStreets_45 ?_
    refine lv_iconst (v := (4 : Int32)) hx hb d_8_washStreets_48 (by decide) ?_
    refine lv_dup2_11 hx hb d_8_washStreets_49 rfl rfl ?_
    refine mia S hG 27 rfl rfl (kr_8_8 hk_r0) hf.1 d_8_washStreets_50 ?_
    have hf := hf.2
    refine lv_iload_n hx hb d_8_washStreets_51 rfl (lv_at hl 2 rfl) ?_
    refine lv_iadd hx hb d_8_washStreets_52 ?_
    refine mis S hG 27 rfl rfl (kr_8_8 hk_r0) hf.1 d_8_washStreets_53 (fun σ_1 eσ_1 H locs hG => ?_)
    have hf := hf.2 σ_1 eσ_1
    refine lv_iload_n hx hb d_8_washStreets_54 rfl (lv_at hl 2 rfl) ?_
    exact hR _ _ _ _ _ _ hG hf d_8_washStreets_55
  · have hf := hf.2 hc
    refine lv_iload_n hx hb d_8_washStreets_12 rfl (lv_at hl 2 rfl) ?_
    refine lv_aload_n hx hb d_8_washStreets_13 rfl (lv_at hl 0 rfl) ?_
    refine gf_8_11 S hG hk_r0 d_8_washStreets_14 ?_
    refine lv_iload_n hx hb d_8_washStreets_17 rfl (lv_at hl 3 rfl) ?_
    refine mq3 S hG (kr_8_0 hk_r0) hf.1 d_8_washStreets_18 ?_
    have hi_2 := vin_lt hf.1
    have hf := hf.2
    refine lv_iconst (v := (0 : Int32)) hx hb d_8_washStreets_19 (by decide) ?_
    refine lv_iload_n hx hb d_8_washStreets_20 rfl (lv_at hl 1 rfl) ?_
    refine iv_8_133 S hl.1 hG (ke_23 (kr_8_0 hk_r0) hi_2) (c_6_washSide l (ke_23 (kr_8_0 hk_r0) hi_2) hf) ⟨Nat.le_of_ble_eq_true rfl, Nat.le_of_ble_eq_true rfl⟩ (Nat.le_of_ble_eq_true rfl) d_8_washStreets_21 (fun v_4 σ_3 hf H locs hG => ?_)
    refine lv_aload_n hx hb d_8_washStreets_24 rfl (lv_at hl 0 rfl) ?_
    refine gf_8_11 S hG hk_r0 d_8_washStreets_25 ?_
    refine lv_iload_n hx hb d_8_washStreets_28 rfl (lv_at hl 3 rfl) ?_
    refine mq3 S hG (kr_8_0 hk_r0) hf.1 d_8_washStreets_29 ?_
    have hi_5 := vin_lt hf.1
    have hf := hf.2
    refine lv_iconst (v := (1 : Int32)) hx hb d_8_washStreets_30 (by decide) ?_
    refine lv_iload_n hx hb d_8_washStreets_31 rfl (lv_at hl 1 rfl) ?_
    refine iv_8_133 S hl.1 hG (ke_23 (kr_8_0 hk_r0) hi_5) (c_6_washSide l (ke_23 (kr_8_0 hk_r0) hi_5) hf) ⟨Nat.le_of_ble_eq_true rfl, Nat.le_of_ble_eq_true rfl⟩ (Nat.le_of_ble_eq_true rfl) d_8_washStreets_32 (fun v_7 σ_6 hf H locs hG => ?_)
    refine lv_iadd hx hb d_8_washStreets_35 ?_
    refine lv_iadd hx hb d_8_washStreets_36 ?_
    refine lv_topi (fun x2_8 ex2_8 => ?_)
    have hf := hf x2_8 ex2_8
    refine lv_istore_n (lv' := [(2, .int x2_8), (0, .ref (ad r0)), (1, .int x1), (3, .int x3)]) hx hb d_8_washStreets_37 rfl hl (by decide) rfl (fun ls hl => ?_)
    obtain ⟨x3_9, ex3_9⟩ : ∃ y : Int32, y = x3 + 1 := ⟨_, rfl⟩
    have hf := hf x3_9 ex3_9
    refine lv_iinc (v := x3_9) (lv' := [(3, .int x3_9), (2, .int x2_8), (0, .ref (ad r0)), (1, .int x1)]) hx hb d_8_washStreets_38 hl (k := 3) rfl (by rw [ex3_9]; rfl) (by decide) rfl (fun ls hl => ?_)
    refine lv_goto (tgt := 4) hx hb d_8_washStreets_41 (by decide) ?_
    exact hB4 _ _ _ _ _ _   hG (lv_sub hl [2, 3, 1, 0] rfl) hf
set_option maxHeartbeats 4000000 in
set_option maxRecDepth 100000 in
theorem lp_8_washStreets_4 {r0 : Nat} {x1 : Int32} {Q : Int32 → St → Prop} (S : SC A D ac st p m c prog_10_method_21_code 4 s args "SweeperRounds$World" R cells slots 3 64) (hR : RtI A D ac ad p l e R s m args below meth c prog_10_method_21_code cells slots QW Q) (hk_r0 : kd r0 = 8) : ∀ (n : Nat) (x2 : Int32) (x3 : Int32) (σ : St) (H : Heap) (locs : List Loc) (ls : Array Slot), DG A D ac ad s σ H locs → lv_has ls 4 [(0, .ref (ad r0)), (1, .int x1), (2, .int x2), (3, .int x3)] → itN (m_8_washStreets_4 r0 x1 Q) (fun _ _ _ => False) n x2 x3 σ → W p l e R s m args below meth c H locs cells slots QW (F0 m 4 ls []) := by
  intro n
  induction n with
  | zero =>
    intro x2 x3 σ H locs ls  hG hl hf
    exact hf.elim
  | succ n ih =>
    intro x2 x3 σ H locs ls  hG hl hf
    exact w_8_washStreets_4 S hR hk_r0  ih hG hl hf
set_option maxHeartbeats 4000000 in
set_option maxRecDepth 100000 in
theorem w_8_washStreets_0 {r0 : Nat} {x1 : Int32} {Q : Int32 → St → Prop} {σ : St} {H : Heap} {locs : List Loc} {ls : Array Slot} (S : SC A D ac st p m c prog_10_method_21_code 4 s args "SweeperRounds$World" R cells slots 3 64) (hR : RtI A D ac ad p l e R s m args below meth c prog_10_method_21_code cells slots QW Q) (hk_r0 : kd r0 = 8) (hG : DG A D ac ad s σ H locs) (hl : lv_has ls 4 [(0, .ref (ad r0)), (1, .int x1)]) (hf : m_8_washStreets r0 x1 Q σ) : W p l e R s m args below meth c H locs cells slots QW (F0 m 0 ls []) := by
  have hx := S.1.1
  have hb := S.1.2.1
  unfold m_8_washStreets at hf
  refine lv_iconst (v := (0 : Int32)) hx hb d_8_washStreets_0 (by decide) ?_
  refine lv_istore_n (lv' := [(2, .int (0 : Int32)), (0, .ref (ad r0)), (1, .int x1)]) hx hb d_8_washStreets_1 rfl hl (by decide) rfl (fun ls hl => ?_)
  refine lv_iconst (v := (0 : Int32)) hx hb d_8_washStreets_2 (by decide) ?_
  refine lv_istore_n (lv' := [(3, .int (0 : Int32)), (2, .int (0 : Int32)), (0, .ref (ad r0)), (1, .int x1)]) hx hb d_8_washStreets_3 rfl hl (by decide) rfl (fun ls hl => ?_)
  exact lp_8_washStreets_4 S hR hk_r0  FU _ _ _ _ _ _  hG (lv_sub hl [2, 3, 1, 0] rfl) hf
theorem c_8_washStreets (l : Launch) {D : va_G} {ac : Nat → ClassId} {ad : Nat → Nat} {st : SS} {A : Nat → Prop} {σ : St} {r0 : Nat} {x1 : Int32} {Q : Int32 → St → Prop} (hk_r0 : kd r0 = 8) (hf : m_8_washStreets r0 x1 Q σ) : Met l y_8_washStreets (Cond.code y_8_washStreets prog_10_method_21_code 4 (some .int) :: wA) { frames := 3, cells := 0, slots := 0, locals := 64 } (va_Pc [.ref (ad r0), .int x1] (GSt A D ac ad st σ)) (va_Qi Q (GSt A D ac ad st) A) 0 0 A :=
  mkI l (by decide +kernel) rfl [.ref (ad r0), .int x1] (Nat.le_of_ble_eq_true rfl) (fun p e s m args below meth c ls QW S hR hG hl => w_8_washStreets_0 S hR hk_r0 hG hl hf)
end MB
