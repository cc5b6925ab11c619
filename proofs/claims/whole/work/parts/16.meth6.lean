theorem d_10_isNumber_0 : decode prog_12_method_44_code 0 = .ok (.iload_n 1, 1) := by decide +kernel
theorem d_10_isNumber_1 : decode prog_12_method_44_code 1 = .ok (.tableswitch 112 0 5 #[39, 46, 76, 84, 94, 103], 39) := by decide +kernel
theorem d_10_isNumber_40 : decode prog_12_method_44_code 40 = .ok (.iload_n 2, 1) := by decide +kernel
theorem d_10_isNumber_41 : decode prog_12_method_44_code 41 = .ok (.iconst 1, 1) := by decide +kernel
theorem d_10_isNumber_42 : decode prog_12_method_44_code 42 = .ok (.iconst 4, 1) := by decide +kernel
theorem d_10_isNumber_43 : decode prog_12_method_44_code 43 = .ok (.invokestatic 40, 3) := by decide +kernel
theorem d_10_isNumber_46 : decode prog_12_method_44_code 46 = .ok (.ireturn, 1) := by decide +kernel
theorem d_10_isNumber_47 : decode prog_12_method_44_code 47 = .ok (.iload_n 2, 1) := by decide +kernel
theorem d_10_isNumber_48 : decode prog_12_method_44_code 48 = .ok (.bipush 20, 2) := by decide +kernel
theorem d_10_isNumber_50 : decode prog_12_method_44_code 50 = .ok (.sipush 2000, 3) := by decide +kernel
theorem d_10_isNumber_53 : decode prog_12_method_44_code 53 = .ok (.invokestatic 40, 3) := by decide +kernel
theorem d_10_isNumber_56 : decode prog_12_method_44_code 56 = .ok (.ifCond .eq 19, 3) := by decide +kernel
theorem d_10_isNumber_59 : decode prog_12_method_44_code 59 = .ok (.iload_n 2, 1) := by decide +kernel
theorem d_10_isNumber_60 : decode prog_12_method_44_code 60 = .ok (.aload_n 0, 1) := by decide +kernel
theorem d_10_isNumber_61 : decode prog_12_method_44_code 61 = .ok (.getfield 7, 3) := by decide +kernel
theorem d_10_isNumber_64 : decode prog_12_method_44_code 64 = .ok (.sipush 506, 3) := by decide +kernel
theorem d_10_isNumber_67 : decode prog_12_method_44_code 67 = .ok (.iaload, 1) := by decide +kernel
theorem d_10_isNumber_68 : decode prog_12_method_44_code 68 = .ok (.if_icmp .lt 7, 3) := by decide +kernel
theorem d_10_isNumber_71 : decode prog_12_method_44_code 71 = .ok (.iconst 1, 1) := by decide +kernel
theorem d_10_isNumber_72 : decode prog_12_method_44_code 72 = .ok (.goto 4, 3) := by decide +kernel
theorem d_10_isNumber_75 : decode prog_12_method_44_code 75 = .ok (.iconst 0, 1) := by decide +kernel
theorem d_10_isNumber_76 : decode prog_12_method_44_code 76 = .ok (.ireturn, 1) := by decide +kernel
theorem d_10_isNumber_77 : decode prog_12_method_44_code 77 = .ok (.iload_n 2, 1) := by decide +kernel
theorem d_10_isNumber_78 : decode prog_12_method_44_code 78 = .ok (.iconst 0, 1) := by decide +kernel
theorem d_10_isNumber_79 : decode prog_12_method_44_code 79 = .ok (.bipush 9, 2) := by decide +kernel
theorem d_10_isNumber_81 : decode prog_12_method_44_code 81 = .ok (.invokestatic 40, 3) := by decide +kernel
theorem d_10_isNumber_84 : decode prog_12_method_44_code 84 = .ok (.ireturn, 1) := by decide +kernel
theorem d_10_isNumber_85 : decode prog_12_method_44_code 85 = .ok (.iload_n 2, 1) := by decide +kernel
theorem d_10_isNumber_86 : decode prog_12_method_44_code 86 = .ok (.bipush 100, 2) := by decide +kernel
theorem d_10_isNumber_88 : decode prog_12_method_44_code 88 = .ok (.sipush 6000, 3) := by decide +kernel
theorem d_10_isNumber_91 : decode prog_12_method_44_code 91 = .ok (.invokestatic 40, 3) := by decide +kernel
theorem d_10_isNumber_94 : decode prog_12_method_44_code 94 = .ok (.ireturn, 1) := by decide +kernel
theorem d_10_isNumber_95 : decode prog_12_method_44_code 95 = .ok (.iload_n 2, 1) := by decide +kernel
theorem d_10_isNumber_96 : decode prog_12_method_44_code 96 = .ok (.iconst 0, 1) := by decide +kernel
theorem d_10_isNumber_97 : decode prog_12_method_44_code 97 = .ok (.sipush 1000, 3) := by decide +kernel
theorem d_10_isNumber_100 : decode prog_12_method_44_code 100 = .ok (.invokestatic 40, 3) := by decide +kernel
theorem d_10_isNumber_103 : decode prog_12_method_44_code 103 = .ok (.ireturn, 1) := by decide +kernel
theorem d_10_isNumber_104 : decode prog_12_method_44_code 104 = .ok (.iload_n 2, 1) := by decide +kernel
theorem d_10_isNumber_105 : decode prog_12_method_44_code 105 = .ok (.iconst 0, 1) := by decide +kernel
theorem d_10_isNumber_106 : decode prog_12_method_44_code 106 = .ok (.sipush 400, 3) := by decide +kernel
theorem d_10_isNumber_109 : decode prog_12_method_44_code 109 = .ok (.invokestatic 40, 3) := by decide +kernel
theorem d_10_isNumber_112 : decode prog_12_method_44_code 112 = .ok (.ireturn, 1) := by decide +kernel
theorem d_10_isNumber_113 : decode prog_12_method_44_code 113 = .ok (.iconst 0, 1) := by decide +kernel
theorem d_10_isNumber_114 : decode prog_12_method_44_code 114 = .ok (.ireturn, 1) := by decide +kernel
def m_10_isNumber (r0 : Nat) (x1 : Int32) (x2 : Int32) (Q : Int32 → St → Prop) (σ : St) : Prop :=
  (((x1.toInt < 0 ∨ 5 < x1.toInt) → Q (0 : Int32) σ) ∧ (x1 = 0 → m_10_in x2 (1 : Int32) (4 : Int32) (fun (v_3 : Int32) (σ_2 : St) => (isB v_3 ∧ Q v_3 σ_2)) σ) ∧ (x1 = 1 → m_10_in x2 (20 : Int32) (2000 : Int32) (fun (v_5 : Int32) (σ_4 : St) => ((v_5 = 0 → Q (0 : Int32) σ_4) ∧ (¬ v_5 = 0 → vp_in (506 : Int32) 5640 ∧ ((x2 < (σ_4.1 (r0 + 1) ((506 : Int32)).toNatClampNeg) → Q (0 : Int32) σ_4) ∧ (¬ x2 < (σ_4.1 (r0 + 1) ((506 : Int32)).toNatClampNeg) → Q (1 : Int32) σ_4))))) σ) ∧ (x1 = 2 → m_10_in x2 (0 : Int32) (9 : Int32) (fun (v_7 : Int32) (σ_6 : St) => (isB v_7 ∧ Q v_7 σ_6)) σ) ∧ (x1 = 3 → m_10_in x2 (100 : Int32) (6000 : Int32) (fun (v_9 : Int32) (σ_8 : St) => (isB v_9 ∧ Q v_9 σ_8)) σ) ∧ (x1 = 4 → m_10_in x2 (0 : Int32) (1000 : Int32) (fun (v_11 : Int32) (σ_10 : St) => (isB v_11 ∧ Q v_11 σ_10)) σ) ∧ (x1 = 5 → m_10_in x2 (0 : Int32) (400 : Int32) (fun (v_13 : Int32) (σ_12 : St) => (isB v_13 ∧ Q v_13 σ_12)) σ))
theorem d_10_set_0 : decode prog_12_method_45_code 0 = .ok (.aload_n 0, 1) := by decide +kernel
theorem d_10_set_1 : decode prog_12_method_45_code 1 = .ok (.iload_n 1, 1) := by decide +kernel
theorem d_10_set_2 : decode prog_12_method_45_code 2 = .ok (.iload_n 2, 1) := by decide +kernel
theorem d_10_set_3 : decode prog_12_method_45_code 3 = .ok (.invokevirtual 142, 3) := by decide +kernel
theorem d_10_set_6 : decode prog_12_method_45_code 6 = .ok (.ifCond .ne 5, 3) := by decide +kernel
theorem d_10_set_9 : decode prog_12_method_45_code 9 = .ok (.iconst (-1), 1) := by decide +kernel
theorem d_10_set_10 : decode prog_12_method_45_code 10 = .ok (.ireturn, 1) := by decide +kernel
theorem d_10_set_11 : decode prog_12_method_45_code 11 = .ok (.aload_n 0, 1) := by decide +kernel
theorem d_10_set_12 : decode prog_12_method_45_code 12 = .ok (.invokevirtual 56, 3) := by decide +kernel
theorem d_10_set_15 : decode prog_12_method_45_code 15 = .ok (.aload_n 0, 1) := by decide +kernel
theorem d_10_set_16 : decode prog_12_method_45_code 16 = .ok (.getfield 7, 3) := by decide +kernel
theorem d_10_set_19 : decode prog_12_method_45_code 19 = .ok (.sipush 499, 3) := by decide +kernel
theorem d_10_set_22 : decode prog_12_method_45_code 22 = .ok (.iload_n 1, 1) := by decide +kernel
theorem d_10_set_23 : decode prog_12_method_45_code 23 = .ok (.iadd, 1) := by decide +kernel
theorem d_10_set_24 : decode prog_12_method_45_code 24 = .ok (.iaload, 1) := by decide +kernel
theorem d_10_set_25 : decode prog_12_method_45_code 25 = .ok (.istore_n 3, 1) := by decide +kernel
theorem d_10_set_26 : decode prog_12_method_45_code 26 = .ok (.aload_n 0, 1) := by decide +kernel
theorem d_10_set_27 : decode prog_12_method_45_code 27 = .ok (.getfield 7, 3) := by decide +kernel
theorem d_10_set_30 : decode prog_12_method_45_code 30 = .ok (.sipush 499, 3) := by decide +kernel
theorem d_10_set_33 : decode prog_12_method_45_code 33 = .ok (.iload_n 1, 1) := by decide +kernel
theorem d_10_set_34 : decode prog_12_method_45_code 34 = .ok (.iadd, 1) := by decide +kernel
theorem d_10_set_35 : decode prog_12_method_45_code 35 = .ok (.iload_n 2, 1) := by decide +kernel
theorem d_10_set_36 : decode prog_12_method_45_code 36 = .ok (.iastore, 1) := by decide +kernel
theorem d_10_set_37 : decode prog_12_method_45_code 37 = .ok (.iload_n 3, 1) := by decide +kernel
theorem d_10_set_38 : decode prog_12_method_45_code 38 = .ok (.ireturn, 1) := by decide +kernel
def m_10_set (r0 : Nat) (x1 : Int32) (x2 : Int32) (Q : Int32 → St → Prop) (σ : St) : Prop :=
  m_10_isNumber r0 x1 x2 (fun (v_2 : Int32) (σ_1 : St) => ((¬ v_2 = 0 → m_10_records r0 (fun (σ_3 : St) => vp_in ((499 : Int32) + x1) 5640 ∧ ∀ x3_5 : Int32, x3_5 = (σ_3.1 (r0 + 1) (((499 : Int32) + x1)).toNatClampNeg) → vp_in ((499 : Int32) + x1) 5640 ∧ ∀ σ_6 : St, σ_6 = wr σ_3 (r0 + 1) (((499 : Int32) + x1)).toNatClampNeg x2 → Q x3_5 σ_6) σ_1) ∧ (v_2 = 0 → Q (-1 : Int32) σ_1))) σ
theorem d_10_addLeg_0 : decode prog_12_method_46_code 0 = .ok (.aload_n 0, 1) := by decide +kernel
theorem d_10_addLeg_1 : decode prog_12_method_46_code 1 = .ok (.iload_n 1, 1) := by decide +kernel
theorem d_10_addLeg_2 : decode prog_12_method_46_code 2 = .ok (.invokevirtual 44, 3) := by decide +kernel
theorem d_10_addLeg_5 : decode prog_12_method_46_code 5 = .ok (.ifCond .eq 12, 3) := by decide +kernel
theorem d_10_addLeg_8 : decode prog_12_method_46_code 8 = .ok (.iload_n 2, 1) := by decide +kernel
theorem d_10_addLeg_9 : decode prog_12_method_46_code 9 = .ok (.iconst 0, 1) := by decide +kernel
theorem d_10_addLeg_10 : decode prog_12_method_46_code 10 = .ok (.iconst 1, 1) := by decide +kernel
theorem d_10_addLeg_11 : decode prog_12_method_46_code 11 = .ok (.invokestatic 40, 3) := by decide +kernel
theorem d_10_addLeg_14 : decode prog_12_method_46_code 14 = .ok (.ifCond .ne 5, 3) := by decide +kernel
theorem d_10_addLeg_17 : decode prog_12_method_46_code 17 = .ok (.iconst (-1), 1) := by decide +kernel
theorem d_10_addLeg_18 : decode prog_12_method_46_code 18 = .ok (.ireturn, 1) := by decide +kernel
theorem d_10_addLeg_19 : decode prog_12_method_46_code 19 = .ok (.aload_n 0, 1) := by decide +kernel
theorem d_10_addLeg_20 : decode prog_12_method_46_code 20 = .ok (.getfield 7, 3) := by decide +kernel
theorem d_10_addLeg_23 : decode prog_12_method_46_code 23 = .ok (.sipush 507, 3) := by decide +kernel
theorem d_10_addLeg_26 : decode prog_12_method_46_code 26 = .ok (.iaload, 1) := by decide +kernel
theorem d_10_addLeg_27 : decode prog_12_method_46_code 27 = .ok (.bipush 10, 2) := by decide +kernel
theorem d_10_addLeg_29 : decode prog_12_method_46_code 29 = .ok (.if_icmp .ne 6, 3) := by decide +kernel
theorem d_10_addLeg_32 : decode prog_12_method_46_code 32 = .ok (.bipush (-3), 2) := by decide +kernel
theorem d_10_addLeg_34 : decode prog_12_method_46_code 34 = .ok (.ireturn, 1) := by decide +kernel
theorem d_10_addLeg_35 : decode prog_12_method_46_code 35 = .ok (.aload_n 0, 1) := by decide +kernel
theorem d_10_addLeg_36 : decode prog_12_method_46_code 36 = .ok (.invokevirtual 56, 3) := by decide +kernel
theorem d_10_addLeg_39 : decode prog_12_method_46_code 39 = .ok (.aload_n 0, 1) := by decide +kernel
theorem d_10_addLeg_40 : decode prog_12_method_46_code 40 = .ok (.getfield 7, 3) := by decide +kernel
theorem d_10_addLeg_43 : decode prog_12_method_46_code 43 = .ok (.sipush 548, 3) := by decide +kernel
theorem d_10_addLeg_46 : decode prog_12_method_46_code 46 = .ok (.iconst 0, 1) := by decide +kernel
theorem d_10_addLeg_47 : decode prog_12_method_46_code 47 = .ok (.iastore, 1) := by decide +kernel
theorem d_10_addLeg_48 : decode prog_12_method_46_code 48 = .ok (.aload_n 0, 1) := by decide +kernel
theorem d_10_addLeg_49 : decode prog_12_method_46_code 49 = .ok (.getfield 7, 3) := by decide +kernel
theorem d_10_addLeg_52 : decode prog_12_method_46_code 52 = .ok (.sipush 508, 3) := by decide +kernel
theorem d_10_addLeg_55 : decode prog_12_method_46_code 55 = .ok (.iconst 4, 1) := by decide +kernel
theorem d_10_addLeg_56 : decode prog_12_method_46_code 56 = .ok (.aload_n 0, 1) := by decide +kernel
theorem d_10_addLeg_57 : decode prog_12_method_46_code 57 = .ok (.getfield 7, 3) := by decide +kernel
theorem d_10_addLeg_60 : decode prog_12_method_46_code 60 = .ok (.sipush 507, 3) := by decide +kernel
theorem d_10_addLeg_63 : decode prog_12_method_46_code 63 = .ok (.iaload, 1) := by decide +kernel
theorem d_10_addLeg_64 : decode prog_12_method_46_code 64 = .ok (.imul, 1) := by decide +kernel
theorem d_10_addLeg_65 : decode prog_12_method_46_code 65 = .ok (.iadd, 1) := by decide +kernel
theorem d_10_addLeg_66 : decode prog_12_method_46_code 66 = .ok (.iload_n 1, 1) := by decide +kernel
theorem d_10_addLeg_67 : decode prog_12_method_46_code 67 = .ok (.iastore, 1) := by decide +kernel
theorem d_10_addLeg_68 : decode prog_12_method_46_code 68 = .ok (.aload_n 0, 1) := by decide +kernel
theorem d_10_addLeg_69 : decode prog_12_method_46_code 69 = .ok (.getfield 7, 3) := by decide +kernel
theorem d_10_addLeg_72 : decode prog_12_method_46_code 72 = .ok (.sipush 508, 3) := by decide +kernel
theorem d_10_addLeg_75 : decode prog_12_method_46_code 75 = .ok (.iconst 4, 1) := by decide +kernel
theorem d_10_addLeg_76 : decode prog_12_method_46_code 76 = .ok (.aload_n 0, 1) := by decide +kernel
theorem d_10_addLeg_77 : decode prog_12_method_46_code 77 = .ok (.getfield 7, 3) := by decide +kernel
theorem d_10_addLeg_80 : decode prog_12_method_46_code 80 = .ok (.sipush 507, 3) := by decide +kernel
theorem d_10_addLeg_83 : decode prog_12_method_46_code 83 = .ok (.iaload, 1) := by decide +kernel
theorem d_10_addLeg_84 : decode prog_12_method_46_code 84 = .ok (.imul, 1) := by decide +kernel
theorem d_10_addLeg_85 : decode prog_12_method_46_code 85 = .ok (.iadd, 1) := by decide +kernel
theorem d_10_addLeg_86 : decode prog_12_method_46_code 86 = .ok (.iconst 1, 1) := by decide +kernel
theorem d_10_addLeg_87 : decode prog_12_method_46_code 87 = .ok (.iadd, 1) := by decide +kernel
theorem d_10_addLeg_88 : decode prog_12_method_46_code 88 = .ok (.iload_n 2, 1) := by decide +kernel
theorem d_10_addLeg_89 : decode prog_12_method_46_code 89 = .ok (.iastore, 1) := by decide +kernel
theorem d_10_addLeg_90 : decode prog_12_method_46_code 90 = .ok (.aload_n 0, 1) := by decide +kernel
theorem d_10_addLeg_91 : decode prog_12_method_46_code 91 = .ok (.getfield 7, 3) := by decide +kernel
theorem d_10_addLeg_94 : decode prog_12_method_46_code 94 = .ok (.sipush 507, 3) := by decide +kernel
theorem d_10_addLeg_97 : decode prog_12_method_46_code 97 = .ok (.dup2, 1) := by decide +kernel
theorem d_10_addLeg_98 : decode prog_12_method_46_code 98 = .ok (.iaload, 1) := by decide +kernel
theorem d_10_addLeg_99 : decode prog_12_method_46_code 99 = .ok (.iconst 1, 1) := by decide +kernel
theorem d_10_addLeg_100 : decode prog_12_method_46_code 100 = .ok (.iadd, 1) := by decide +kernel
theorem d_10_addLeg_101 : decode prog_12_method_46_code 101 = .ok (.iastore, 1) := by decide +kernel
theorem d_10_addLeg_102 : decode prog_12_method_46_code 102 = .ok (.aload_n 0, 1) := by decide +kernel
theorem d_10_addLeg_103 : decode prog_12_method_46_code 103 = .ok (.getfield 7, 3) := by decide +kernel
theorem d_10_addLeg_106 : decode prog_12_method_46_code 106 = .ok (.sipush 507, 3) := by decide +kernel
theorem d_10_addLeg_109 : decode prog_12_method_46_code 109 = .ok (.iaload, 1) := by decide +kernel
theorem d_10_addLeg_110 : decode prog_12_method_46_code 110 = .ok (.iconst 1, 1) := by decide +kernel
theorem d_10_addLeg_111 : decode prog_12_method_46_code 111 = .ok (.isub, 1) := by decide +kernel
theorem d_10_addLeg_112 : decode prog_12_method_46_code 112 = .ok (.ireturn, 1) := by decide +kernel
def m_10_addLeg (r0 : Nat) (x1 : Int32) (x2 : Int32) (Q : Int32 → St → Prop) (σ : St) : Prop :=
  m_10_isStreet r0 x1 (fun (v_2 : Int32) (σ_1 : St) => ((v_2 = 0 → Q (-1 : Int32) σ_1) ∧ (¬ v_2 = 0 → m_10_in x2 (0 : Int32) (1 : Int32) (fun (v_4 : Int32) (σ_3 : St) => ((¬ v_4 = 0 → vp_in (507 : Int32) 5640 ∧ ((¬ (σ_3.1 (r0 + 1) ((507 : Int32)).toNatClampNeg) = (10 : Int32) → m_10_records r0 (fun (σ_5 : St) => vp_in (548 : Int32) 5640 ∧ ∀ σ_7 : St, σ_7 = wr σ_5 (r0 + 1) ((548 : Int32)).toNatClampNeg (0 : Int32) → vp_in (507 : Int32) 5640 ∧ vp_in ((508 : Int32) + ((4 : Int32) * (σ_7.1 (r0 + 1) ((507 : Int32)).toNatClampNeg))) 5640 ∧ ∀ σ_8 : St, σ_8 = wr σ_7 (r0 + 1) (((508 : Int32) + ((4 : Int32) * (σ_7.1 (r0 + 1) ((507 : Int32)).toNatClampNeg)))).toNatClampNeg x1 → vp_in (507 : Int32) 5640 ∧ vp_in (((508 : Int32) + ((4 : Int32) * (σ_8.1 (r0 + 1) ((507 : Int32)).toNatClampNeg))) + (1 : Int32)) 5640 ∧ ∀ σ_9 : St, σ_9 = wr σ_8 (r0 + 1) ((((508 : Int32) + ((4 : Int32) * (σ_8.1 (r0 + 1) ((507 : Int32)).toNatClampNeg))) + (1 : Int32))).toNatClampNeg x2 → vp_in (507 : Int32) 5640 ∧ vp_in (507 : Int32) 5640 ∧ ∀ σ_10 : St, σ_10 = wr σ_9 (r0 + 1) ((507 : Int32)).toNatClampNeg ((σ_9.1 (r0 + 1) ((507 : Int32)).toNatClampNeg) + (1 : Int32)) → vp_in (507 : Int32) 5640 ∧ Q ((σ_10.1 (r0 + 1) ((507 : Int32)).toNatClampNeg) - (1 : Int32)) σ_10) σ_3) ∧ ((σ_3.1 (r0 + 1) ((507 : Int32)).toNatClampNeg) = (10 : Int32) → Q (-3 : Int32) σ_3))) ∧ (v_4 = 0 → Q (-1 : Int32) σ_3))) σ_1))) σ
theorem d_10_isLeg_0 : decode prog_12_method_47_code 0 = .ok (.iload_n 1, 1) := by decide +kernel
theorem d_10_isLeg_1 : decode prog_12_method_47_code 1 = .ok (.iconst 0, 1) := by decide +kernel
theorem d_10_isLeg_2 : decode prog_12_method_47_code 2 = .ok (.aload_n 0, 1) := by decide +kernel
theorem d_10_isLeg_3 : decode prog_12_method_47_code 3 = .ok (.getfield 7, 3) := by decide +kernel
theorem d_10_isLeg_6 : decode prog_12_method_47_code 6 = .ok (.sipush 507, 3) := by decide +kernel
theorem d_10_isLeg_9 : decode prog_12_method_47_code 9 = .ok (.iaload, 1) := by decide +kernel
theorem d_10_isLeg_10 : decode prog_12_method_47_code 10 = .ok (.iconst 1, 1) := by decide +kernel
theorem d_10_isLeg_11 : decode prog_12_method_47_code 11 = .ok (.isub, 1) := by decide +kernel
theorem d_10_isLeg_12 : decode prog_12_method_47_code 12 = .ok (.invokestatic 40, 3) := by decide +kernel
theorem d_10_isLeg_15 : decode prog_12_method_47_code 15 = .ok (.ireturn, 1) := by decide +kernel
def m_10_isLeg (r0 : Nat) (x1 : Int32) (Q : Int32 → St → Prop) (σ : St) : Prop :=
  vp_in (507 : Int32) 5640 ∧ m_10_in x1 (0 : Int32) ((σ.1 (r0 + 1) ((507 : Int32)).toNatClampNeg) - (1 : Int32)) (fun (v_2 : Int32) (σ_1 : St) => (isB v_2 ∧ Q v_2 σ_1)) σ
theorem d_10_dropLeg_0 : decode prog_12_method_48_code 0 = .ok (.aload_n 0, 1) := by decide +kernel
theorem d_10_dropLeg_1 : decode prog_12_method_48_code 1 = .ok (.iload_n 1, 1) := by decide +kernel
theorem d_10_dropLeg_2 : decode prog_12_method_48_code 2 = .ok (.invokevirtual 145, 3) := by decide +kernel
theorem d_10_dropLeg_5 : decode prog_12_method_48_code 5 = .ok (.ifCond .ne 5, 3) := by decide +kernel
theorem d_10_dropLeg_8 : decode prog_12_method_48_code 8 = .ok (.iconst (-1), 1) := by decide +kernel
theorem d_10_dropLeg_9 : decode prog_12_method_48_code 9 = .ok (.ireturn, 1) := by decide +kernel
theorem d_10_dropLeg_10 : decode prog_12_method_48_code 10 = .ok (.aload_n 0, 1) := by decide +kernel
theorem d_10_dropLeg_11 : decode prog_12_method_48_code 11 = .ok (.invokevirtual 56, 3) := by decide +kernel
theorem d_10_dropLeg_14 : decode prog_12_method_48_code 14 = .ok (.aload_n 0, 1) := by decide +kernel
theorem d_10_dropLeg_15 : decode prog_12_method_48_code 15 = .ok (.getfield 7, 3) := by decide +kernel
theorem d_10_dropLeg_18 : decode prog_12_method_48_code 18 = .ok (.sipush 548, 3) := by decide +kernel
theorem d_10_dropLeg_21 : decode prog_12_method_48_code 21 = .ok (.iconst 0, 1) := by decide +kernel
theorem d_10_dropLeg_22 : decode prog_12_method_48_code 22 = .ok (.iastore, 1) := by decide +kernel
theorem d_10_dropLeg_23 : decode prog_12_method_48_code 23 = .ok (.aload_n 0, 1) := by decide +kernel
theorem d_10_dropLeg_24 : decode prog_12_method_48_code 24 = .ok (.getfield 7, 3) := by decide +kernel
theorem d_10_dropLeg_27 : decode prog_12_method_48_code 27 = .ok (.sipush 507, 3) := by decide +kernel
theorem d_10_dropLeg_30 : decode prog_12_method_48_code 30 = .ok (.dup2, 1) := by decide +kernel
theorem d_10_dropLeg_31 : decode prog_12_method_48_code 31 = .ok (.iaload, 1) := by decide +kernel
theorem d_10_dropLeg_32 : decode prog_12_method_48_code 32 = .ok (.iconst 1, 1) := by decide +kernel
theorem d_10_dropLeg_33 : decode prog_12_method_48_code 33 = .ok (.isub, 1) := by decide +kernel
theorem d_10_dropLeg_34 : decode prog_12_method_48_code 34 = .ok (.iastore, 1) := by decide +kernel
theorem d_10_dropLeg_35 : decode prog_12_method_48_code 35 = .ok (.sipush 508, 3) := by decide +kernel
theorem d_10_dropLeg_38 : decode prog_12_method_48_code 38 = .ok (.iconst 4, 1) := by decide +kernel
theorem d_10_dropLeg_39 : decode prog_12_method_48_code 39 = .ok (.iload_n 1, 1) := by decide +kernel
theorem d_10_dropLeg_40 : decode prog_12_method_48_code 40 = .ok (.imul, 1) := by decide +kernel
theorem d_10_dropLeg_41 : decode prog_12_method_48_code 41 = .ok (.iadd, 1) := by decide +kernel
theorem d_10_dropLeg_42 : decode prog_12_method_48_code 42 = .ok (.istore_n 2, 1) := by decide +kernel
theorem d_10_dropLeg_43 : decode prog_12_method_48_code 43 = .ok (.iload_n 2, 1) := by decide +kernel
theorem d_10_dropLeg_44 : decode prog_12_method_48_code 44 = .ok (.sipush 508, 3) := by decide +kernel
theorem d_10_dropLeg_47 : decode prog_12_method_48_code 47 = .ok (.iconst 4, 1) := by decide +kernel
theorem d_10_dropLeg_48 : decode prog_12_method_48_code 48 = .ok (.aload_n 0, 1) := by decide +kernel
theorem d_10_dropLeg_49 : decode prog_12_method_48_code 49 = .ok (.getfield 7, 3) := by decide +kernel
theorem d_10_dropLeg_52 : decode prog_12_method_48_code 52 = .ok (.sipush 507, 3) := by decide +kernel
theorem d_10_dropLeg_55 : decode prog_12_method_48_code 55 = .ok (.iaload, 1) := by decide +kernel
theorem d_10_dropLeg_56 : decode prog_12_method_48_code 56 = .ok (.imul, 1) := by decide +kernel
theorem d_10_dropLeg_57 : decode prog_12_method_48_code 57 = .ok (.iadd, 1) := by decide +kernel
theorem d_10_dropLeg_58 : decode prog_12_method_48_code 58 = .ok (.if_icmp .ge 23, 3) := by decide +kernel
theorem d_10_dropLeg_61 : decode prog_12_method_48_code 61 = .ok (.aload_n 0, 1) := by decide +kernel
theorem d_10_dropLeg_62 : decode prog_12_method_48_code 62 = .ok (.getfield 7, 3) := by decide +kernel
theorem d_10_dropLeg_65 : decode prog_12_method_48_code 65 = .ok (.iload_n 2, 1) := by decide +kernel
theorem d_10_dropLeg_66 : decode prog_12_method_48_code 66 = .ok (.aload_n 0, 1) := by decide +kernel
theorem d_10_dropLeg_67 : decode prog_12_method_48_code 67 = .ok (.getfield 7, 3) := by decide +kernel
theorem d_10_dropLeg_70 : decode prog_12_method_48_code 70 = .ok (.iload_n 2, 1) := by decide +kernel
theorem d_10_dropLeg_71 : decode prog_12_method_48_code 71 = .ok (.iconst 4, 1) := by decide +kernel
theorem d_10_dropLeg_72 : decode prog_12_method_48_code 72 = .ok (.iadd, 1) := by decide +kernel
theorem d_10_dropLeg_73 : decode prog_12_method_48_code 73 = .ok (.iaload, 1) := by decide +kernel
theorem d_10_dropLeg_74 : decode prog_12_method_48_code 74 = .ok (.iastore, 1) := by decide +kernel
theorem d_10_dropLeg_75 : decode prog_12_method_48_code 75 = .ok (.iinc 2 1, 3) := by decide +kernel
theorem d_10_dropLeg_78 : decode prog_12_method_48_code 78 = .ok (.goto (-35), 3) := by decide +kernel
theorem d_10_dropLeg_81 : decode prog_12_method_48_code 81 = .ok (.aload_n 0, 1) := by decide +kernel
theorem d_10_dropLeg_82 : decode prog_12_method_48_code 82 = .ok (.getfield 7, 3) := by decide +kernel
theorem d_10_dropLeg_85 : decode prog_12_method_48_code 85 = .ok (.sipush 507, 3) := by decide +kernel
theorem d_10_dropLeg_88 : decode prog_12_method_48_code 88 = .ok (.iaload, 1) := by decide +kernel
theorem d_10_dropLeg_89 : decode prog_12_method_48_code 89 = .ok (.ireturn, 1) := by decide +kernel
def m_10_dropLeg_43 (r0 : Nat) (Q : Int32 → St → Prop) (B43 : Int32 → St → Prop) (x2 : Int32) (σ : St) : Prop :=
  vp_in (507 : Int32) 5640 ∧ ((((508 : Int32) + ((4 : Int32) * (σ.1 (r0 + 1) ((507 : Int32)).toNatClampNeg))) ≤ x2 → vp_in (507 : Int32) 5640 ∧ Q (σ.1 (r0 + 1) ((507 : Int32)).toNatClampNeg) σ) ∧ (¬ ((508 : Int32) + ((4 : Int32) * (σ.1 (r0 + 1) ((507 : Int32)).toNatClampNeg))) ≤ x2 → vp_in (x2 + (4 : Int32)) 5640 ∧ vp_in x2 5640 ∧ ∀ σ_1 : St, σ_1 = wr σ (r0 + 1) (x2).toNatClampNeg (σ.1 (r0 + 1) ((x2 + (4 : Int32))).toNatClampNeg) → ∀ x2_2 : Int32, x2_2 = x2 + 1 → B43 x2_2 σ_1))
def m_10_dropLeg (r0 : Nat) (x1 : Int32) (Q : Int32 → St → Prop) (σ : St) : Prop :=
  m_10_isLeg r0 x1 (fun (v_2 : Int32) (σ_1 : St) => ((¬ v_2 = 0 → m_10_records r0 (fun (σ_3 : St) => vp_in (548 : Int32) 5640 ∧ ∀ σ_5 : St, σ_5 = wr σ_3 (r0 + 1) ((548 : Int32)).toNatClampNeg (0 : Int32) → vp_in (507 : Int32) 5640 ∧ vp_in (507 : Int32) 5640 ∧ ∀ σ_6 : St, σ_6 = wr σ_5 (r0 + 1) ((507 : Int32)).toNatClampNeg ((σ_5.1 (r0 + 1) ((507 : Int32)).toNatClampNeg) - (1 : Int32)) → ∀ x2_7 : Int32, x2_7 = ((508 : Int32) + ((4 : Int32) * x1)) → itN (m_10_dropLeg_43 r0 Q) (fun _ _ => False) FU x2_7 σ_6) σ_1) ∧ (v_2 = 0 → Q (-1 : Int32) σ_1))) σ
theorem d_10_leg_0 : decode prog_12_method_49_code 0 = .ok (.aload_n 0, 1) := by decide +kernel
theorem d_10_leg_1 : decode prog_12_method_49_code 1 = .ok (.iload_n 1, 1) := by decide +kernel
theorem d_10_leg_2 : decode prog_12_method_49_code 2 = .ok (.invokevirtual 145, 3) := by decide +kernel
theorem d_10_leg_5 : decode prog_12_method_49_code 5 = .ok (.ifCond .eq 12, 3) := by decide +kernel
theorem d_10_leg_8 : decode prog_12_method_49_code 8 = .ok (.iload_n 2, 1) := by decide +kernel
theorem d_10_leg_9 : decode prog_12_method_49_code 9 = .ok (.iconst 0, 1) := by decide +kernel
theorem d_10_leg_10 : decode prog_12_method_49_code 10 = .ok (.iconst 3, 1) := by decide +kernel
theorem d_10_leg_11 : decode prog_12_method_49_code 11 = .ok (.invokestatic 40, 3) := by decide +kernel
theorem d_10_leg_14 : decode prog_12_method_49_code 14 = .ok (.ifCond .ne 5, 3) := by decide +kernel
theorem d_10_leg_17 : decode prog_12_method_49_code 17 = .ok (.iconst (-1), 1) := by decide +kernel
theorem d_10_leg_18 : decode prog_12_method_49_code 18 = .ok (.ireturn, 1) := by decide +kernel
theorem d_10_leg_19 : decode prog_12_method_49_code 19 = .ok (.iload_n 2, 1) := by decide +kernel
theorem d_10_leg_20 : decode prog_12_method_49_code 20 = .ok (.iconst 1, 1) := by decide +kernel
theorem d_10_leg_21 : decode prog_12_method_49_code 21 = .ok (.if_icmp .le 19, 3) := by decide +kernel
theorem d_10_leg_24 : decode prog_12_method_49_code 24 = .ok (.aload_n 0, 1) := by decide +kernel
theorem d_10_leg_25 : decode prog_12_method_49_code 25 = .ok (.getfield 7, 3) := by decide +kernel
theorem d_10_leg_28 : decode prog_12_method_49_code 28 = .ok (.sipush 548, 3) := by decide +kernel
theorem d_10_leg_31 : decode prog_12_method_49_code 31 = .ok (.iaload, 1) := by decide +kernel
theorem d_10_leg_32 : decode prog_12_method_49_code 32 = .ok (.ifCond .ne 8, 3) := by decide +kernel
theorem d_10_leg_35 : decode prog_12_method_49_code 35 = .ok (.bipush (-2), 2) := by decide +kernel
theorem d_10_leg_37 : decode prog_12_method_49_code 37 = .ok (.goto 9, 3) := by decide +kernel
theorem d_10_leg_40 : decode prog_12_method_49_code 40 = .ok (.aload_n 0, 1) := by decide +kernel
theorem d_10_leg_41 : decode prog_12_method_49_code 41 = .ok (.iload_n 1, 1) := by decide +kernel
theorem d_10_leg_42 : decode prog_12_method_49_code 42 = .ok (.iload_n 2, 1) := by decide +kernel
theorem d_10_leg_43 : decode prog_12_method_49_code 43 = .ok (.invokevirtual 69, 3) := by decide +kernel
theorem d_10_leg_46 : decode prog_12_method_49_code 46 = .ok (.ireturn, 1) := by decide +kernel
def m_10_leg_40 (r0 : Nat) (x1 : Int32) (x2 : Int32) (Q : Int32 → St → Prop) (σ : St) : Prop :=
  m_10_legOf r0 x1 x2 (fun (v_2 : Int32) (σ_1 : St) => Q v_2 σ_1) σ
def m_10_leg (r0 : Nat) (x1 : Int32) (x2 : Int32) (Q : Int32 → St → Prop) (σ : St) : Prop :=
  m_10_isLeg r0 x1 (fun (v_2 : Int32) (σ_1 : St) => ((v_2 = 0 → Q (-1 : Int32) σ_1) ∧ (¬ v_2 = 0 → m_10_in x2 (0 : Int32) (3 : Int32) (fun (v_4 : Int32) (σ_3 : St) => ((¬ v_4 = 0 → ((x2 ≤ (1 : Int32) → m_10_leg_40 r0 x1 x2 Q   σ_3) ∧ (¬ x2 ≤ (1 : Int32) → vp_in (548 : Int32) 5640 ∧ ((¬ (σ_3.1 (r0 + 1) ((548 : Int32)).toNatClampNeg) = 0 → m_10_leg_40 r0 x1 x2 Q   σ_3) ∧ ((σ_3.1 (r0 + 1) ((548 : Int32)).toNatClampNeg) = 0 → Q (-2 : Int32) σ_3))))) ∧ (v_4 = 0 → Q (-1 : Int32) σ_3))) σ_1))) σ
theorem d_10_latestOf_0 : decode prog_12_method_50_code 0 = .ok (.aload_n 0, 1) := by decide +kernel
theorem d_10_latestOf_1 : decode prog_12_method_50_code 1 = .ok (.getfield 7, 3) := by decide +kernel
theorem d_10_latestOf_4 : decode prog_12_method_50_code 4 = .ok (.sipush 549, 3) := by decide +kernel
theorem d_10_latestOf_7 : decode prog_12_method_50_code 7 = .ok (.iload_n 1, 1) := by decide +kernel
theorem d_10_latestOf_8 : decode prog_12_method_50_code 8 = .ok (.iadd, 1) := by decide +kernel
theorem d_10_latestOf_9 : decode prog_12_method_50_code 9 = .ok (.iaload, 1) := by decide +kernel
theorem d_10_latestOf_10 : decode prog_12_method_50_code 10 = .ok (.ireturn, 1) := by decide +kernel
def m_10_latestOf (r0 : Nat) (x1 : Int32) (Q : Int32 → St → Prop) (σ : St) : Prop :=
  vp_in ((549 : Int32) + x1) 5640 ∧ Q (σ.1 (r0 + 1) (((549 : Int32) + x1)).toNatClampNeg) σ
theorem d_10_adds_0 : decode prog_12_method_51_code 0 = .ok (.aload_n 0, 1) := by decide +kernel
theorem d_10_adds_1 : decode prog_12_method_51_code 1 = .ok (.getfield 7, 3) := by decide +kernel
theorem d_10_adds_4 : decode prog_12_method_51_code 4 = .ok (.sipush 549, 3) := by decide +kernel
theorem d_10_adds_7 : decode prog_12_method_51_code 7 = .ok (.iload_n 1, 1) := by decide +kernel
theorem d_10_adds_8 : decode prog_12_method_51_code 8 = .ok (.iadd, 1) := by decide +kernel
theorem d_10_adds_9 : decode prog_12_method_51_code 9 = .ok (.dup2, 1) := by decide +kernel
theorem d_10_adds_10 : decode prog_12_method_51_code 10 = .ok (.iaload, 1) := by decide +kernel
theorem d_10_adds_11 : decode prog_12_method_51_code 11 = .ok (.iload_n 2, 1) := by decide +kernel
theorem d_10_adds_12 : decode prog_12_method_51_code 12 = .ok (.iadd, 1) := by decide +kernel
theorem d_10_adds_13 : decode prog_12_method_51_code 13 = .ok (.iastore, 1) := by decide +kernel
theorem d_10_adds_14 : decode prog_12_method_51_code 14 = .ok (.return_, 1) := by decide +kernel
def m_10_adds (r0 : Nat) (x1 : Int32) (x2 : Int32) (Q : St → Prop) (σ : St) : Prop :=
  vp_in ((549 : Int32) + x1) 5640 ∧ vp_in ((549 : Int32) + x1) 5640 ∧ ∀ σ_1 : St, σ_1 = wr σ (r0 + 1) (((549 : Int32) + x1)).toNatClampNeg ((σ.1 (r0 + 1) (((549 : Int32) + x1)).toNatClampNeg) + x2) → Q σ_1
theorem d_10_home_0 : decode prog_12_method_52_code 0 = .ok (.iload_n 1, 1) := by decide +kernel
theorem d_10_home_1 : decode prog_12_method_52_code 1 = .ok (.iconst (-1), 1) := by decide +kernel
theorem d_10_home_2 : decode prog_12_method_52_code 2 = .ok (.if_icmp .ne 7, 3) := by decide +kernel
theorem d_10_home_5 : decode prog_12_method_52_code 5 = .ok (.iconst 0, 1) := by decide +kernel
theorem d_10_home_6 : decode prog_12_method_52_code 6 = .ok (.goto 12, 3) := by decide +kernel
theorem d_10_home_9 : decode prog_12_method_52_code 9 = .ok (.bipush 10, 2) := by decide +kernel
theorem d_10_home_11 : decode prog_12_method_52_code 11 = .ok (.aload_n 0, 1) := by decide +kernel
theorem d_10_home_12 : decode prog_12_method_52_code 12 = .ok (.iload_n 1, 1) := by decide +kernel
theorem d_10_home_13 : decode prog_12_method_52_code 13 = .ok (.iconst 1, 1) := by decide +kernel
theorem d_10_home_14 : decode prog_12_method_52_code 14 = .ok (.invokevirtual 37, 3) := by decide +kernel
theorem d_10_home_17 : decode prog_12_method_52_code 17 = .ok (.imul, 1) := by decide +kernel
theorem d_10_home_18 : decode prog_12_method_52_code 18 = .ok (.ireturn, 1) := by decide +kernel
def m_10_home (r0 : Nat) (x1 : Int32) (Q : Int32 → St → Prop) (σ : St) : Prop :=
  ((¬ x1 = (-1 : Int32) → m_10_of r0 x1 (1 : Int32) (fun (v_2 : Int32) (σ_1 : St) => Q ((10 : Int32) * v_2) σ_1) σ) ∧ (x1 = (-1 : Int32) → Q (0 : Int32) σ))
theorem d_10_fits_0 : decode prog_12_method_53_code 0 = .ok (.aload_n 0, 1) := by decide +kernel
theorem d_10_fits_1 : decode prog_12_method_53_code 1 = .ok (.iconst 1, 1) := by decide +kernel
theorem d_10_fits_2 : decode prog_12_method_53_code 2 = .ok (.invokevirtual 148, 3) := by decide +kernel
theorem d_10_fits_5 : decode prog_12_method_53_code 5 = .ok (.iload_n 1, 1) := by decide +kernel
theorem d_10_fits_6 : decode prog_12_method_53_code 6 = .ok (.iadd, 1) := by decide +kernel
theorem d_10_fits_7 : decode prog_12_method_53_code 7 = .ok (.aload_n 0, 1) := by decide +kernel
theorem d_10_fits_8 : decode prog_12_method_53_code 8 = .ok (.iload_n 2, 1) := by decide +kernel
theorem d_10_fits_9 : decode prog_12_method_53_code 9 = .ok (.invokevirtual 151, 3) := by decide +kernel
theorem d_10_fits_12 : decode prog_12_method_53_code 12 = .ok (.iadd, 1) := by decide +kernel
theorem d_10_fits_13 : decode prog_12_method_53_code 13 = .ok (.aload_n 0, 1) := by decide +kernel
theorem d_10_fits_14 : decode prog_12_method_53_code 14 = .ok (.getfield 7, 3) := by decide +kernel
theorem d_10_fits_17 : decode prog_12_method_53_code 17 = .ok (.sipush 502, 3) := by decide +kernel
theorem d_10_fits_20 : decode prog_12_method_53_code 20 = .ok (.iaload, 1) := by decide +kernel
theorem d_10_fits_21 : decode prog_12_method_53_code 21 = .ok (.if_icmp .le 19, 3) := by decide +kernel
theorem d_10_fits_24 : decode prog_12_method_53_code 24 = .ok (.aload_n 0, 1) := by decide +kernel
theorem d_10_fits_25 : decode prog_12_method_53_code 25 = .ok (.getfield 7, 3) := by decide +kernel
theorem d_10_fits_28 : decode prog_12_method_53_code 28 = .ok (.sipush 549, 3) := by decide +kernel
theorem d_10_fits_31 : decode prog_12_method_53_code 31 = .ok (.iload_n 3, 1) := by decide +kernel
theorem d_10_fits_32 : decode prog_12_method_53_code 32 = .ok (.iastore, 1) := by decide +kernel
theorem d_10_fits_33 : decode prog_12_method_53_code 33 = .ok (.aload_n 0, 1) := by decide +kernel
theorem d_10_fits_34 : decode prog_12_method_53_code 34 = .ok (.iconst 0, 1) := by decide +kernel
theorem d_10_fits_35 : decode prog_12_method_53_code 35 = .ok (.putfield 154, 3) := by decide +kernel
theorem d_10_fits_38 : decode prog_12_method_53_code 38 = .ok (.iconst 0, 1) := by decide +kernel
theorem d_10_fits_39 : decode prog_12_method_53_code 39 = .ok (.ireturn, 1) := by decide +kernel
theorem d_10_fits_40 : decode prog_12_method_53_code 40 = .ok (.aload_n 0, 1) := by decide +kernel
theorem d_10_fits_41 : decode prog_12_method_53_code 41 = .ok (.iconst 1, 1) := by decide +kernel
theorem d_10_fits_42 : decode prog_12_method_53_code 42 = .ok (.iload_n 1, 1) := by decide +kernel
theorem d_10_fits_43 : decode prog_12_method_53_code 43 = .ok (.invokevirtual 158, 3) := by decide +kernel
theorem d_10_fits_46 : decode prog_12_method_53_code 46 = .ok (.iconst 1, 1) := by decide +kernel
theorem d_10_fits_47 : decode prog_12_method_53_code 47 = .ok (.ireturn, 1) := by decide +kernel
def m_10_fits (r0 : Nat) (x1 : Int32) (x2 : Int32) (x3 : Int32) (Q : Int32 → St → Prop) (σ : St) : Prop :=
  m_10_latestOf r0 (1 : Int32) (fun (v_2 : Int32) (σ_1 : St) => m_10_home r0 x2 (fun (v_4 : Int32) (σ_3 : St) => vp_in (502 : Int32) 5640 ∧ ((((v_2 + x1) + v_4) ≤ (σ_3.1 (r0 + 1) ((502 : Int32)).toNatClampNeg) → m_10_adds r0 (1 : Int32) x1 (fun (σ_5 : St) => Q (1 : Int32) σ_5) σ_3) ∧ (¬ ((v_2 + x1) + v_4) ≤ (σ_3.1 (r0 + 1) ((502 : Int32)).toNatClampNeg) → vp_in (549 : Int32) 5640 ∧ ∀ σ_7 : St, σ_7 = wr σ_3 (r0 + 1) ((549 : Int32)).toNatClampNeg x3 → ∀ σ_8 : St, σ_8 = wr σ_7 r0 10 (0 : Int32) → Q (0 : Int32) σ_8))) σ_1) σ
theorem d_10_dumps_0 : decode prog_12_method_54_code 0 = .ok (.aload_n 0, 1) := by decide +kernel
theorem d_10_dumps_1 : decode prog_12_method_54_code 1 = .ok (.iconst 5, 1) := by decide +kernel
theorem d_10_dumps_2 : decode prog_12_method_54_code 2 = .ok (.aload_n 0, 1) := by decide +kernel
theorem d_10_dumps_3 : decode prog_12_method_54_code 3 = .ok (.getfield 7, 3) := by decide +kernel
theorem d_10_dumps_6 : decode prog_12_method_54_code 6 = .ok (.sipush 506, 3) := by decide +kernel
theorem d_10_dumps_9 : decode prog_12_method_54_code 9 = .ok (.iaload, 1) := by decide +kernel
theorem d_10_dumps_10 : decode prog_12_method_54_code 10 = .ok (.invokevirtual 66, 3) := by decide +kernel
theorem d_10_dumps_13 : decode prog_12_method_54_code 13 = .ok (.aload_n 0, 1) := by decide +kernel
theorem d_10_dumps_14 : decode prog_12_method_54_code 14 = .ok (.getfield 7, 3) := by decide +kernel
theorem d_10_dumps_17 : decode prog_12_method_54_code 17 = .ok (.sipush 506, 3) := by decide +kernel
theorem d_10_dumps_20 : decode prog_12_method_54_code 20 = .ok (.iconst 0, 1) := by decide +kernel
theorem d_10_dumps_21 : decode prog_12_method_54_code 21 = .ok (.iastore, 1) := by decide +kernel
theorem d_10_dumps_22 : decode prog_12_method_54_code 22 = .ok (.return_, 1) := by decide +kernel
def m_10_dumps (r0 : Nat) (Q : St → Prop) (σ : St) : Prop :=
  vp_in (506 : Int32) 5640 ∧ m_10_books r0 (5 : Int32) (σ.1 (r0 + 1) ((506 : Int32)).toNatClampNeg) (fun (σ_1 : St) => vp_in (506 : Int32) 5640 ∧ ∀ σ_3 : St, σ_3 = wr σ_1 (r0 + 1) ((506 : Int32)).toNatClampNeg (0 : Int32) → Q σ_3) σ
theorem d_10_drive_0 : decode prog_12_method_55_code 0 = .ok (.aload_n 0, 1) := by decide +kernel
theorem d_10_drive_1 : decode prog_12_method_55_code 1 = .ok (.getfield 161, 3) := by decide +kernel
theorem d_10_drive_4 : decode prog_12_method_55_code 4 = .ok (.iload_n 1, 1) := by decide +kernel
theorem d_10_drive_5 : decode prog_12_method_55_code 5 = .ok (.if_icmp .ne 5, 3) := by decide +kernel
theorem d_10_drive_8 : decode prog_12_method_55_code 8 = .ok (.iconst 0, 1) := by decide +kernel
theorem d_10_drive_9 : decode prog_12_method_55_code 9 = .ok (.ireturn, 1) := by decide +kernel
theorem d_10_drive_10 : decode prog_12_method_55_code 10 = .ok (.aload_n 0, 1) := by decide +kernel
theorem d_10_drive_11 : decode prog_12_method_55_code 11 = .ok (.getfield 161, 3) := by decide +kernel
theorem d_10_drive_14 : decode prog_12_method_55_code 14 = .ok (.iconst (-1), 1) := by decide +kernel
theorem d_10_drive_15 : decode prog_12_method_55_code 15 = .ok (.if_icmp .ne 7, 3) := by decide +kernel
theorem d_10_drive_18 : decode prog_12_method_55_code 18 = .ok (.iconst 0, 1) := by decide +kernel
theorem d_10_drive_19 : decode prog_12_method_55_code 19 = .ok (.goto 19, 3) := by decide +kernel
theorem d_10_drive_22 : decode prog_12_method_55_code 22 = .ok (.aload_n 0, 1) := by decide +kernel
theorem d_10_drive_23 : decode prog_12_method_55_code 23 = .ok (.aload_n 0, 1) := by decide +kernel
theorem d_10_drive_24 : decode prog_12_method_55_code 24 = .ok (.getfield 161, 3) := by decide +kernel
theorem d_10_drive_27 : decode prog_12_method_55_code 27 = .ok (.iconst 1, 1) := by decide +kernel
theorem d_10_drive_28 : decode prog_12_method_55_code 28 = .ok (.invokevirtual 37, 3) := by decide +kernel
theorem d_10_drive_31 : decode prog_12_method_55_code 31 = .ok (.aload_n 0, 1) := by decide +kernel
theorem d_10_drive_32 : decode prog_12_method_55_code 32 = .ok (.iload_n 1, 1) := by decide +kernel
theorem d_10_drive_33 : decode prog_12_method_55_code 33 = .ok (.iconst 1, 1) := by decide +kernel
theorem d_10_drive_34 : decode prog_12_method_55_code 34 = .ok (.invokevirtual 37, 3) := by decide +kernel
theorem d_10_drive_37 : decode prog_12_method_55_code 37 = .ok (.isub, 1) := by decide +kernel
theorem d_10_drive_38 : decode prog_12_method_55_code 38 = .ok (.istore_n 2, 1) := by decide +kernel
theorem d_10_drive_39 : decode prog_12_method_55_code 39 = .ok (.aload_n 0, 1) := by decide +kernel
theorem d_10_drive_40 : decode prog_12_method_55_code 40 = .ok (.getfield 161, 3) := by decide +kernel
theorem d_10_drive_43 : decode prog_12_method_55_code 43 = .ok (.iconst (-1), 1) := by decide +kernel
theorem d_10_drive_44 : decode prog_12_method_55_code 44 = .ok (.if_icmp .ne 11, 3) := by decide +kernel
theorem d_10_drive_47 : decode prog_12_method_55_code 47 = .ok (.aload_n 0, 1) := by decide +kernel
theorem d_10_drive_48 : decode prog_12_method_55_code 48 = .ok (.iload_n 1, 1) := by decide +kernel
theorem d_10_drive_49 : decode prog_12_method_55_code 49 = .ok (.invokevirtual 151, 3) := by decide +kernel
theorem d_10_drive_52 : decode prog_12_method_55_code 52 = .ok (.goto 19, 3) := by decide +kernel
theorem d_10_drive_55 : decode prog_12_method_55_code 55 = .ok (.bipush 10, 2) := by decide +kernel
theorem d_10_drive_57 : decode prog_12_method_55_code 57 = .ok (.iload_n 2, 1) := by decide +kernel
theorem d_10_drive_58 : decode prog_12_method_55_code 58 = .ok (.ifCond .ge 8, 3) := by decide +kernel
theorem d_10_drive_61 : decode prog_12_method_55_code 61 = .ok (.iload_n 2, 1) := by decide +kernel
theorem d_10_drive_62 : decode prog_12_method_55_code 62 = .ok (.ineg, 1) := by decide +kernel
theorem d_10_drive_63 : decode prog_12_method_55_code 63 = .ok (.goto 4, 3) := by decide +kernel
theorem d_10_drive_66 : decode prog_12_method_55_code 66 = .ok (.iload_n 2, 1) := by decide +kernel
theorem d_10_drive_67 : decode prog_12_method_55_code 67 = .ok (.imul, 1) := by decide +kernel
theorem d_10_drive_68 : decode prog_12_method_55_code 68 = .ok (.bipush 50, 2) := by decide +kernel
theorem d_10_drive_70 : decode prog_12_method_55_code 70 = .ok (.iadd, 1) := by decide +kernel
theorem d_10_drive_71 : decode prog_12_method_55_code 71 = .ok (.ireturn, 1) := by decide +kernel
def m_10_drive_38 (r0 : Nat) (x1 : Int32) (Q : Int32 → St → Prop) (t0 : Int32) (σ : St) : Prop :=
  ((¬ (σ.1 r0 9) = (-1 : Int32) → ((0 ≤ t0 → Q (((10 : Int32) * t0) + (50 : Int32)) σ) ∧ (¬ 0 ≤ t0 → Q (((10 : Int32) * (-t0)) + (50 : Int32)) σ))) ∧ ((σ.1 r0 9) = (-1 : Int32) → m_10_home r0 x1 (fun (v_2 : Int32) (σ_1 : St) => Q v_2 σ_1) σ))
def m_10_drive (r0 : Nat) (x1 : Int32) (Q : Int32 → St → Prop) (σ : St) : Prop :=
  ((¬ (σ.1 r0 9) = x1 → ((¬ (σ.1 r0 9) = (-1 : Int32) → m_10_of r0 (σ.1 r0 9) (1 : Int32) (fun (v_2 : Int32) (σ_1 : St) => m_10_of r0 x1 (1 : Int32) (fun (v_4 : Int32) (σ_3 : St) => m_10_drive_38 r0 x1 Q  (v_2 - v_4) σ_3) σ_1) σ) ∧ ((σ.1 r0 9) = (-1 : Int32) → m_10_drive_38 r0 x1 Q  (0 : Int32) σ))) ∧ ((σ.1 r0 9) = x1 → Q (0 : Int32) σ))
theorem d_10_sweeps_0 : decode prog_12_method_56_code 0 = .ok (.aload_n 0, 1) := by decide +kernel
theorem d_10_sweeps_1 : decode prog_12_method_56_code 1 = .ok (.iload_n 1, 1) := by decide +kernel
theorem d_10_sweeps_2 : decode prog_12_method_56_code 2 = .ok (.iconst 0, 1) := by decide +kernel
theorem d_10_sweeps_3 : decode prog_12_method_56_code 3 = .ok (.invokevirtual 69, 3) := by decide +kernel
theorem d_10_sweeps_6 : decode prog_12_method_56_code 6 = .ok (.istore_n 3, 1) := by decide +kernel
theorem d_10_sweeps_7 : decode prog_12_method_56_code 7 = .ok (.aload_n 0, 1) := by decide +kernel
theorem d_10_sweeps_8 : decode prog_12_method_56_code 8 = .ok (.iload_n 1, 1) := by decide +kernel
theorem d_10_sweeps_9 : decode prog_12_method_56_code 9 = .ok (.iconst 1, 1) := by decide +kernel
theorem d_10_sweeps_10 : decode prog_12_method_56_code 10 = .ok (.invokevirtual 69, 3) := by decide +kernel
theorem d_10_sweeps_13 : decode prog_12_method_56_code 13 = .ok (.istore 4, 2) := by decide +kernel
theorem d_10_sweeps_15 : decode prog_12_method_56_code 15 = .ok (.iconst 1, 1) := by decide +kernel
theorem d_10_sweeps_16 : decode prog_12_method_56_code 16 = .ok (.istore 5, 2) := by decide +kernel
theorem d_10_sweeps_18 : decode prog_12_method_56_code 18 = .ok (.iload 5, 2) := by decide +kernel
theorem d_10_sweeps_20 : decode prog_12_method_56_code 20 = .ok (.ifCond .eq 262, 3) := by decide +kernel
theorem d_10_sweeps_23 : decode prog_12_method_56_code 23 = .ok (.aload_n 0, 1) := by decide +kernel
theorem d_10_sweeps_24 : decode prog_12_method_56_code 24 = .ok (.getfield 154, 3) := by decide +kernel
theorem d_10_sweeps_27 : decode prog_12_method_56_code 27 = .ok (.ifCond .eq 255, 3) := by decide +kernel
theorem d_10_sweeps_30 : decode prog_12_method_56_code 30 = .ok (.iconst 0, 1) := by decide +kernel
theorem d_10_sweeps_31 : decode prog_12_method_56_code 31 = .ok (.istore 5, 2) := by decide +kernel
theorem d_10_sweeps_33 : decode prog_12_method_56_code 33 = .ok (.aload_n 0, 1) := by decide +kernel
theorem d_10_sweeps_34 : decode prog_12_method_56_code 34 = .ok (.bipush 12, 2) := by decide +kernel
theorem d_10_sweeps_36 : decode prog_12_method_56_code 36 = .ok (.aload_n 0, 1) := by decide +kernel
theorem d_10_sweeps_37 : decode prog_12_method_56_code 37 = .ok (.getfield 7, 3) := by decide +kernel
theorem d_10_sweeps_40 : decode prog_12_method_56_code 40 = .ok (.sipush 499, 3) := by decide +kernel
theorem d_10_sweeps_43 : decode prog_12_method_56_code 43 = .ok (.iaload, 1) := by decide +kernel
theorem d_10_sweeps_44 : decode prog_12_method_56_code 44 = .ok (.idiv, 1) := by decide +kernel
theorem d_10_sweeps_45 : decode prog_12_method_56_code 45 = .ok (.iload_n 3, 1) := by decide +kernel
theorem d_10_sweeps_46 : decode prog_12_method_56_code 46 = .ok (.iconst 2, 1) := by decide +kernel
theorem d_10_sweeps_47 : decode prog_12_method_56_code 47 = .ok (.invokevirtual 164, 3) := by decide +kernel
theorem d_10_sweeps_50 : decode prog_12_method_56_code 50 = .ok (.ifCond .eq (-32), 3) := by decide +kernel
theorem d_10_sweeps_53 : decode prog_12_method_56_code 53 = .ok (.aload_n 0, 1) := by decide +kernel
theorem d_10_sweeps_54 : decode prog_12_method_56_code 54 = .ok (.iload_n 3, 1) := by decide +kernel
theorem d_10_sweeps_55 : decode prog_12_method_56_code 55 = .ok (.iload 4, 2) := by decide +kernel
theorem d_10_sweeps_57 : decode prog_12_method_56_code 57 = .ok (.iload_n 2, 1) := by decide +kernel
theorem d_10_sweeps_58 : decode prog_12_method_56_code 58 = .ok (.invokevirtual 123, 3) := by decide +kernel
theorem d_10_sweeps_61 : decode prog_12_method_56_code 61 = .ok (.istore 6, 2) := by decide +kernel
theorem d_10_sweeps_63 : decode prog_12_method_56_code 63 = .ok (.aload_n 0, 1) := by decide +kernel
theorem d_10_sweeps_64 : decode prog_12_method_56_code 64 = .ok (.invokevirtual 126, 3) := by decide +kernel
theorem d_10_sweeps_67 : decode prog_12_method_56_code 67 = .ok (.istore 7, 2) := by decide +kernel
theorem d_10_sweeps_69 : decode prog_12_method_56_code 69 = .ok (.iload 6, 2) := by decide +kernel
theorem d_10_sweeps_71 : decode prog_12_method_56_code 71 = .ok (.iload 7, 2) := by decide +kernel
theorem d_10_sweeps_73 : decode prog_12_method_56_code 73 = .ok (.invokestatic 129, 3) := by decide +kernel
theorem d_10_sweeps_76 : decode prog_12_method_56_code 76 = .ok (.istore 8, 2) := by decide +kernel
theorem d_10_sweeps_78 : decode prog_12_method_56_code 78 = .ok (.aload_n 0, 1) := by decide +kernel
theorem d_10_sweeps_79 : decode prog_12_method_56_code 79 = .ok (.iload_n 3, 1) := by decide +kernel
theorem d_10_sweeps_80 : decode prog_12_method_56_code 80 = .ok (.iconst 3, 1) := by decide +kernel
theorem d_10_sweeps_81 : decode prog_12_method_56_code 81 = .ok (.iload 4, 2) := by decide +kernel
theorem d_10_sweeps_83 : decode prog_12_method_56_code 83 = .ok (.iload_n 2, 1) := by decide +kernel
theorem d_10_sweeps_84 : decode prog_12_method_56_code 84 = .ok (.invokestatic 33, 3) := by decide +kernel
theorem d_10_sweeps_87 : decode prog_12_method_56_code 87 = .ok (.iadd, 1) := by decide +kernel
theorem d_10_sweeps_88 : decode prog_12_method_56_code 88 = .ok (.aload_n 0, 1) := by decide +kernel
theorem d_10_sweeps_89 : decode prog_12_method_56_code 89 = .ok (.iload_n 3, 1) := by decide +kernel
theorem d_10_sweeps_90 : decode prog_12_method_56_code 90 = .ok (.iload 4, 2) := by decide +kernel
theorem d_10_sweeps_92 : decode prog_12_method_56_code 92 = .ok (.iload_n 2, 1) := by decide +kernel
theorem d_10_sweeps_93 : decode prog_12_method_56_code 93 = .ok (.invokevirtual 48, 3) := by decide +kernel
theorem d_10_sweeps_96 : decode prog_12_method_56_code 96 = .ok (.iload 8, 2) := by decide +kernel
theorem d_10_sweeps_98 : decode prog_12_method_56_code 98 = .ok (.isub, 1) := by decide +kernel
theorem d_10_sweeps_99 : decode prog_12_method_56_code 99 = .ok (.invokevirtual 52, 3) := by decide +kernel
theorem d_10_sweeps_102 : decode prog_12_method_56_code 102 = .ok (.aload_n 0, 1) := by decide +kernel
theorem d_10_sweeps_103 : decode prog_12_method_56_code 103 = .ok (.getfield 7, 3) := by decide +kernel
theorem d_10_sweeps_106 : decode prog_12_method_56_code 106 = .ok (.sipush 506, 3) := by decide +kernel
theorem d_10_sweeps_109 : decode prog_12_method_56_code 109 = .ok (.dup2, 1) := by decide +kernel
theorem d_10_sweeps_110 : decode prog_12_method_56_code 110 = .ok (.iaload, 1) := by decide +kernel
theorem d_10_sweeps_111 : decode prog_12_method_56_code 111 = .ok (.iload 8, 2) := by decide +kernel
theorem d_10_sweeps_113 : decode prog_12_method_56_code 113 = .ok (.iadd, 1) := by decide +kernel
theorem d_10_sweeps_114 : decode prog_12_method_56_code 114 = .ok (.iastore, 1) := by decide +kernel
theorem d_10_sweeps_115 : decode prog_12_method_56_code 115 = .ok (.aload_n 0, 1) := by decide +kernel
theorem d_10_sweeps_116 : decode prog_12_method_56_code 116 = .ok (.iconst 3, 1) := by decide +kernel
theorem d_10_sweeps_117 : decode prog_12_method_56_code 117 = .ok (.iload 8, 2) := by decide +kernel
theorem d_10_sweeps_119 : decode prog_12_method_56_code 119 = .ok (.invokevirtual 158, 3) := by decide +kernel
theorem d_10_sweeps_122 : decode prog_12_method_56_code 122 = .ok (.aload_n 0, 1) := by decide +kernel
theorem d_10_sweeps_123 : decode prog_12_method_56_code 123 = .ok (.getfield 7, 3) := by decide +kernel
theorem d_10_sweeps_126 : decode prog_12_method_56_code 126 = .ok (.sipush 508, 3) := by decide +kernel
theorem d_10_sweeps_129 : decode prog_12_method_56_code 129 = .ok (.iconst 4, 1) := by decide +kernel
theorem d_10_sweeps_130 : decode prog_12_method_56_code 130 = .ok (.iload_n 1, 1) := by decide +kernel
theorem d_10_sweeps_131 : decode prog_12_method_56_code 131 = .ok (.imul, 1) := by decide +kernel
theorem d_10_sweeps_132 : decode prog_12_method_56_code 132 = .ok (.iadd, 1) := by decide +kernel
theorem d_10_sweeps_133 : decode prog_12_method_56_code 133 = .ok (.iconst 3, 1) := by decide +kernel
theorem d_10_sweeps_134 : decode prog_12_method_56_code 134 = .ok (.iadd, 1) := by decide +kernel
theorem d_10_sweeps_135 : decode prog_12_method_56_code 135 = .ok (.dup2, 1) := by decide +kernel
theorem d_10_sweeps_136 : decode prog_12_method_56_code 136 = .ok (.iaload, 1) := by decide +kernel
theorem d_10_sweeps_137 : decode prog_12_method_56_code 137 = .ok (.iload 8, 2) := by decide +kernel
theorem d_10_sweeps_139 : decode prog_12_method_56_code 139 = .ok (.iadd, 1) := by decide +kernel
theorem d_10_sweeps_140 : decode prog_12_method_56_code 140 = .ok (.iastore, 1) := by decide +kernel
theorem d_10_sweeps_141 : decode prog_12_method_56_code 141 = .ok (.iconst 1, 1) := by decide +kernel
theorem d_10_sweeps_142 : decode prog_12_method_56_code 142 = .ok (.iload 8, 2) := by decide +kernel
theorem d_10_sweeps_144 : decode prog_12_method_56_code 144 = .ok (.aload_n 0, 1) := by decide +kernel
theorem d_10_sweeps_145 : decode prog_12_method_56_code 145 = .ok (.getfield 7, 3) := by decide +kernel
theorem d_10_sweeps_148 : decode prog_12_method_56_code 148 = .ok (.sipush 499, 3) := by decide +kernel
theorem d_10_sweeps_151 : decode prog_12_method_56_code 151 = .ok (.iaload, 1) := by decide +kernel
theorem d_10_sweeps_152 : decode prog_12_method_56_code 152 = .ok (.imul, 1) := by decide +kernel
theorem d_10_sweeps_153 : decode prog_12_method_56_code 153 = .ok (.bipush 20, 2) := by decide +kernel
theorem d_10_sweeps_155 : decode prog_12_method_56_code 155 = .ok (.idiv, 1) := by decide +kernel
theorem d_10_sweeps_156 : decode prog_12_method_56_code 156 = .ok (.iadd, 1) := by decide +kernel
theorem d_10_sweeps_157 : decode prog_12_method_56_code 157 = .ok (.aload_n 0, 1) := by decide +kernel
theorem d_10_sweeps_158 : decode prog_12_method_56_code 158 = .ok (.getfield 7, 3) := by decide +kernel
theorem d_10_sweeps_161 : decode prog_12_method_56_code 161 = .ok (.sipush 505, 3) := by decide +kernel
theorem d_10_sweeps_164 : decode prog_12_method_56_code 164 = .ok (.iaload, 1) := by decide +kernel
theorem d_10_sweeps_165 : decode prog_12_method_56_code 165 = .ok (.invokestatic 129, 3) := by decide +kernel
theorem d_10_sweeps_168 : decode prog_12_method_56_code 168 = .ok (.istore 9, 2) := by decide +kernel
theorem d_10_sweeps_170 : decode prog_12_method_56_code 170 = .ok (.aload_n 0, 1) := by decide +kernel
theorem d_10_sweeps_171 : decode prog_12_method_56_code 171 = .ok (.getfield 7, 3) := by decide +kernel
theorem d_10_sweeps_174 : decode prog_12_method_56_code 174 = .ok (.sipush 505, 3) := by decide +kernel
theorem d_10_sweeps_177 : decode prog_12_method_56_code 177 = .ok (.dup2, 1) := by decide +kernel
theorem d_10_sweeps_178 : decode prog_12_method_56_code 178 = .ok (.iaload, 1) := by decide +kernel
theorem d_10_sweeps_179 : decode prog_12_method_56_code 179 = .ok (.iload 9, 2) := by decide +kernel
theorem d_10_sweeps_181 : decode prog_12_method_56_code 181 = .ok (.isub, 1) := by decide +kernel
theorem d_10_sweeps_182 : decode prog_12_method_56_code 182 = .ok (.iastore, 1) := by decide +kernel
theorem d_10_sweeps_183 : decode prog_12_method_56_code 183 = .ok (.aload_n 0, 1) := by decide +kernel
theorem d_10_sweeps_184 : decode prog_12_method_56_code 184 = .ok (.iconst 4, 1) := by decide +kernel
theorem d_10_sweeps_185 : decode prog_12_method_56_code 185 = .ok (.iload 9, 2) := by decide +kernel
theorem d_10_sweeps_187 : decode prog_12_method_56_code 187 = .ok (.invokevirtual 158, 3) := by decide +kernel
theorem d_10_sweeps_190 : decode prog_12_method_56_code 190 = .ok (.iload 6, 2) := by decide +kernel
theorem d_10_sweeps_192 : decode prog_12_method_56_code 192 = .ok (.iload 7, 2) := by decide +kernel
theorem d_10_sweeps_194 : decode prog_12_method_56_code 194 = .ok (.if_icmp .le 7, 3) := by decide +kernel
theorem d_10_sweeps_197 : decode prog_12_method_56_code 197 = .ok (.iconst 1, 1) := by decide +kernel
theorem d_10_sweeps_198 : decode prog_12_method_56_code 198 = .ok (.goto 4, 3) := by decide +kernel
theorem d_10_sweeps_201 : decode prog_12_method_56_code 201 = .ok (.iconst 0, 1) := by decide +kernel
theorem d_10_sweeps_202 : decode prog_12_method_56_code 202 = .ok (.istore 5, 2) := by decide +kernel
theorem d_10_sweeps_204 : decode prog_12_method_56_code 204 = .ok (.aload_n 0, 1) := by decide +kernel
theorem d_10_sweeps_205 : decode prog_12_method_56_code 205 = .ok (.getfield 7, 3) := by decide +kernel
theorem d_10_sweeps_208 : decode prog_12_method_56_code 208 = .ok (.sipush 508, 3) := by decide +kernel
theorem d_10_sweeps_211 : decode prog_12_method_56_code 211 = .ok (.iconst 4, 1) := by decide +kernel
theorem d_10_sweeps_212 : decode prog_12_method_56_code 212 = .ok (.iload_n 1, 1) := by decide +kernel
theorem d_10_sweeps_213 : decode prog_12_method_56_code 213 = .ok (.imul, 1) := by decide +kernel
theorem d_10_sweeps_214 : decode prog_12_method_56_code 214 = .ok (.iadd, 1) := by decide +kernel
theorem d_10_sweeps_215 : decode prog_12_method_56_code 215 = .ok (.iconst 2, 1) := by decide +kernel
theorem d_10_sweeps_216 : decode prog_12_method_56_code 216 = .ok (.iadd, 1) := by decide +kernel
theorem d_10_sweeps_217 : decode prog_12_method_56_code 217 = .ok (.dup2, 1) := by decide +kernel
theorem d_10_sweeps_218 : decode prog_12_method_56_code 218 = .ok (.iaload, 1) := by decide +kernel
theorem d_10_sweeps_219 : decode prog_12_method_56_code 219 = .ok (.iload 5, 2) := by decide +kernel
theorem d_10_sweeps_221 : decode prog_12_method_56_code 221 = .ok (.ifCond .eq 7, 3) := by decide +kernel
theorem d_10_sweeps_224 : decode prog_12_method_56_code 224 = .ok (.iconst 0, 1) := by decide +kernel
theorem d_10_sweeps_225 : decode prog_12_method_56_code 225 = .ok (.goto 4, 3) := by decide +kernel
theorem d_10_sweeps_228 : decode prog_12_method_56_code 228 = .ok (.iconst 1, 1) := by decide +kernel
theorem d_10_sweeps_229 : decode prog_12_method_56_code 229 = .ok (.iadd, 1) := by decide +kernel
theorem d_10_sweeps_230 : decode prog_12_method_56_code 230 = .ok (.iastore, 1) := by decide +kernel
theorem d_10_sweeps_231 : decode prog_12_method_56_code 231 = .ok (.aload_n 0, 1) := by decide +kernel
theorem d_10_sweeps_232 : decode prog_12_method_56_code 232 = .ok (.getfield 7, 3) := by decide +kernel
theorem d_10_sweeps_235 : decode prog_12_method_56_code 235 = .ok (.sipush 506, 3) := by decide +kernel
theorem d_10_sweeps_238 : decode prog_12_method_56_code 238 = .ok (.iaload, 1) := by decide +kernel
theorem d_10_sweeps_239 : decode prog_12_method_56_code 239 = .ok (.aload_n 0, 1) := by decide +kernel
theorem d_10_sweeps_240 : decode prog_12_method_56_code 240 = .ok (.getfield 7, 3) := by decide +kernel
theorem d_10_sweeps_243 : decode prog_12_method_56_code 243 = .ok (.sipush 500, 3) := by decide +kernel
theorem d_10_sweeps_246 : decode prog_12_method_56_code 246 = .ok (.iaload, 1) := by decide +kernel
theorem d_10_sweeps_247 : decode prog_12_method_56_code 247 = .ok (.if_icmp .ne 32, 3) := by decide +kernel
theorem d_10_sweeps_250 : decode prog_12_method_56_code 250 = .ok (.aload_n 0, 1) := by decide +kernel
theorem d_10_sweeps_251 : decode prog_12_method_56_code 251 = .ok (.iconst 2, 1) := by decide +kernel
theorem d_10_sweeps_252 : decode prog_12_method_56_code 252 = .ok (.aload_n 0, 1) := by decide +kernel
theorem d_10_sweeps_253 : decode prog_12_method_56_code 253 = .ok (.iload_n 3, 1) := by decide +kernel
theorem d_10_sweeps_254 : decode prog_12_method_56_code 254 = .ok (.invokevirtual 151, 3) := by decide +kernel
theorem d_10_sweeps_257 : decode prog_12_method_56_code 257 = .ok (.imul, 1) := by decide +kernel
theorem d_10_sweeps_258 : decode prog_12_method_56_code 258 = .ok (.bipush 100, 2) := by decide +kernel
theorem d_10_sweeps_260 : decode prog_12_method_56_code 260 = .ok (.iadd, 1) := by decide +kernel
theorem d_10_sweeps_261 : decode prog_12_method_56_code 261 = .ok (.iload_n 3, 1) := by decide +kernel
theorem d_10_sweeps_262 : decode prog_12_method_56_code 262 = .ok (.iconst 3, 1) := by decide +kernel
theorem d_10_sweeps_263 : decode prog_12_method_56_code 263 = .ok (.invokevirtual 164, 3) := by decide +kernel
theorem d_10_sweeps_266 : decode prog_12_method_56_code 266 = .ok (.ifCond .eq 13, 3) := by decide +kernel
theorem d_10_sweeps_269 : decode prog_12_method_56_code 269 = .ok (.aload_n 0, 1) := by decide +kernel
theorem d_10_sweeps_270 : decode prog_12_method_56_code 270 = .ok (.invokevirtual 167, 3) := by decide +kernel
theorem d_10_sweeps_273 : decode prog_12_method_56_code 273 = .ok (.aload_n 0, 1) := by decide +kernel
theorem d_10_sweeps_274 : decode prog_12_method_56_code 274 = .ok (.iconst 2, 1) := by decide +kernel
theorem d_10_sweeps_275 : decode prog_12_method_56_code 275 = .ok (.iconst 1, 1) := by decide +kernel
theorem d_10_sweeps_276 : decode prog_12_method_56_code 276 = .ok (.invokevirtual 158, 3) := by decide +kernel
theorem d_10_sweeps_279 : decode prog_12_method_56_code 279 = .ok (.goto (-261), 3) := by decide +kernel
theorem d_10_sweeps_282 : decode prog_12_method_56_code 282 = .ok (.return_, 1) := by decide +kernel
def m_10_sweeps_229 (r0 : Nat) (x1 : Int32) (x2 : Int32) (x3 : Int32) (x4 : Int32) (x5 : Int32) (B18 : Int32 → St → Prop) (Q : St → Prop) (t0 : Int32) (t1 : Int32) (t2 : Int32) (t3 : Nat) (σ : St) : Prop :=
  vp_in t2 5640 ∧ ∀ σ_1 : St, σ_1 = wr σ t3 (t2).toNatClampNeg (t1 + t0) → vp_in (506 : Int32) 5640 ∧ vp_in (500 : Int32) 5640 ∧ ((¬ (σ_1.1 (r0 + 1) ((506 : Int32)).toNatClampNeg) = (σ_1.1 (r0 + 1) ((500 : Int32)).toNatClampNeg) → B18 x5 σ_1) ∧ ((σ_1.1 (r0 + 1) ((506 : Int32)).toNatClampNeg) = (σ_1.1 (r0 + 1) ((500 : Int32)).toNatClampNeg) → m_10_home r0 x3 (fun (v_3 : Int32) (σ_2 : St) => m_10_fits r0 (((2 : Int32) * v_3) + (100 : Int32)) x3 (3 : Int32) (fun (v_5 : Int32) (σ_4 : St) => ((v_5 = 0 → B18 x5 σ_4) ∧ (¬ v_5 = 0 → m_10_dumps r0 (fun (σ_6 : St) => m_10_adds r0 (2 : Int32) (1 : Int32) (fun (σ_8 : St) => B18 x5 σ_8) σ_6) σ_4))) σ_2) σ_1))
def m_10_sweeps_202 (r0 : Nat) (x1 : Int32) (x2 : Int32) (x3 : Int32) (x4 : Int32) (B18 : Int32 → St → Prop) (Q : St → Prop) (t0 : Int32) (σ : St) : Prop :=
  vp_in (((508 : Int32) + ((4 : Int32) * x1)) + (2 : Int32)) 5640 ∧ ((t0 = 0 → m_10_sweeps_229 r0 x1 x2 x3 x4 t0 B18 Q  (1 : Int32) (σ.1 (r0 + 1) ((((508 : Int32) + ((4 : Int32) * x1)) + (2 : Int32))).toNatClampNeg) (((508 : Int32) + ((4 : Int32) * x1)) + (2 : Int32)) (r0 + 1) σ) ∧ (¬ t0 = 0 → m_10_sweeps_229 r0 x1 x2 x3 x4 t0 B18 Q  (0 : Int32) (σ.1 (r0 + 1) ((((508 : Int32) + ((4 : Int32) * x1)) + (2 : Int32))).toNatClampNeg) (((508 : Int32) + ((4 : Int32) * x1)) + (2 : Int32)) (r0 + 1) σ))
def m_10_sweeps_18 (r0 : Nat) (x1 : Int32) (x2 : Int32) (x3 : Int32) (x4 : Int32) (Q : St → Prop) (B18 : Int32 → St → Prop) (x5 : Int32) (σ : St) : Prop :=
  ((x5 = 0 → Q σ) ∧ (¬ x5 = 0 → (((σ.1 r0 10) = 0 → Q σ) ∧ (¬ (σ.1 r0 10) = 0 → vp_in (499 : Int32) 5640 ∧ ¬ (σ.1 (r0 + 1) ((499 : Int32)).toNatClampNeg) = 0 ∧ m_10_fits r0 ((12 : Int32) / (σ.1 (r0 + 1) ((499 : Int32)).toNatClampNeg)) x3 (2 : Int32) (fun (v_2 : Int32) (σ_1 : St) => ((v_2 = 0 → B18 (0 : Int32) σ_1) ∧ (¬ v_2 = 0 → m_10_could r0 x3 x4 x2 (fun (v_4 : Int32) (σ_3 : St) => m_10_room r0 (fun (v_6 : Int32) (σ_5 : St) => m_10_lesser v_4 v_6 (fun (v_8 : Int32) (σ_7 : St) => m_10_placeOf x4 x2 (fun (v_10 : Int32) (σ_9 : St) => m_10_dirtOf r0 x3 x4 x2 (fun (v_12 : Int32) (σ_11 : St) => m_10_sets r0 x3 ((3 : Int32) + v_10) (v_12 - v_8) (fun (σ_13 : St) => vp_in (506 : Int32) 5640 ∧ vp_in (506 : Int32) 5640 ∧ ∀ σ_15 : St, σ_15 = wr σ_13 (r0 + 1) ((506 : Int32)).toNatClampNeg ((σ_13.1 (r0 + 1) ((506 : Int32)).toNatClampNeg) + v_8) → m_10_adds r0 (3 : Int32) v_8 (fun (σ_16 : St) => vp_in (((508 : Int32) + ((4 : Int32) * x1)) + (3 : Int32)) 5640 ∧ vp_in (((508 : Int32) + ((4 : Int32) * x1)) + (3 : Int32)) 5640 ∧ ∀ σ_18 : St, σ_18 = wr σ_16 (r0 + 1) ((((508 : Int32) + ((4 : Int32) * x1)) + (3 : Int32))).toNatClampNeg ((σ_16.1 (r0 + 1) ((((508 : Int32) + ((4 : Int32) * x1)) + (3 : Int32))).toNatClampNeg) + v_8) → vp_in (499 : Int32) 5640 ∧ vp_in (505 : Int32) 5640 ∧ m_10_lesser ((1 : Int32) + ((v_8 * (σ_18.1 (r0 + 1) ((499 : Int32)).toNatClampNeg)) / (20 : Int32))) (σ_18.1 (r0 + 1) ((505 : Int32)).toNatClampNeg) (fun (v_20 : Int32) (σ_19 : St) => vp_in (505 : Int32) 5640 ∧ vp_in (505 : Int32) 5640 ∧ ∀ σ_21 : St, σ_21 = wr σ_19 (r0 + 1) ((505 : Int32)).toNatClampNeg ((σ_19.1 (r0 + 1) ((505 : Int32)).toNatClampNeg) - v_20) → m_10_adds r0 (4 : Int32) v_20 (fun (σ_22 : St) => ((v_4 ≤ v_6 → m_10_sweeps_202 r0 x1 x2 x3 x4 B18 Q  (0 : Int32) σ_22) ∧ (¬ v_4 ≤ v_6 → m_10_sweeps_202 r0 x1 x2 x3 x4 B18 Q  (1 : Int32) σ_22))) σ_21) σ_18) σ_15) σ_11) σ_9) σ_7) σ_5) σ_3) σ_1))) σ))))
def m_10_sweeps (r0 : Nat) (x1 : Int32) (x2 : Int32) (Q : St → Prop) (σ : St) : Prop :=
  m_10_legOf r0 x1 (0 : Int32) (fun (v_2 : Int32) (σ_1 : St) => m_10_legOf r0 x1 (1 : Int32) (fun (v_4 : Int32) (σ_3 : St) => itN (m_10_sweeps_18 r0 x1 x2 v_2 v_4 Q) (fun _ _ => False) FU (1 : Int32) σ_3) σ_1) σ
theorem d_10_goesThrough_0 : decode prog_12_method_57_code 0 = .ok (.iconst 0, 1) := by decide +kernel
theorem d_10_goesThrough_1 : decode prog_12_method_57_code 1 = .ok (.istore_n 1, 1) := by decide +kernel
theorem d_10_goesThrough_2 : decode prog_12_method_57_code 2 = .ok (.iload_n 1, 1) := by decide +kernel
theorem d_10_goesThrough_3 : decode prog_12_method_57_code 3 = .ok (.bipush 6, 2) := by decide +kernel
theorem d_10_goesThrough_5 : decode prog_12_method_57_code 5 = .ok (.if_icmp .ge 20, 3) := by decide +kernel
theorem d_10_goesThrough_8 : decode prog_12_method_57_code 8 = .ok (.aload_n 0, 1) := by decide +kernel
theorem d_10_goesThrough_9 : decode prog_12_method_57_code 9 = .ok (.getfield 7, 3) := by decide +kernel
theorem d_10_goesThrough_12 : decode prog_12_method_57_code 12 = .ok (.sipush 549, 3) := by decide +kernel
theorem d_10_goesThrough_15 : decode prog_12_method_57_code 15 = .ok (.iload_n 1, 1) := by decide +kernel
theorem d_10_goesThrough_16 : decode prog_12_method_57_code 16 = .ok (.iadd, 1) := by decide +kernel
theorem d_10_goesThrough_17 : decode prog_12_method_57_code 17 = .ok (.iconst 0, 1) := by decide +kernel
theorem d_10_goesThrough_18 : decode prog_12_method_57_code 18 = .ok (.iastore, 1) := by decide +kernel
theorem d_10_goesThrough_19 : decode prog_12_method_57_code 19 = .ok (.iinc 1 1, 3) := by decide +kernel
theorem d_10_goesThrough_22 : decode prog_12_method_57_code 22 = .ok (.goto (-20), 3) := by decide +kernel
theorem d_10_goesThrough_25 : decode prog_12_method_57_code 25 = .ok (.iconst 0, 1) := by decide +kernel
theorem d_10_goesThrough_26 : decode prog_12_method_57_code 26 = .ok (.istore_n 1, 1) := by decide +kernel
theorem d_10_goesThrough_27 : decode prog_12_method_57_code 27 = .ok (.iload_n 1, 1) := by decide +kernel
theorem d_10_goesThrough_28 : decode prog_12_method_57_code 28 = .ok (.aload_n 0, 1) := by decide +kernel
theorem d_10_goesThrough_29 : decode prog_12_method_57_code 29 = .ok (.getfield 7, 3) := by decide +kernel
theorem d_10_goesThrough_32 : decode prog_12_method_57_code 32 = .ok (.sipush 507, 3) := by decide +kernel
theorem d_10_goesThrough_35 : decode prog_12_method_57_code 35 = .ok (.iaload, 1) := by decide +kernel
theorem d_10_goesThrough_36 : decode prog_12_method_57_code 36 = .ok (.if_icmp .ge 39, 3) := by decide +kernel
theorem d_10_goesThrough_39 : decode prog_12_method_57_code 39 = .ok (.aload_n 0, 1) := by decide +kernel
theorem d_10_goesThrough_40 : decode prog_12_method_57_code 40 = .ok (.getfield 7, 3) := by decide +kernel
theorem d_10_goesThrough_43 : decode prog_12_method_57_code 43 = .ok (.sipush 508, 3) := by decide +kernel
theorem d_10_goesThrough_46 : decode prog_12_method_57_code 46 = .ok (.iconst 4, 1) := by decide +kernel
theorem d_10_goesThrough_47 : decode prog_12_method_57_code 47 = .ok (.iload_n 1, 1) := by decide +kernel
theorem d_10_goesThrough_48 : decode prog_12_method_57_code 48 = .ok (.imul, 1) := by decide +kernel
theorem d_10_goesThrough_49 : decode prog_12_method_57_code 49 = .ok (.iadd, 1) := by decide +kernel
theorem d_10_goesThrough_50 : decode prog_12_method_57_code 50 = .ok (.iconst 2, 1) := by decide +kernel
theorem d_10_goesThrough_51 : decode prog_12_method_57_code 51 = .ok (.iadd, 1) := by decide +kernel
theorem d_10_goesThrough_52 : decode prog_12_method_57_code 52 = .ok (.iconst 0, 1) := by decide +kernel
theorem d_10_goesThrough_53 : decode prog_12_method_57_code 53 = .ok (.iastore, 1) := by decide +kernel
theorem d_10_goesThrough_54 : decode prog_12_method_57_code 54 = .ok (.aload_n 0, 1) := by decide +kernel
theorem d_10_goesThrough_55 : decode prog_12_method_57_code 55 = .ok (.getfield 7, 3) := by decide +kernel
theorem d_10_goesThrough_58 : decode prog_12_method_57_code 58 = .ok (.sipush 508, 3) := by decide +kernel
theorem d_10_goesThrough_61 : decode prog_12_method_57_code 61 = .ok (.iconst 4, 1) := by decide +kernel
theorem d_10_goesThrough_62 : decode prog_12_method_57_code 62 = .ok (.iload_n 1, 1) := by decide +kernel
theorem d_10_goesThrough_63 : decode prog_12_method_57_code 63 = .ok (.imul, 1) := by decide +kernel
theorem d_10_goesThrough_64 : decode prog_12_method_57_code 64 = .ok (.iadd, 1) := by decide +kernel
theorem d_10_goesThrough_65 : decode prog_12_method_57_code 65 = .ok (.iconst 3, 1) := by decide +kernel
theorem d_10_goesThrough_66 : decode prog_12_method_57_code 66 = .ok (.iadd, 1) := by decide +kernel
theorem d_10_goesThrough_67 : decode prog_12_method_57_code 67 = .ok (.iconst 0, 1) := by decide +kernel
theorem d_10_goesThrough_68 : decode prog_12_method_57_code 68 = .ok (.iastore, 1) := by decide +kernel
theorem d_10_goesThrough_69 : decode prog_12_method_57_code 69 = .ok (.iinc 1 1, 3) := by decide +kernel
theorem d_10_goesThrough_72 : decode prog_12_method_57_code 72 = .ok (.goto (-45), 3) := by decide +kernel
theorem d_10_goesThrough_75 : decode prog_12_method_57_code 75 = .ok (.aload_n 0, 1) := by decide +kernel
theorem d_10_goesThrough_76 : decode prog_12_method_57_code 76 = .ok (.iconst (-1), 1) := by decide +kernel
theorem d_10_goesThrough_77 : decode prog_12_method_57_code 77 = .ok (.putfield 161, 3) := by decide +kernel
theorem d_10_goesThrough_80 : decode prog_12_method_57_code 80 = .ok (.aload_n 0, 1) := by decide +kernel
theorem d_10_goesThrough_81 : decode prog_12_method_57_code 81 = .ok (.iconst 1, 1) := by decide +kernel
theorem d_10_goesThrough_82 : decode prog_12_method_57_code 82 = .ok (.putfield 154, 3) := by decide +kernel
theorem d_10_goesThrough_85 : decode prog_12_method_57_code 85 = .ok (.iconst 0, 1) := by decide +kernel
theorem d_10_goesThrough_86 : decode prog_12_method_57_code 86 = .ok (.istore_n 1, 1) := by decide +kernel
theorem d_10_goesThrough_87 : decode prog_12_method_57_code 87 = .ok (.iload_n 1, 1) := by decide +kernel
theorem d_10_goesThrough_88 : decode prog_12_method_57_code 88 = .ok (.aload_n 0, 1) := by decide +kernel
theorem d_10_goesThrough_89 : decode prog_12_method_57_code 89 = .ok (.getfield 7, 3) := by decide +kernel
theorem d_10_goesThrough_92 : decode prog_12_method_57_code 92 = .ok (.sipush 507, 3) := by decide +kernel
theorem d_10_goesThrough_95 : decode prog_12_method_57_code 95 = .ok (.iaload, 1) := by decide +kernel
theorem d_10_goesThrough_96 : decode prog_12_method_57_code 96 = .ok (.if_icmp .ge 95, 3) := by decide +kernel
theorem d_10_goesThrough_99 : decode prog_12_method_57_code 99 = .ok (.aload_n 0, 1) := by decide +kernel
theorem d_10_goesThrough_100 : decode prog_12_method_57_code 100 = .ok (.getfield 154, 3) := by decide +kernel
theorem d_10_goesThrough_103 : decode prog_12_method_57_code 103 = .ok (.ifCond .eq 88, 3) := by decide +kernel
theorem d_10_goesThrough_106 : decode prog_12_method_57_code 106 = .ok (.aload_n 0, 1) := by decide +kernel
theorem d_10_goesThrough_107 : decode prog_12_method_57_code 107 = .ok (.aload_n 0, 1) := by decide +kernel
theorem d_10_goesThrough_108 : decode prog_12_method_57_code 108 = .ok (.getfield 19, 3) := by decide +kernel
theorem d_10_goesThrough_111 : decode prog_12_method_57_code 111 = .ok (.iload_n 1, 1) := by decide +kernel
theorem d_10_goesThrough_112 : decode prog_12_method_57_code 112 = .ok (.iaload, 1) := by decide +kernel
theorem d_10_goesThrough_113 : decode prog_12_method_57_code 113 = .ok (.iconst 0, 1) := by decide +kernel
theorem d_10_goesThrough_114 : decode prog_12_method_57_code 114 = .ok (.invokevirtual 69, 3) := by decide +kernel
theorem d_10_goesThrough_117 : decode prog_12_method_57_code 117 = .ok (.istore_n 2, 1) := by decide +kernel
theorem d_10_goesThrough_118 : decode prog_12_method_57_code 118 = .ok (.aload_n 0, 1) := by decide +kernel
theorem d_10_goesThrough_119 : decode prog_12_method_57_code 119 = .ok (.aload_n 0, 1) := by decide +kernel
theorem d_10_goesThrough_120 : decode prog_12_method_57_code 120 = .ok (.iload_n 2, 1) := by decide +kernel
theorem d_10_goesThrough_121 : decode prog_12_method_57_code 121 = .ok (.invokevirtual 170, 3) := by decide +kernel
theorem d_10_goesThrough_124 : decode prog_12_method_57_code 124 = .ok (.iload_n 2, 1) := by decide +kernel
theorem d_10_goesThrough_125 : decode prog_12_method_57_code 125 = .ok (.iconst 1, 1) := by decide +kernel
theorem d_10_goesThrough_126 : decode prog_12_method_57_code 126 = .ok (.invokevirtual 164, 3) := by decide +kernel
theorem d_10_goesThrough_129 : decode prog_12_method_57_code 129 = .ok (.ifCond .eq 44, 3) := by decide +kernel
theorem d_10_goesThrough_132 : decode prog_12_method_57_code 132 = .ok (.aload_n 0, 1) := by decide +kernel
theorem d_10_goesThrough_133 : decode prog_12_method_57_code 133 = .ok (.iload_n 2, 1) := by decide +kernel
theorem d_10_goesThrough_134 : decode prog_12_method_57_code 134 = .ok (.putfield 161, 3) := by decide +kernel
theorem d_10_goesThrough_137 : decode prog_12_method_57_code 137 = .ok (.iconst 0, 1) := by decide +kernel
theorem d_10_goesThrough_138 : decode prog_12_method_57_code 138 = .ok (.istore_n 3, 1) := by decide +kernel
theorem d_10_goesThrough_139 : decode prog_12_method_57_code 139 = .ok (.iload_n 3, 1) := by decide +kernel
theorem d_10_goesThrough_140 : decode prog_12_method_57_code 140 = .ok (.aload_n 0, 1) := by decide +kernel
theorem d_10_goesThrough_141 : decode prog_12_method_57_code 141 = .ok (.iload_n 2, 1) := by decide +kernel
theorem d_10_goesThrough_142 : decode prog_12_method_57_code 142 = .ok (.iconst 0, 1) := by decide +kernel
theorem d_10_goesThrough_143 : decode prog_12_method_57_code 143 = .ok (.invokevirtual 37, 3) := by decide +kernel
theorem d_10_goesThrough_146 : decode prog_12_method_57_code 146 = .ok (.if_icmp .ge 27, 3) := by decide +kernel
theorem d_10_goesThrough_149 : decode prog_12_method_57_code 149 = .ok (.aload_n 0, 1) := by decide +kernel
theorem d_10_goesThrough_150 : decode prog_12_method_57_code 150 = .ok (.getfield 154, 3) := by decide +kernel
theorem d_10_goesThrough_153 : decode prog_12_method_57_code 153 = .ok (.ifCond .eq 20, 3) := by decide +kernel
theorem d_10_goesThrough_156 : decode prog_12_method_57_code 156 = .ok (.aload_n 0, 1) := by decide +kernel
theorem d_10_goesThrough_157 : decode prog_12_method_57_code 157 = .ok (.aload_n 0, 1) := by decide +kernel
theorem d_10_goesThrough_158 : decode prog_12_method_57_code 158 = .ok (.getfield 19, 3) := by decide +kernel
theorem d_10_goesThrough_161 : decode prog_12_method_57_code 161 = .ok (.iload_n 1, 1) := by decide +kernel
theorem d_10_goesThrough_162 : decode prog_12_method_57_code 162 = .ok (.iaload, 1) := by decide +kernel
theorem d_10_goesThrough_163 : decode prog_12_method_57_code 163 = .ok (.iload_n 3, 1) := by decide +kernel
theorem d_10_goesThrough_164 : decode prog_12_method_57_code 164 = .ok (.invokevirtual 173, 3) := by decide +kernel
theorem d_10_goesThrough_167 : decode prog_12_method_57_code 167 = .ok (.iinc 3 1, 3) := by decide +kernel
theorem d_10_goesThrough_170 : decode prog_12_method_57_code 170 = .ok (.goto (-31), 3) := by decide +kernel
theorem d_10_goesThrough_173 : decode prog_12_method_57_code 173 = .ok (.iload_n 1, 1) := by decide +kernel
theorem d_10_goesThrough_174 : decode prog_12_method_57_code 174 = .ok (.aload_n 0, 1) := by decide +kernel
theorem d_10_goesThrough_175 : decode prog_12_method_57_code 175 = .ok (.getfield 154, 3) := by decide +kernel
theorem d_10_goesThrough_178 : decode prog_12_method_57_code 178 = .ok (.ifCond .eq 7, 3) := by decide +kernel
theorem d_10_goesThrough_181 : decode prog_12_method_57_code 181 = .ok (.iconst 1, 1) := by decide +kernel
theorem d_10_goesThrough_182 : decode prog_12_method_57_code 182 = .ok (.goto 4, 3) := by decide +kernel
theorem d_10_goesThrough_185 : decode prog_12_method_57_code 185 = .ok (.iconst 0, 1) := by decide +kernel
theorem d_10_goesThrough_186 : decode prog_12_method_57_code 186 = .ok (.iadd, 1) := by decide +kernel
theorem d_10_goesThrough_187 : decode prog_12_method_57_code 187 = .ok (.istore_n 1, 1) := by decide +kernel
theorem d_10_goesThrough_188 : decode prog_12_method_57_code 188 = .ok (.goto (-101), 3) := by decide +kernel
theorem d_10_goesThrough_191 : decode prog_12_method_57_code 191 = .ok (.aload_n 0, 1) := by decide +kernel
theorem d_10_goesThrough_192 : decode prog_12_method_57_code 192 = .ok (.getfield 7, 3) := by decide +kernel
theorem d_10_goesThrough_195 : decode prog_12_method_57_code 195 = .ok (.sipush 554, 3) := by decide +kernel
theorem d_10_goesThrough_198 : decode prog_12_method_57_code 198 = .ok (.iload_n 1, 1) := by decide +kernel
theorem d_10_goesThrough_199 : decode prog_12_method_57_code 199 = .ok (.iastore, 1) := by decide +kernel
theorem d_10_goesThrough_200 : decode prog_12_method_57_code 200 = .ok (.aload_n 0, 1) := by decide +kernel
theorem d_10_goesThrough_201 : decode prog_12_method_57_code 201 = .ok (.iconst 1, 1) := by decide +kernel
theorem d_10_goesThrough_202 : decode prog_12_method_57_code 202 = .ok (.aload_n 0, 1) := by decide +kernel
theorem d_10_goesThrough_203 : decode prog_12_method_57_code 203 = .ok (.aload_n 0, 1) := by decide +kernel
theorem d_10_goesThrough_204 : decode prog_12_method_57_code 204 = .ok (.getfield 161, 3) := by decide +kernel
theorem d_10_goesThrough_207 : decode prog_12_method_57_code 207 = .ok (.invokevirtual 151, 3) := by decide +kernel
theorem d_10_goesThrough_210 : decode prog_12_method_57_code 210 = .ok (.invokevirtual 158, 3) := by decide +kernel
theorem d_10_goesThrough_213 : decode prog_12_method_57_code 213 = .ok (.iconst 2, 1) := by decide +kernel
theorem d_10_goesThrough_214 : decode prog_12_method_57_code 214 = .ok (.aload_n 0, 1) := by decide +kernel
theorem d_10_goesThrough_215 : decode prog_12_method_57_code 215 = .ok (.getfield 7, 3) := by decide +kernel
theorem d_10_goesThrough_218 : decode prog_12_method_57_code 218 = .ok (.sipush 506, 3) := by decide +kernel
theorem d_10_goesThrough_221 : decode prog_12_method_57_code 221 = .ok (.iaload, 1) := by decide +kernel
theorem d_10_goesThrough_222 : decode prog_12_method_57_code 222 = .ok (.imul, 1) := by decide +kernel
theorem d_10_goesThrough_223 : decode prog_12_method_57_code 223 = .ok (.aload_n 0, 1) := by decide +kernel
theorem d_10_goesThrough_224 : decode prog_12_method_57_code 224 = .ok (.getfield 7, 3) := by decide +kernel
theorem d_10_goesThrough_227 : decode prog_12_method_57_code 227 = .ok (.sipush 500, 3) := by decide +kernel
theorem d_10_goesThrough_230 : decode prog_12_method_57_code 230 = .ok (.iaload, 1) := by decide +kernel
theorem d_10_goesThrough_231 : decode prog_12_method_57_code 231 = .ok (.if_icmp .lt 7, 3) := by decide +kernel
theorem d_10_goesThrough_234 : decode prog_12_method_57_code 234 = .ok (.aload_n 0, 1) := by decide +kernel
theorem d_10_goesThrough_235 : decode prog_12_method_57_code 235 = .ok (.invokevirtual 167, 3) := by decide +kernel
theorem d_10_goesThrough_238 : decode prog_12_method_57_code 238 = .ok (.aload_n 0, 1) := by decide +kernel
theorem d_10_goesThrough_239 : decode prog_12_method_57_code 239 = .ok (.getfield 7, 3) := by decide +kernel
theorem d_10_goesThrough_242 : decode prog_12_method_57_code 242 = .ok (.sipush 505, 3) := by decide +kernel
theorem d_10_goesThrough_245 : decode prog_12_method_57_code 245 = .ok (.iaload, 1) := by decide +kernel
theorem d_10_goesThrough_246 : decode prog_12_method_57_code 246 = .ok (.aload_n 0, 1) := by decide +kernel
theorem d_10_goesThrough_247 : decode prog_12_method_57_code 247 = .ok (.getfield 7, 3) := by decide +kernel
theorem d_10_goesThrough_250 : decode prog_12_method_57_code 250 = .ok (.sipush 503, 3) := by decide +kernel
theorem d_10_goesThrough_253 : decode prog_12_method_57_code 253 = .ok (.iaload, 1) := by decide +kernel
theorem d_10_goesThrough_254 : decode prog_12_method_57_code 254 = .ok (.if_icmp .ge 37, 3) := by decide +kernel
theorem d_10_goesThrough_257 : decode prog_12_method_57_code 257 = .ok (.aload_n 0, 1) := by decide +kernel
theorem d_10_goesThrough_258 : decode prog_12_method_57_code 258 = .ok (.getfield 7, 3) := by decide +kernel
theorem d_10_goesThrough_261 : decode prog_12_method_57_code 261 = .ok (.sipush 501, 3) := by decide +kernel
theorem d_10_goesThrough_264 : decode prog_12_method_57_code 264 = .ok (.iaload, 1) := by decide +kernel
theorem d_10_goesThrough_265 : decode prog_12_method_57_code 265 = .ok (.ifCond .le 26, 3) := by decide +kernel
theorem d_10_goesThrough_268 : decode prog_12_method_57_code 268 = .ok (.aload_n 0, 1) := by decide +kernel
theorem d_10_goesThrough_269 : decode prog_12_method_57_code 269 = .ok (.getfield 7, 3) := by decide +kernel
theorem d_10_goesThrough_272 : decode prog_12_method_57_code 272 = .ok (.sipush 501, 3) := by decide +kernel
theorem d_10_goesThrough_275 : decode prog_12_method_57_code 275 = .ok (.dup2, 1) := by decide +kernel
theorem d_10_goesThrough_276 : decode prog_12_method_57_code 276 = .ok (.iaload, 1) := by decide +kernel
theorem d_10_goesThrough_277 : decode prog_12_method_57_code 277 = .ok (.iconst 1, 1) := by decide +kernel
theorem d_10_goesThrough_278 : decode prog_12_method_57_code 278 = .ok (.isub, 1) := by decide +kernel
theorem d_10_goesThrough_279 : decode prog_12_method_57_code 279 = .ok (.iastore, 1) := by decide +kernel
theorem d_10_goesThrough_280 : decode prog_12_method_57_code 280 = .ok (.aload_n 0, 1) := by decide +kernel
theorem d_10_goesThrough_281 : decode prog_12_method_57_code 281 = .ok (.getfield 7, 3) := by decide +kernel
theorem d_10_goesThrough_284 : decode prog_12_method_57_code 284 = .ok (.sipush 505, 3) := by decide +kernel
theorem d_10_goesThrough_287 : decode prog_12_method_57_code 287 = .ok (.sipush 1000, 3) := by decide +kernel
theorem d_10_goesThrough_290 : decode prog_12_method_57_code 290 = .ok (.iastore, 1) := by decide +kernel
theorem d_10_goesThrough_291 : decode prog_12_method_57_code 291 = .ok (.aload_n 0, 1) := by decide +kernel
theorem d_10_goesThrough_292 : decode prog_12_method_57_code 292 = .ok (.getfield 7, 3) := by decide +kernel
theorem d_10_goesThrough_295 : decode prog_12_method_57_code 295 = .ok (.sipush 555, 3) := by decide +kernel
theorem d_10_goesThrough_298 : decode prog_12_method_57_code 298 = .ok (.iconst 1, 1) := by decide +kernel
theorem d_10_goesThrough_299 : decode prog_12_method_57_code 299 = .ok (.iastore, 1) := by decide +kernel
theorem d_10_goesThrough_300 : decode prog_12_method_57_code 300 = .ok (.aload_n 0, 1) := by decide +kernel
theorem d_10_goesThrough_301 : decode prog_12_method_57_code 301 = .ok (.getfield 7, 3) := by decide +kernel
theorem d_10_goesThrough_304 : decode prog_12_method_57_code 304 = .ok (.sipush 548, 3) := by decide +kernel
theorem d_10_goesThrough_307 : decode prog_12_method_57_code 307 = .ok (.iconst 1, 1) := by decide +kernel
theorem d_10_goesThrough_308 : decode prog_12_method_57_code 308 = .ok (.iastore, 1) := by decide +kernel
theorem d_10_goesThrough_309 : decode prog_12_method_57_code 309 = .ok (.aload_n 0, 1) := by decide +kernel
theorem d_10_goesThrough_310 : decode prog_12_method_57_code 310 = .ok (.getfield 7, 3) := by decide +kernel
theorem d_10_goesThrough_313 : decode prog_12_method_57_code 313 = .ok (.sipush 562, 3) := by decide +kernel
theorem d_10_goesThrough_316 : decode prog_12_method_57_code 316 = .ok (.dup2, 1) := by decide +kernel
theorem d_10_goesThrough_317 : decode prog_12_method_57_code 317 = .ok (.iaload, 1) := by decide +kernel
theorem d_10_goesThrough_318 : decode prog_12_method_57_code 318 = .ok (.iconst 1, 1) := by decide +kernel
theorem d_10_goesThrough_319 : decode prog_12_method_57_code 319 = .ok (.iadd, 1) := by decide +kernel
theorem d_10_goesThrough_320 : decode prog_12_method_57_code 320 = .ok (.iastore, 1) := by decide +kernel
theorem d_10_goesThrough_321 : decode prog_12_method_57_code 321 = .ok (.return_, 1) := by decide +kernel
def m_10_goesThrough_291 (r0 : Nat) (Q : St → Prop) (σ : St) : Prop :=
  vp_in (555 : Int32) 5640 ∧ ∀ σ_1 : St, σ_1 = wr σ (r0 + 1) ((555 : Int32)).toNatClampNeg (1 : Int32) → vp_in (548 : Int32) 5640 ∧ ∀ σ_2 : St, σ_2 = wr σ_1 (r0 + 1) ((548 : Int32)).toNatClampNeg (1 : Int32) → vp_in (562 : Int32) 5640 ∧ vp_in (562 : Int32) 5640 ∧ ∀ σ_3 : St, σ_3 = wr σ_2 (r0 + 1) ((562 : Int32)).toNatClampNeg ((σ_2.1 (r0 + 1) ((562 : Int32)).toNatClampNeg) + (1 : Int32)) → Q σ_3
def m_10_goesThrough_238 (r0 : Nat) (Q : St → Prop) (σ : St) : Prop :=
  vp_in (505 : Int32) 5640 ∧ vp_in (503 : Int32) 5640 ∧ (((σ.1 (r0 + 1) ((503 : Int32)).toNatClampNeg) ≤ (σ.1 (r0 + 1) ((505 : Int32)).toNatClampNeg) → m_10_goesThrough_291 r0 Q   σ) ∧ (¬ (σ.1 (r0 + 1) ((503 : Int32)).toNatClampNeg) ≤ (σ.1 (r0 + 1) ((505 : Int32)).toNatClampNeg) → vp_in (501 : Int32) 5640 ∧ (((σ.1 (r0 + 1) ((501 : Int32)).toNatClampNeg) ≤ 0 → m_10_goesThrough_291 r0 Q   σ) ∧ (¬ (σ.1 (r0 + 1) ((501 : Int32)).toNatClampNeg) ≤ 0 → vp_in (501 : Int32) 5640 ∧ vp_in (501 : Int32) 5640 ∧ ∀ σ_1 : St, σ_1 = wr σ (r0 + 1) ((501 : Int32)).toNatClampNeg ((σ.1 (r0 + 1) ((501 : Int32)).toNatClampNeg) - (1 : Int32)) → vp_in (505 : Int32) 5640 ∧ ∀ σ_2 : St, σ_2 = wr σ_1 (r0 + 1) ((505 : Int32)).toNatClampNeg (1000 : Int32) → m_10_goesThrough_291 r0 Q   σ_2))))
def m_10_goesThrough_191 (r0 : Nat) (x1 : Int32) (Q : St → Prop) (σ : St) : Prop :=
  vp_in (554 : Int32) 5640 ∧ ∀ σ_1 : St, σ_1 = wr σ (r0 + 1) ((554 : Int32)).toNatClampNeg x1 → m_10_home r0 (σ_1.1 r0 9) (fun (v_3 : Int32) (σ_2 : St) => m_10_adds r0 (1 : Int32) v_3 (fun (σ_4 : St) => vp_in (506 : Int32) 5640 ∧ vp_in (500 : Int32) 5640 ∧ ((((2 : Int32) * (σ_4.1 (r0 + 1) ((506 : Int32)).toNatClampNeg)) < (σ_4.1 (r0 + 1) ((500 : Int32)).toNatClampNeg) → m_10_goesThrough_238 r0 Q   σ_4) ∧ (¬ ((2 : Int32) * (σ_4.1 (r0 + 1) ((506 : Int32)).toNatClampNeg)) < (σ_4.1 (r0 + 1) ((500 : Int32)).toNatClampNeg) → m_10_dumps r0 (fun (σ_6 : St) => m_10_goesThrough_238 r0 Q   σ_6) σ_4))) σ_2) σ_1
def m_10_goesThrough_173 (r0 : Nat) (x1 : Int32) (B87 : Int32 → St → Prop) (Q : St → Prop) (σ : St) : Prop :=
  (((σ.1 r0 10) = 0 → ∀ x1_1 : Int32, x1_1 = (x1 + (0 : Int32)) → B87 x1_1 σ) ∧ (¬ (σ.1 r0 10) = 0 → ∀ x1_2 : Int32, x1_2 = (x1 + (1 : Int32)) → B87 x1_2 σ))
def m_10_goesThrough_139 (r0 : Nat) (x1 : Int32) (x2 : Int32) (B87 : Int32 → St → Prop) (Q : St → Prop) (B139 : Int32 → St → Prop) (x3 : Int32) (σ : St) : Prop :=
  m_10_of r0 x2 (0 : Int32) (fun (v_2 : Int32) (σ_1 : St) => ((v_2 ≤ x3 → m_10_goesThrough_173 r0 x1 B87 Q   σ_1) ∧ (¬ v_2 ≤ x3 → (((σ_1.1 r0 10) = 0 → m_10_goesThrough_173 r0 x1 B87 Q   σ_1) ∧ (¬ (σ_1.1 r0 10) = 0 → vp_in x1 10 ∧ m_10_sweeps r0 (σ_1.1 (r0 + 4) (x1).toNatClampNeg) x3 (fun (σ_3 : St) => ∀ x3_5 : Int32, x3_5 = x3 + 1 → B139 x3_5 σ_3) σ_1))))) σ
def m_10_goesThrough_87 (r0 : Nat) (Q : St → Prop) (B87 : Int32 → St → Prop) (x1 : Int32) (σ : St) : Prop :=
  vp_in (507 : Int32) 5640 ∧ (((σ.1 (r0 + 1) ((507 : Int32)).toNatClampNeg) ≤ x1 → m_10_goesThrough_191 r0 x1 Q   σ) ∧ (¬ (σ.1 (r0 + 1) ((507 : Int32)).toNatClampNeg) ≤ x1 → (((σ.1 r0 10) = 0 → m_10_goesThrough_191 r0 x1 Q   σ) ∧ (¬ (σ.1 r0 10) = 0 → vp_in x1 10 ∧ m_10_legOf r0 (σ.1 (r0 + 4) (x1).toNatClampNeg) (0 : Int32) (fun (v_2 : Int32) (σ_1 : St) => m_10_drive r0 v_2 (fun (v_4 : Int32) (σ_3 : St) => m_10_fits r0 v_4 v_2 (1 : Int32) (fun (v_6 : Int32) (σ_5 : St) => ((v_6 = 0 → m_10_goesThrough_173 r0 x1 B87 Q   σ_5) ∧ (¬ v_6 = 0 → ∀ σ_7 : St, σ_7 = wr σ_5 r0 9 v_2 → itN (m_10_goesThrough_139 r0 x1 v_2 B87 Q) (fun _ _ => False) FU (0 : Int32) σ_7))) σ_3) σ_1) σ))))
def m_10_goesThrough_27 (r0 : Nat) (Q : St → Prop) (B27 : Int32 → St → Prop) (x1 : Int32) (σ : St) : Prop :=
  vp_in (507 : Int32) 5640 ∧ (((σ.1 (r0 + 1) ((507 : Int32)).toNatClampNeg) ≤ x1 → ∀ σ_1 : St, σ_1 = wr σ r0 9 (-1 : Int32) → ∀ σ_2 : St, σ_2 = wr σ_1 r0 10 (1 : Int32) → itN (m_10_goesThrough_87 r0 Q) (fun _ _ => False) FU (0 : Int32) σ_2) ∧ (¬ (σ.1 (r0 + 1) ((507 : Int32)).toNatClampNeg) ≤ x1 → vp_in (((508 : Int32) + ((4 : Int32) * x1)) + (2 : Int32)) 5640 ∧ ∀ σ_3 : St, σ_3 = wr σ (r0 + 1) ((((508 : Int32) + ((4 : Int32) * x1)) + (2 : Int32))).toNatClampNeg (0 : Int32) → vp_in (((508 : Int32) + ((4 : Int32) * x1)) + (3 : Int32)) 5640 ∧ ∀ σ_4 : St, σ_4 = wr σ_3 (r0 + 1) ((((508 : Int32) + ((4 : Int32) * x1)) + (3 : Int32))).toNatClampNeg (0 : Int32) → ∀ x1_5 : Int32, x1_5 = x1 + 1 → B27 x1_5 σ_4))
def m_10_goesThrough_2 (r0 : Nat) (Q : St → Prop) (B2 : Int32 → St → Prop) (x1 : Int32) (σ : St) : Prop :=
  (((6 : Int32) ≤ x1 → itN (m_10_goesThrough_27 r0 Q) (fun _ _ => False) FU (0 : Int32) σ) ∧ (¬ (6 : Int32) ≤ x1 → vp_in ((549 : Int32) + x1) 5640 ∧ ∀ σ_1 : St, σ_1 = wr σ (r0 + 1) (((549 : Int32) + x1)).toNatClampNeg (0 : Int32) → ∀ x1_2 : Int32, x1_2 = x1 + 1 → B2 x1_2 σ_1))
def m_10_goesThrough (r0 : Nat) (Q : St → Prop) (σ : St) : Prop :=
  itN (m_10_goesThrough_2 r0 Q) (fun _ _ => False) FU (0 : Int32) σ
section MB
variable {p : Program} {l : Launch} {e : Env} {R : Room} {s : State} {m : MethodId} {args : Array Value} {below : List Frame} {meth : Method} {c : Code} {cells slots : Nat} {QW : State → Prop}
variable {D : va_G} {ac : Nat → ClassId} {ad st : Nat → Nat} {A : Nat → Prop}
set_option maxHeartbeats 4000000 in
set_option maxRecDepth 100000 in
theorem w_10_isNumber_0 {r0 : Nat} {x1 : Int32} {x2 : Int32} {Q : Int32 → St → Prop} {σ : St} {H : Heap} {locs : List Loc} {ls : Array Slot} (S : SC A D ac st p m c prog_12_method_44_code 3 s args "SweeperRoundsModel" R cells slots 1 22) (hR : RtZ A D ac ad p l e R s m args below meth c prog_12_method_44_code cells slots QW Q) (hk_r0 : kd r0 = 10) (hG : DG A D ac ad s σ H locs) (hl : lv_has ls 3 [(0, .ref (ad r0)), (1, .int x1), (2, .int x2)]) (hf : m_10_isNumber r0 x1 x2 Q σ) : W p l e R s m args below meth c H locs cells slots QW (F0 m 0 ls []) := by
  have hx := S.1.1
  have hb := S.1.2.1
  unfold m_10_isNumber at hf
  refine lv_iload_n hx hb d_10_isNumber_0 rfl (lv_at hl 1 rfl) ?_
  refine lv_topi (fun q_1 eq_1 => ?_)
  rcases sw_0_5 q_1 with hq_1 | hq_1 | hq_1 | hq_1 | hq_1 | hq_1 | hq_1
  · rw [eq_1] at hq_1 ⊢
    refine lv_tableOut (tgt := 113) hx hb d_10_isNumber_1 hq_1 (by decide) ?_
    have hf := hf.1 hq_1
    refine lv_iconst (v := (0 : Int32)) hx hb d_10_isNumber_113 (by decide) ?_
    exact hR _ _ _ _ _ _ hG (by unfold isB; decide) hf d_10_isNumber_114
  · subst hq_1
    refine lv_tableIn (off := 39) (tgt := 40) hx hb d_10_isNumber_1 (by decide) (by decide) (by decide) (by decide) ?_
    have hf := hf.2.1 eq_1.symm
    refine lv_iload_n hx hb d_10_isNumber_40 rfl (lv_at hl 2 rfl) ?_
    refine lv_iconst (v := (1 : Int32)) hx hb d_10_isNumber_41 (by decide) ?_
    refine lv_iconst (v := (4 : Int32)) hx hb d_10_isNumber_42 (by decide) ?_
    refine iv_10_40 S hl.1 hG  (c_10_in l  hf) ⟨Nat.le_of_ble_eq_true rfl, Nat.le_of_ble_eq_true rfl⟩ (Nat.le_of_ble_eq_true rfl) d_10_isNumber_43 (fun v_3 σ_2 hf H locs hG => ?_)
    exact hR _ _ _ _ _ _ hG hf.1 hf.2 d_10_isNumber_46
  · subst hq_1
    refine lv_tableIn (off := 46) (tgt := 47) hx hb d_10_isNumber_1 (by decide) (by decide) (by decide) (by decide) ?_
    have hf := hf.2.2.1 eq_1.symm
    refine lv_iload_n hx hb d_10_isNumber_47 rfl (lv_at hl 2 rfl) ?_
    refine lv_bipush (v := (20 : Int32)) hx hb d_10_isNumber_48 (by decide) ?_
    refine lv_sipush (v := (2000 : Int32)) hx hb d_10_isNumber_50 (by decide) ?_
    refine iv_10_40 S hl.1 hG  (c_10_in l  hf) ⟨Nat.le_of_ble_eq_true rfl, Nat.le_of_ble_eq_true rfl⟩ (Nat.le_of_ble_eq_true rfl) d_10_isNumber_53 (fun v_5 σ_4 hf H locs hG => ?_)
    refine lv_if_eq (tgt := 75) hx hb d_10_isNumber_56 (by decide) (fun hc => ?_) (fun hc => ?_)
    · have hf := hf.1 hc
      refine lv_iconst (v := (0 : Int32)) hx hb d_10_isNumber_75 (by decide) ?_
      exact hR _ _ _ _ _ _ hG (by unfold isB; decide) hf d_10_isNumber_76
    · have hf := hf.2 hc
      refine lv_iload_n hx hb d_10_isNumber_59 rfl (lv_at hl 2 rfl) ?_
      refine lv_aload_n hx hb d_10_isNumber_60 rfl (lv_at hl 0 rfl) ?_
      refine gf_10_7 S hG hk_r0 d_10_isNumber_61 ?_
      refine lv_sipush (v := (506 : Int32)) hx hb d_10_isNumber_64 (by decide) ?_
      refine mia S hG 30 rfl rfl (kr_10_0 hk_r0) hf.1 d_10_isNumber_67 ?_
      have hf := hf.2
      refine lv_icmp_lt (tgt := 75) hx hb d_10_isNumber_68 (by decide) (fun hc => ?_) (fun hc => ?_)
      · have hf := hf.1 hc
        refine lv_iconst (v := (0 : Int32)) hx hb d_10_isNumber_75 (by decide) ?_
        exact hR _ _ _ _ _ _ hG (by unfold isB; decide) hf d_10_isNumber_76
      · have hf := hf.2 hc
        refine lv_iconst (v := (1 : Int32)) hx hb d_10_isNumber_71 (by decide) ?_
        refine lv_goto (tgt := 76) hx hb d_10_isNumber_72 (by decide) ?_
        exact hR _ _ _ _ _ _ hG (by unfold isB; decide) hf d_10_isNumber_76
  · subst hq_1
    refine lv_tableIn (off := 76) (tgt := 77) hx hb d_10_isNumber_1 (by decide) (by decide) (by decide) (by decide) ?_
    have hf := hf.2.2.2.1 eq_1.symm
    refine lv_iload_n hx hb d_10_isNumber_77 rfl (lv_at hl 2 rfl) ?_
    refine lv_iconst (v := (0 : Int32)) hx hb d_10_isNumber_78 (by decide) ?_
    refine lv_bipush (v := (9 : Int32)) hx hb d_10_isNumber_79 (by decide) ?_
    refine iv_10_40 S hl.1 hG  (c_10_in l  hf) ⟨Nat.le_of_ble_eq_true rfl, Nat.le_of_ble_eq_true rfl⟩ (Nat.le_of_ble_eq_true rfl) d_10_isNumber_81 (fun v_7 σ_6 hf H locs hG => ?_)
    exact hR _ _ _ _ _ _ hG hf.1 hf.2 d_10_isNumber_84
  · subst hq_1
    refine lv_tableIn (off := 84) (tgt := 85) hx hb d_10_isNumber_1 (by decide) (by decide) (by decide) (by decide) ?_
    have hf := hf.2.2.2.2.1 eq_1.symm
    refine lv_iload_n hx hb d_10_isNumber_85 rfl (lv_at hl 2 rfl) ?_
    refine lv_bipush (v := (100 : Int32)) hx hb d_10_isNumber_86 (by decide) ?_
    refine lv_sipush (v := (6000 : Int32)) hx hb d_10_isNumber_88 (by decide) ?_
    refine iv_10_40 S hl.1 hG  (c_10_in l  hf) ⟨Nat.le_of_ble_eq_true rfl, Nat.le_of_ble_eq_true rfl⟩ (Nat.le_of_ble_eq_true rfl) d_10_isNumber_91 (fun v_9 σ_8 hf H locs hG => ?_)
    exact hR _ _ _ _ _ _ hG hf.1 hf.2 d_10_isNumber_94
  · subst hq_1
    refine lv_tableIn (off := 94) (tgt := 95) hx hb d_10_isNumber_1 (by decide) (by decide) (by decide) (by decide) ?_
    have hf := hf.2.2.2.2.2.1 eq_1.symm
    refine lv_iload_n hx hb d_10_isNumber_95 rfl (lv_at hl 2 rfl) ?_
    refine lv_iconst (v := (0 : Int32)) hx hb d_10_isNumber_96 (by decide) ?_
    refine lv_sipush (v := (1000 : Int32)) hx hb d_10_isNumber_97 (by decide) ?_
    refine iv_10_40 S hl.1 hG  (c_10_in l  hf) ⟨Nat.le_of_ble_eq_true rfl, Nat.le_of_ble_eq_true rfl⟩ (Nat.le_of_ble_eq_true rfl) d_10_isNumber_100 (fun v_11 σ_10 hf H locs hG => ?_)
    exact hR _ _ _ _ _ _ hG hf.1 hf.2 d_10_isNumber_103
  · subst hq_1
    refine lv_tableIn (off := 103) (tgt := 104) hx hb d_10_isNumber_1 (by decide) (by decide) (by decide) (by decide) ?_
    have hf := hf.2.2.2.2.2.2 eq_1.symm
    refine lv_iload_n hx hb d_10_isNumber_104 rfl (lv_at hl 2 rfl) ?_
    refine lv_iconst (v := (0 : Int32)) hx hb d_10_isNumber_105 (by decide) ?_
    refine lv_sipush (v := (400 : Int32)) hx hb d_10_isNumber_106 (by decide) ?_
    refine iv_10_40 S hl.1 hG  (c_10_in l  hf) ⟨Nat.le_of_ble_eq_true rfl, Nat.le_of_ble_eq_true rfl⟩ (Nat.le_of_ble_eq_true rfl) d_10_isNumber_109 (fun v_13 σ_12 hf H locs hG => ?_)
    exact hR _ _ _ _ _ _ hG hf.1 hf.2 d_10_isNumber_112
theorem c_10_isNumber (l : Launch) {D : va_G} {ac : Nat → ClassId} {ad st : Nat → Nat} {A : Nat → Prop} {σ : St} {r0 : Nat} {x1 : Int32} {x2 : Int32} {Q : Int32 → St → Prop} (hk_r0 : kd r0 = 10) (hf : m_10_isNumber r0 x1 x2 Q σ) : Met l y_10_isNumber (Cond.code y_10_isNumber prog_12_method_44_code 3 (some .boolean) :: wA) { frames := 1, cells := 0, slots := 0, locals := 22 } (va_Pc [.ref (ad r0), .int x1, .int x2] (GSt A D ac ad st σ)) (va_Qi Q (GSt A D ac ad st) A) 0 0 A :=
  mkZ l (by decide +kernel) rfl [.ref (ad r0), .int x1, .int x2] (Nat.le_of_ble_eq_true rfl) (fun p e s m args below meth c ls QW S hR hG hl => w_10_isNumber_0 S hR hk_r0 hG hl hf)
set_option maxHeartbeats 4000000 in
set_option maxRecDepth 100000 in
theorem w_10_set_0 {r0 : Nat} {x1 : Int32} {x2 : Int32} {Q : Int32 → St → Prop} {σ : St} {H : Heap} {locs : List Loc} {ls : Array Slot} (S : SC A D ac st p m c prog_12_method_45_code 4 s args "SweeperRoundsModel" R cells slots 2 44) (hR : RtI A D ac ad p l e R s m args below meth c prog_12_method_45_code cells slots QW Q) (hk_r0 : kd r0 = 10) (hG : DG A D ac ad s σ H locs) (hl : lv_has ls 4 [(0, .ref (ad r0)), (1, .int x1), (2, .int x2)]) (hf : m_10_set r0 x1 x2 Q σ) : W p l e R s m args below meth c H locs cells slots QW (F0 m 0 ls []) := by
  have hx := S.1.1
  have hb := S.1.2.1
  unfold m_10_set at hf
  refine lv_aload_n hx hb d_10_set_0 rfl (lv_at hl 0 rfl) ?_
  refine lv_iload_n hx hb d_10_set_1 rfl (lv_at hl 1 rfl) ?_
  refine lv_iload_n hx hb d_10_set_2 rfl (lv_at hl 2 rfl) ?_
  refine iv_10_142 S hl.1 hG hk_r0 (c_10_isNumber l hk_r0 hf) ⟨Nat.le_of_ble_eq_true rfl, Nat.le_of_ble_eq_true rfl⟩ (Nat.le_of_ble_eq_true rfl) d_10_set_3 (fun v_2 σ_1 hf H locs hG => ?_)
  refine lv_if_ne (tgt := 11) hx hb d_10_set_6 (by decide) (fun hc => ?_) (fun hc => ?_)
  · have hf := hf.1 hc
    refine lv_aload_n hx hb d_10_set_11 rfl (lv_at hl 0 rfl) ?_
    refine iv_10_56 S hl.1 hG hk_r0 (c_10_records l hk_r0 hf) ⟨Nat.le_of_ble_eq_true rfl, Nat.le_of_ble_eq_true rfl⟩ (Nat.le_of_ble_eq_true rfl) d_10_set_12 (fun σ_3 hf H locs hG => ?_)
    refine lv_aload_n hx hb d_10_set_15 rfl (lv_at hl 0 rfl) ?_
    refine gf_10_7 S hG hk_r0 d_10_set_16 ?_
    refine lv_sipush (v := (499 : Int32)) hx hb d_10_set_19 (by decide) ?_
    refine lv_iload_n hx hb d_10_set_22 rfl (lv_at hl 1 rfl) ?_
    refine lv_iadd hx hb d_10_set_23 ?_
    refine mia S hG 30 rfl rfl (kr_10_0 hk_r0) hf.1 d_10_set_24 ?_
    have hf := hf.2
    refine lv_topi (fun x3_5 ex3_5 => ?_)
    have hf := hf x3_5 ex3_5
    refine lv_istore_n (lv' := [(3, .int x3_5), (0, .ref (ad r0)), (1, .int x1), (2, .int x2)]) hx hb d_10_set_25 rfl hl (by decide) rfl (fun ls hl => ?_)
    refine lv_aload_n hx hb d_10_set_26 rfl (lv_at hl 1 rfl) ?_
    refine gf_10_7 S hG hk_r0 d_10_set_27 ?_
    refine lv_sipush (v := (499 : Int32)) hx hb d_10_set_30 (by decide) ?_
    refine lv_iload_n hx hb d_10_set_33 rfl (lv_at hl 2 rfl) ?_
    refine lv_iadd hx hb d_10_set_34 ?_
    refine lv_iload_n hx hb d_10_set_35 rfl (lv_at hl 3 rfl) ?_
    refine mis S hG 30 rfl rfl (kr_10_0 hk_r0) hf.1 d_10_set_36 (fun σ_6 eσ_6 H locs hG => ?_)
    have hf := hf.2 σ_6 eσ_6
    refine lv_iload_n hx hb d_10_set_37 rfl (lv_at hl 0 rfl) ?_
    exact hR _ _ _ _ _ _ hG hf d_10_set_38
  · have hf := hf.2 hc
    refine lv_iconst (v := (-1 : Int32)) hx hb d_10_set_9 (by decide) ?_
    exact hR _ _ _ _ _ _ hG hf d_10_set_10
theorem c_10_set (l : Launch) {D : va_G} {ac : Nat → ClassId} {ad st : Nat → Nat} {A : Nat → Prop} {σ : St} {r0 : Nat} {x1 : Int32} {x2 : Int32} {Q : Int32 → St → Prop} (hk_r0 : kd r0 = 10) (hf : m_10_set r0 x1 x2 Q σ) : Met l y_10_set (Cond.code y_10_set prog_12_method_45_code 4 (some .int) :: wA) { frames := 2, cells := 0, slots := 0, locals := 44 } (va_Pc [.ref (ad r0), .int x1, .int x2] (GSt A D ac ad st σ)) (va_Qi Q (GSt A D ac ad st) A) 0 0 A :=
  mkI l (by decide +kernel) rfl [.ref (ad r0), .int x1, .int x2] (Nat.le_of_ble_eq_true rfl) (fun p e s m args below meth c ls QW S hR hG hl => w_10_set_0 S hR hk_r0 hG hl hf)
set_option maxHeartbeats 4000000 in
set_option maxRecDepth 100000 in
theorem w_10_addLeg_0 {r0 : Nat} {x1 : Int32} {x2 : Int32} {Q : Int32 → St → Prop} {σ : St} {H : Heap} {locs : List Loc} {ls : Array Slot} (S : SC A D ac st p m c prog_12_method_46_code 3 s args "SweeperRoundsModel" R cells slots 2 44) (hR : RtI A D ac ad p l e R s m args below meth c prog_12_method_46_code cells slots QW Q) (hk_r0 : kd r0 = 10) (hG : DG A D ac ad s σ H locs) (hl : lv_has ls 3 [(0, .ref (ad r0)), (1, .int x1), (2, .int x2)]) (hf : m_10_addLeg r0 x1 x2 Q σ) : W p l e R s m args below meth c H locs cells slots QW (F0 m 0 ls []) := by
  have hx := S.1.1
  have hb := S.1.2.1
  unfold m_10_addLeg at hf
  refine lv_aload_n hx hb d_10_addLeg_0 rfl (lv_at hl 0 rfl) ?_
  refine lv_iload_n hx hb d_10_addLeg_1 rfl (lv_at hl 1 rfl) ?_
  refine iv_10_44 S hl.1 hG hk_r0 (c_10_isStreet l hk_r0 hf) ⟨Nat.le_of_ble_eq_true rfl, Nat.le_of_ble_eq_true rfl⟩ (Nat.le_of_ble_eq_true rfl) d_10_addLeg_2 (fun v_2 σ_1 hf H locs hG => ?_)
  refine lv_if_eq (tgt := 17) hx hb d_10_addLeg_5 (by decide) (fun hc => ?_) (fun hc => ?_)
  · have hf := hf.1 hc
    refine lv_iconst (v := (-1 : Int32)) hx hb d_10_addLeg_17 (by decide) ?_
    exact hR _ _ _ _ _ _ hG hf d_10_addLeg_18
  · have hf := hf.2 hc
    refine lv_iload_n hx hb d_10_addLeg_8 rfl (lv_at hl 2 rfl) ?_
    refine lv_iconst (v := (0 : Int32)) hx hb d_10_addLeg_9 (by decide) ?_
    refine lv_iconst (v := (1 : Int32)) hx hb d_10_addLeg_10 (by decide) ?_
    refine iv_10_40 S hl.1 hG  (c_10_in l  hf) ⟨Nat.le_of_ble_eq_true rfl, Nat.le_of_ble_eq_true rfl⟩ (Nat.le_of_ble_eq_true rfl) d_10_addLeg_11 (fun v_4 σ_3 hf H locs hG => ?_)
    refine lv_if_ne (tgt := 19) hx hb d_10_addLeg_14 (by decide) (fun hc => ?_) (fun hc => ?_)
    · have hf := hf.1 hc
      refine lv_aload_n hx hb d_10_addLeg_19 rfl (lv_at hl 0 rfl) ?_
      refine gf_10_7 S hG hk_r0 d_10_addLeg_20 ?_
      refine lv_sipush (v := (507 : Int32)) hx hb d_10_addLeg_23 (by decide) ?_
      refine mia S hG 30 rfl rfl (kr_10_0 hk_r0) hf.1 d_10_addLeg_26 ?_
      have hf := hf.2
      refine lv_bipush (v := (10 : Int32)) hx hb d_10_addLeg_27 (by decide) ?_
      refine lv_icmp_ne (tgt := 35) hx hb d_10_addLeg_29 (by decide) (fun hc => ?_) (fun hc => ?_)
      · have hf := hf.1 hc
        refine lv_aload_n hx hb d_10_addLeg_35 rfl (lv_at hl 0 rfl) ?_
        refine iv_10_56 S hl.1 hG hk_r0 (c_10_records l hk_r0 hf) ⟨Nat.le_of_ble_eq_true rfl, Nat.le_of_ble_eq_true rfl⟩ (Nat.le_of_ble_eq_true rfl) d_10_addLeg_36 (fun σ_5 hf H locs hG => ?_)
        refine lv_aload_n hx hb d_10_addLeg_39 rfl (lv_at hl 0 rfl) ?_
        refine gf_10_7 S hG hk_r0 d_10_addLeg_40 ?_
        refine lv_sipush (v := (548 : Int32)) hx hb d_10_addLeg_43 (by decide) ?_
        refine lv_iconst (v := (0 : Int32)) hx hb d_10_addLeg_46 (by decide) ?_
        refine mis S hG 30 rfl rfl (kr_10_0 hk_r0) hf.1 d_10_addLeg_47 (fun σ_7 eσ_7 H locs hG => ?_)
        have hf := hf.2 σ_7 eσ_7
        refine lv_aload_n hx hb d_10_addLeg_48 rfl (lv_at hl 0 rfl) ?_
        refine gf_10_7 S hG hk_r0 d_10_addLeg_49 ?_
        refine lv_sipush (v := (508 : Int32)) hx hb d_10_addLeg_52 (by decide) ?_
        refine lv_iconst (v := (4 : Int32)) hx hb d_10_addLeg_55 (by decide) ?_
        refine lv_aload_n hx hb d_10_addLeg_56 rfl (lv_at hl 0 rfl) ?_
        refine gf_10_7 S hG hk_r0 d_10_addLeg_57 ?_
        refine lv_sipush (v := (507 : Int32)) hx hb d_10_addLeg_60 (by decide) ?_
        refine mia S hG 30 rfl rfl (kr_10_0 hk_r0) hf.1 d_10_addLeg_63 ?_
        have hf := hf.2
        refine lv_imul hx hb d_10_addLeg_64 ?_
        refine lv_iadd hx hb d_10_addLeg_65 ?_
        refine lv_iload_n hx hb d_10_addLeg_66 rfl (lv_at hl 1 rfl) ?_
        refine mis S hG 30 rfl rfl (kr_10_0 hk_r0) hf.1 d_10_addLeg_67 (fun σ_8 eσ_8 H locs hG => ?_)
        have hf := hf.2 σ_8 eσ_8
        refine lv_aload_n hx hb d_10_addLeg_68 rfl (lv_at hl 0 rfl) ?_
        refine gf_10_7 S hG hk_r0 d_10_addLeg_69 ?_
        refine lv_sipush (v := (508 : Int32)) hx hb d_10_addLeg_72 (by decide) ?_
        refine lv_iconst (v := (4 : Int32)) hx hb d_10_addLeg_75 (by decide) ?_
        refine lv_aload_n hx hb d_10_addLeg_76 rfl (lv_at hl 0 rfl) ?_
        refine gf_10_7 S hG hk_r0 d_10_addLeg_77 ?_
        refine lv_sipush (v := (507 : Int32)) hx hb d_10_addLeg_80 (by decide) ?_
        refine mia S hG 30 rfl rfl (kr_10_0 hk_r0) hf.1 d_10_addLeg_83 ?_
        have hf := hf.2
        refine lv_imul hx hb d_10_addLeg_84 ?_
        refine lv_iadd hx hb d_10_addLeg_85 ?_
        refine lv_iconst (v := (1 : Int32)) hx hb d_10_addLeg_86 (by decide) ?_
        refine lv_iadd hx hb d_10_addLeg_87 ?_
        refine lv_iload_n hx hb d_10_addLeg_88 rfl (lv_at hl 2 rfl) ?_
        refine mis S hG 30 rfl rfl (kr_10_0 hk_r0) hf.1 d_10_addLeg_89 (fun σ_9 eσ_9 H locs hG => ?_)
        have hf := hf.2 σ_9 eσ_9
        refine lv_aload_n hx hb d_10_addLeg_90 rfl (lv_at hl 0 rfl) ?_
        refine gf_10_7 S hG hk_r0 d_10_addLeg_91 ?_
        refine lv_sipush (v := (507 : Int32)) hx hb d_10_addLeg_94 (by decide) ?_
        refine lv_dup2_11 hx hb d_10_addLeg_97 rfl rfl ?_
        refine mia S hG 30 rfl rfl (kr_10_0 hk_r0) hf.1 d_10_addLeg_98 ?_
        have hf := hf.2
        refine lv_iconst (v := (1 : Int32)) hx hb d_10_addLeg_99 (by decide) ?_
        refine lv_iadd hx hb d_10_addLeg_100 ?_
        refine mis S hG 30 rfl rfl (kr_10_0 hk_r0) hf.1 d_10_addLeg_101 (fun σ_10 eσ_10 H locs hG => ?_)
        have hf := hf.2 σ_10 eσ_10
        refine lv_aload_n hx hb d_10_addLeg_102 rfl (lv_at hl 0 rfl) ?_
        refine gf_10_7 S hG hk_r0 d_10_addLeg_103 ?_
        refine lv_sipush (v := (507 : Int32)) hx hb d_10_addLeg_106 (by decide) ?_
        refine mia S hG 30 rfl rfl (kr_10_0 hk_r0) hf.1 d_10_addLeg_109 ?_
        have hf := hf.2
        refine lv_iconst (v := (1 : Int32)) hx hb d_10_addLeg_110 (by decide) ?_
        refine lv_isub hx hb d_10_addLeg_111 ?_
        exact hR _ _ _ _ _ _ hG hf d_10_addLeg_112
      · have hf := hf.2 hc
        refine lv_bipush (v := (-3 : Int32)) hx hb d_10_addLeg_32 (by decide) ?_
        exact hR _ _ _ _ _ _ hG hf d_10_addLeg_34
    · have hf := hf.2 hc
      refine lv_iconst (v := (-1 : Int32)) hx hb d_10_addLeg_17 (by decide) ?_
      exact hR _ _ _ _ _ _ hG hf d_10_addLeg_18
theorem c_10_addLeg (l : Launch) {D : va_G} {ac : Nat → ClassId} {ad st : Nat → Nat} {A : Nat → Prop} {σ : St} {r0 : Nat} {x1 : Int32} {x2 : Int32} {Q : Int32 → St → Prop} (hk_r0 : kd r0 = 10) (hf : m_10_addLeg r0 x1 x2 Q σ) : Met l y_10_addLeg (Cond.code y_10_addLeg prog_12_method_46_code 3 (some .int) :: wA) { frames := 2, cells := 0, slots := 0, locals := 44 } (va_Pc [.ref (ad r0), .int x1, .int x2] (GSt A D ac ad st σ)) (va_Qi Q (GSt A D ac ad st) A) 0 0 A :=
  mkI l (by decide +kernel) rfl [.ref (ad r0), .int x1, .int x2] (Nat.le_of_ble_eq_true rfl) (fun p e s m args below meth c ls QW S hR hG hl => w_10_addLeg_0 S hR hk_r0 hG hl hf)
set_option maxHeartbeats 4000000 in
set_option maxRecDepth 100000 in
theorem w_10_isLeg_0 {r0 : Nat} {x1 : Int32} {Q : Int32 → St → Prop} {σ : St} {H : Heap} {locs : List Loc} {ls : Array Slot} (S : SC A D ac st p m c prog_12_method_47_code 2 s args "SweeperRoundsModel" R cells slots 1 22) (hR : RtZ A D ac ad p l e R s m args below meth c prog_12_method_47_code cells slots QW Q) (hk_r0 : kd r0 = 10) (hG : DG A D ac ad s σ H locs) (hl : lv_has ls 2 [(0, .ref (ad r0)), (1, .int x1)]) (hf : m_10_isLeg r0 x1 Q σ) : W p l e R s m args below meth c H locs cells slots QW (F0 m 0 ls []) := by
  have hx := S.1.1
  have hb := S.1.2.1
  unfold m_10_isLeg at hf
  refine lv_iload_n hx hb d_10_isLeg_0 rfl (lv_at hl 1 rfl) ?_
  refine lv_iconst (v := (0 : Int32)) hx hb d_10_isLeg_1 (by decide) ?_
  refine lv_aload_n hx hb d_10_isLeg_2 rfl (lv_at hl 0 rfl) ?_
  refine gf_10_7 S hG hk_r0 d_10_isLeg_3 ?_
  refine lv_sipush (v := (507 : Int32)) hx hb d_10_isLeg_6 (by decide) ?_
  refine mia S hG 30 rfl rfl (kr_10_0 hk_r0) hf.1 d_10_isLeg_9 ?_
  have hf := hf.2
  refine lv_iconst (v := (1 : Int32)) hx hb d_10_isLeg_10 (by decide) ?_
  refine lv_isub hx hb d_10_isLeg_11 ?_
  refine iv_10_40 S hl.1 hG  (c_10_in l  hf) ⟨Nat.le_of_ble_eq_true rfl, Nat.le_of_ble_eq_true rfl⟩ (Nat.le_of_ble_eq_true rfl) d_10_isLeg_12 (fun v_2 σ_1 hf H locs hG => ?_)
  exact hR _ _ _ _ _ _ hG hf.1 hf.2 d_10_isLeg_15
theorem c_10_isLeg (l : Launch) {D : va_G} {ac : Nat → ClassId} {ad st : Nat → Nat} {A : Nat → Prop} {σ : St} {r0 : Nat} {x1 : Int32} {Q : Int32 → St → Prop} (hk_r0 : kd r0 = 10) (hf : m_10_isLeg r0 x1 Q σ) : Met l y_10_isLeg (Cond.code y_10_isLeg prog_12_method_47_code 2 (some .boolean) :: wA) { frames := 1, cells := 0, slots := 0, locals := 22 } (va_Pc [.ref (ad r0), .int x1] (GSt A D ac ad st σ)) (va_Qi Q (GSt A D ac ad st) A) 0 0 A :=
  mkZ l (by decide +kernel) rfl [.ref (ad r0), .int x1] (Nat.le_of_ble_eq_true rfl) (fun p e s m args below meth c ls QW S hR hG hl => w_10_isLeg_0 S hR hk_r0 hG hl hf)
set_option maxHeartbeats 4000000 in
set_option maxRecDepth 100000 in
theorem w_10_dropLeg_43 {r0 : Nat} {Q : Int32 → St → Prop} {B43 : Int32 → St → Prop} {x2 : Int32} {σ : St} {H : Heap} {locs : List Loc} {ls : Array Slot} (S : SC A D ac st p m c prog_12_method_48_code 3 s args "SweeperRoundsModel" R cells slots 2 44) (hR : RtI A D ac ad p l e R s m args below meth c prog_12_method_48_code cells slots QW Q) (hk_r0 : kd r0 = 10) (hB43 : ∀ (x2 : Int32) (σ : St) (H : Heap) (locs : List Loc) (ls : Array Slot), DG A D ac ad s σ H locs → lv_has ls 3 [(0, .ref (ad r0)), (2, .int x2)] → B43 x2 σ → W p l e R s m args below meth c H locs cells slots QW (F0 m 43 ls [])) (hG : DG A D ac ad s σ H locs) (hl : lv_has ls 3 [(0, .ref (ad r0)), (2, .int x2)]) (hf : m_10_dropLeg_43 r0 Q B43 x2 σ) : W p l e R s m args below meth c H locs cells slots QW (F0 m 43 ls []) := by
  have hx := S.1.1
  have hb := S.1.2.1
  unfold m_10_dropLeg_43 at hf
  refine lv_iload_n hx hb d_10_dropLeg_43 rfl (lv_at hl 1 rfl) ?_
  refine lv_sipush (v := (508 : Int32)) hx hb d_10_dropLeg_44 (by decide) ?_
  refine lv_iconst (v := (4 : Int32)) hx hb d_10_dropLeg_47 (by decide) ?_
  refine lv_aload_n hx hb d_10_dropLeg_48 rfl (lv_at hl 0 rfl) ?_
  refine gf_10_7 S hG hk_r0 d_10_dropLeg_49 ?_
  refine lv_sipush (v := (507 : Int32)) hx hb d_10_dropLeg_52 (by decide) ?_
  refine mia S hG 30 rfl rfl (kr_10_0 hk_r0) hf.1 d_10_dropLeg_55 ?_
  have hf := hf.2
  refine lv_imul hx hb d_10_dropLeg_56 ?_
  refine lv_iadd hx hb d_10_dropLeg_57 ?_
  refine lv_icmp_ge (tgt := 81) hx hb d_10_dropLeg_58 (by decide) (fun hc => ?_) (fun hc => ?_)
  · have hf := hf.1 hc
    refine lv_aload_n hx hb d_10_dropLeg_81 rfl (lv_at hl 0 rfl) ?_
    refine gf_10_7 S hG hk_r0 d_10_dropLeg_82 ?_
    refine lv_sipush (v := (507 : Int32)) hx hb d_10_dropLeg_85 (by decide) ?_
    refine mia S hG 30 rfl rfl (kr_10_0 hk_r0) hf.1 d_10_dropLeg_88 ?_
    have hf := hf.2
    exact hR _ _ _ _ _ _ hG hf d_10_dropLeg_89
  · have hf := hf.2 hc
    refine lv_aload_n hx hb d_10_dropLeg_61 rfl (lv_at hl 0 rfl) ?_
    refine gf_10_7 S hG hk_r0 d_10_dropLeg_62 ?_
    refine lv_iload_n hx hb d_10_dropLeg_65 rfl (lv_at hl 1 rfl) ?_
    refine lv_aload_n hx hb d_10_dropLeg_66 rfl (lv_at hl 0 rfl) ?_
    refine gf_10_7 S hG hk_r0 d_10_dropLeg_67 ?_
    refine lv_iload_n hx hb d_10_dropLeg_70 rfl (lv_at hl 1 rfl) ?_
    refine lv_iconst (v := (4 : Int32)) hx hb d_10_dropLeg_71 (by decide) ?_
    refine lv_iadd hx hb d_10_dropLeg_72 ?_
    refine mia S hG 30 rfl rfl (kr_10_0 hk_r0) hf.1 d_10_dropLeg_73 ?_
    have hf := hf.2
    refine mis S hG 30 rfl rfl (kr_10_0 hk_r0) hf.1 d_10_dropLeg_74 (fun σ_1 eσ_1 H locs hG => ?_)
    have hf := hf.2 σ_1 eσ_1
    obtain ⟨x2_2, ex2_2⟩ : ∃ y : Int32, y = x2 + 1 := ⟨_, rfl⟩
    have hf := hf x2_2 ex2_2
    refine lv_iinc (v := x2_2) (lv' := [(2, .int x2_2), (0, .ref (ad r0))]) hx hb d_10_dropLeg_75 hl (k := 1) rfl (by rw [ex2_2]; rfl) (by decide) rfl (fun ls hl => ?_)
    refine lv_goto (tgt := 43) hx hb d_10_dropLeg_78 (by decide) ?_
    exact hB43 _ _ _ _ _  hG (lv_sub hl [1, 0] rfl) hf
set_option maxHeartbeats 4000000 in
set_option maxRecDepth 100000 in
theorem lp_10_dropLeg_43 {r0 : Nat} {Q : Int32 → St → Prop} (S : SC A D ac st p m c prog_12_method_48_code 3 s args "SweeperRoundsModel" R cells slots 2 44) (hR : RtI A D ac ad p l e R s m args below meth c prog_12_method_48_code cells slots QW Q) (hk_r0 : kd r0 = 10) : ∀ (n : Nat) (x2 : Int32) (σ : St) (H : Heap) (locs : List Loc) (ls : Array Slot), DG A D ac ad s σ H locs → lv_has ls 3 [(0, .ref (ad r0)), (2, .int x2)] → itN (m_10_dropLeg_43 r0 Q) (fun _ _ => False) n x2 σ → W p l e R s m args below meth c H locs cells slots QW (F0 m 43 ls []) := by
  intro n
  induction n with
  | zero =>
    intro x2 σ H locs ls  hG hl hf
    exact hf.elim
  | succ n ih =>
    intro x2 σ H locs ls  hG hl hf
    exact w_10_dropLeg_43 S hR hk_r0  ih hG hl hf
set_option maxHeartbeats 4000000 in
set_option maxRecDepth 100000 in
theorem w_10_dropLeg_0 {r0 : Nat} {x1 : Int32} {Q : Int32 → St → Prop} {σ : St} {H : Heap} {locs : List Loc} {ls : Array Slot} (S : SC A D ac st p m c prog_12_method_48_code 3 s args "SweeperRoundsModel" R cells slots 2 44) (hR : RtI A D ac ad p l e R s m args below meth c prog_12_method_48_code cells slots QW Q) (hk_r0 : kd r0 = 10) (hG : DG A D ac ad s σ H locs) (hl : lv_has ls 3 [(0, .ref (ad r0)), (1, .int x1)]) (hf : m_10_dropLeg r0 x1 Q σ) : W p l e R s m args below meth c H locs cells slots QW (F0 m 0 ls []) := by
  have hx := S.1.1
  have hb := S.1.2.1
  unfold m_10_dropLeg at hf
  refine lv_aload_n hx hb d_10_dropLeg_0 rfl (lv_at hl 0 rfl) ?_
  refine lv_iload_n hx hb d_10_dropLeg_1 rfl (lv_at hl 1 rfl) ?_
  refine iv_10_145 S hl.1 hG hk_r0 (c_10_isLeg l hk_r0 hf) ⟨Nat.le_of_ble_eq_true rfl, Nat.le_of_ble_eq_true rfl⟩ (Nat.le_of_ble_eq_true rfl) d_10_dropLeg_2 (fun v_2 σ_1 hf H locs hG => ?_)
  refine lv_if_ne (tgt := 10) hx hb d_10_dropLeg_5 (by decide) (fun hc => ?_) (fun hc => ?_)
  · have hf := hf.1 hc
    refine lv_aload_n hx hb d_10_dropLeg_10 rfl (lv_at hl 0 rfl) ?_
    refine iv_10_56 S hl.1 hG hk_r0 (c_10_records l hk_r0 hf) ⟨Nat.le_of_ble_eq_true rfl, Nat.le_of_ble_eq_true rfl⟩ (Nat.le_of_ble_eq_true rfl) d_10_dropLeg_11 (fun σ_3 hf H locs hG => ?_)
    refine lv_aload_n hx hb d_10_dropLeg_14 rfl (lv_at hl 0 rfl) ?_
    refine gf_10_7 S hG hk_r0 d_10_dropLeg_15 ?_
    refine lv_sipush (v := (548 : Int32)) hx hb d_10_dropLeg_18 (by decide) ?_
    refine lv_iconst (v := (0 : Int32)) hx hb d_10_dropLeg_21 (by decide) ?_
    refine mis S hG 30 rfl rfl (kr_10_0 hk_r0) hf.1 d_10_dropLeg_22 (fun σ_5 eσ_5 H locs hG => ?_)
    have hf := hf.2 σ_5 eσ_5
    refine lv_aload_n hx hb d_10_dropLeg_23 rfl (lv_at hl 0 rfl) ?_
    refine gf_10_7 S hG hk_r0 d_10_dropLeg_24 ?_
    refine lv_sipush (v := (507 : Int32)) hx hb d_10_dropLeg_27 (by decide) ?_
    refine lv_dup2_11 hx hb d_10_dropLeg_30 rfl rfl ?_
    refine mia S hG 30 rfl rfl (kr_10_0 hk_r0) hf.1 d_10_dropLeg_31 ?_
    have hf := hf.2
    refine lv_iconst (v := (1 : Int32)) hx hb d_10_dropLeg_32 (by decide) ?_
    refine lv_isub hx hb d_10_dropLeg_33 ?_
    refine mis S hG 30 rfl rfl (kr_10_0 hk_r0) hf.1 d_10_dropLeg_34 (fun σ_6 eσ_6 H locs hG => ?_)
    have hf := hf.2 σ_6 eσ_6
    refine lv_sipush (v := (508 : Int32)) hx hb d_10_dropLeg_35 (by decide) ?_
    refine lv_iconst (v := (4 : Int32)) hx hb d_10_dropLeg_38 (by decide) ?_
    refine lv_iload_n hx hb d_10_dropLeg_39 rfl (lv_at hl 1 rfl) ?_
    refine lv_imul hx hb d_10_dropLeg_40 ?_
    refine lv_iadd hx hb d_10_dropLeg_41 ?_
    refine lv_topi (fun x2_7 ex2_7 => ?_)
    have hf := hf x2_7 ex2_7
    refine lv_istore_n (lv' := [(2, .int x2_7), (0, .ref (ad r0)), (1, .int x1)]) hx hb d_10_dropLeg_42 rfl hl (by decide) rfl (fun ls hl => ?_)
    exact lp_10_dropLeg_43 S hR hk_r0  FU _ _ _ _ _  hG (lv_sub hl [1, 0] rfl) hf
  · have hf := hf.2 hc
    refine lv_iconst (v := (-1 : Int32)) hx hb d_10_dropLeg_8 (by decide) ?_
    exact hR _ _ _ _ _ _ hG hf d_10_dropLeg_9
theorem c_10_dropLeg (l : Launch) {D : va_G} {ac : Nat → ClassId} {ad st : Nat → Nat} {A : Nat → Prop} {σ : St} {r0 : Nat} {x1 : Int32} {Q : Int32 → St → Prop} (hk_r0 : kd r0 = 10) (hf : m_10_dropLeg r0 x1 Q σ) : Met l y_10_dropLeg (Cond.code y_10_dropLeg prog_12_method_48_code 3 (some .int) :: wA) { frames := 2, cells := 0, slots := 0, locals := 44 } (va_Pc [.ref (ad r0), .int x1] (GSt A D ac ad st σ)) (va_Qi Q (GSt A D ac ad st) A) 0 0 A :=
  mkI l (by decide +kernel) rfl [.ref (ad r0), .int x1] (Nat.le_of_ble_eq_true rfl) (fun p e s m args below meth c ls QW S hR hG hl => w_10_dropLeg_0 S hR hk_r0 hG hl hf)
set_option maxHeartbeats 4000000 in
set_option maxRecDepth 100000 in
theorem w_10_leg_40 {r0 : Nat} {x1 : Int32} {x2 : Int32} {Q : Int32 → St → Prop} {σ : St} {H : Heap} {locs : List Loc} {ls : Array Slot} (S : SC A D ac st p m c prog_12_method_49_code 3 s args "SweeperRoundsModel" R cells slots 2 43) (hR : RtI A D ac ad p l e R s m args below meth c prog_12_method_49_code cells slots QW Q) (hk_r0 : kd r0 = 10) (hG : DG A D ac ad s σ H locs) (hl : lv_has ls 3 [(0, .ref (ad r0)), (1, .int x1), (2, .int x2)]) (hf : m_10_leg_40 r0 x1 x2 Q σ) : W p l e R s m args below meth c H locs cells slots QW (F0 m 40 ls []) := by
  have hx := S.1.1
  have hb := S.1.2.1
  unfold m_10_leg_40 at hf
  refine lv_aload_n hx hb d_10_leg_40 rfl (lv_at hl 0 rfl) ?_
  refine lv_iload_n hx hb d_10_leg_41 rfl (lv_at hl 1 rfl) ?_
  refine lv_iload_n hx hb d_10_leg_42 rfl (lv_at hl 2 rfl) ?_
  refine iv_10_69 S hl.1 hG hk_r0 (c_10_legOf l hk_r0 hf) ⟨Nat.le_of_ble_eq_true rfl, Nat.le_of_ble_eq_true rfl⟩ (Nat.le_of_ble_eq_true rfl) d_10_leg_43 (fun v_2 σ_1 hf H locs hG => ?_)
  exact hR _ _ _ _ _ _ hG hf d_10_leg_46
set_option maxHeartbeats 4000000 in
set_option maxRecDepth 100000 in
theorem w_10_leg_0 {r0 : Nat} {x1 : Int32} {x2 : Int32} {Q : Int32 → St → Prop} {σ : St} {H : Heap} {locs : List Loc} {ls : Array Slot} (S : SC A D ac st p m c prog_12_method_49_code 3 s args "SweeperRoundsModel" R cells slots 2 43) (hR : RtI A D ac ad p l e R s m args below meth c prog_12_method_49_code cells slots QW Q) (hk_r0 : kd r0 = 10) (hG : DG A D ac ad s σ H locs) (hl : lv_has ls 3 [(0, .ref (ad r0)), (1, .int x1), (2, .int x2)]) (hf : m_10_leg r0 x1 x2 Q σ) : W p l e R s m args below meth c H locs cells slots QW (F0 m 0 ls []) := by
  have hx := S.1.1
  have hb := S.1.2.1
  unfold m_10_leg at hf
  refine lv_aload_n hx hb d_10_leg_0 rfl (lv_at hl 0 rfl) ?_
  refine lv_iload_n hx hb d_10_leg_1 rfl (lv_at hl 1 rfl) ?_
  refine iv_10_145 S hl.1 hG hk_r0 (c_10_isLeg l hk_r0 hf) ⟨Nat.le_of_ble_eq_true rfl, Nat.le_of_ble_eq_true rfl⟩ (Nat.le_of_ble_eq_true rfl) d_10_leg_2 (fun v_2 σ_1 hf H locs hG => ?_)
  refine lv_if_eq (tgt := 17) hx hb d_10_leg_5 (by decide) (fun hc => ?_) (fun hc => ?_)
  · have hf := hf.1 hc
    refine lv_iconst (v := (-1 : Int32)) hx hb d_10_leg_17 (by decide) ?_
    exact hR _ _ _ _ _ _ hG hf d_10_leg_18
  · have hf := hf.2 hc
    refine lv_iload_n hx hb d_10_leg_8 rfl (lv_at hl 2 rfl) ?_
    refine lv_iconst (v := (0 : Int32)) hx hb d_10_leg_9 (by decide) ?_
    refine lv_iconst (v := (3 : Int32)) hx hb d_10_leg_10 (by decide) ?_
    refine iv_10_40 S hl.1 hG  (c_10_in l  hf) ⟨Nat.le_of_ble_eq_true rfl, Nat.le_of_ble_eq_true rfl⟩ (Nat.le_of_ble_eq_true rfl) d_10_leg_11 (fun v_4 σ_3 hf H locs hG => ?_)
    refine lv_if_ne (tgt := 19) hx hb d_10_leg_14 (by decide) (fun hc => ?_) (fun hc => ?_)
    · have hf := hf.1 hc
      refine lv_iload_n hx hb d_10_leg_19 rfl (lv_at hl 2 rfl) ?_
      refine lv_iconst (v := (1 : Int32)) hx hb d_10_leg_20 (by decide) ?_
      refine lv_icmp_le (tgt := 40) hx hb d_10_leg_21 (by decide) (fun hc => ?_) (fun hc => ?_)
      · have hf := hf.1 hc
        exact w_10_leg_40 S hR hk_r0    hG (lv_sub hl [0, 1, 2] rfl) hf
      · have hf := hf.2 hc
        refine lv_aload_n hx hb d_10_leg_24 rfl (lv_at hl 0 rfl) ?_
        refine gf_10_7 S hG hk_r0 d_10_leg_25 ?_
        refine lv_sipush (v := (548 : Int32)) hx hb d_10_leg_28 (by decide) ?_
        refine mia S hG 30 rfl rfl (kr_10_0 hk_r0) hf.1 d_10_leg_31 ?_
        have hf := hf.2
        refine lv_if_ne (tgt := 40) hx hb d_10_leg_32 (by decide) (fun hc => ?_) (fun hc => ?_)
        · have hf := hf.1 hc
          exact w_10_leg_40 S hR hk_r0    hG (lv_sub hl [0, 1, 2] rfl) hf
        · have hf := hf.2 hc
          refine lv_bipush (v := (-2 : Int32)) hx hb d_10_leg_35 (by decide) ?_
          refine lv_goto (tgt := 46) hx hb d_10_leg_37 (by decide) ?_
          exact hR _ _ _ _ _ _ hG hf d_10_leg_46
    · have hf := hf.2 hc
      refine lv_iconst (v := (-1 : Int32)) hx hb d_10_leg_17 (by decide) ?_
      exact hR _ _ _ _ _ _ hG hf d_10_leg_18
theorem c_10_leg (l : Launch) {D : va_G} {ac : Nat → ClassId} {ad st : Nat → Nat} {A : Nat → Prop} {σ : St} {r0 : Nat} {x1 : Int32} {x2 : Int32} {Q : Int32 → St → Prop} (hk_r0 : kd r0 = 10) (hf : m_10_leg r0 x1 x2 Q σ) : Met l y_10_leg (Cond.code y_10_leg prog_12_method_49_code 3 (some .int) :: wA) { frames := 2, cells := 0, slots := 0, locals := 43 } (va_Pc [.ref (ad r0), .int x1, .int x2] (GSt A D ac ad st σ)) (va_Qi Q (GSt A D ac ad st) A) 0 0 A :=
  mkI l (by decide +kernel) rfl [.ref (ad r0), .int x1, .int x2] (Nat.le_of_ble_eq_true rfl) (fun p e s m args below meth c ls QW S hR hG hl => w_10_leg_0 S hR hk_r0 hG hl hf)
set_option maxHeartbeats 4000000 in
set_option maxRecDepth 100000 in
theorem w_10_latestOf_0 {r0 : Nat} {x1 : Int32} {Q : Int32 → St → Prop} {σ : St} {H : Heap} {locs : List Loc} {ls : Array Slot} (S : SC A D ac st p m c prog_12_method_50_code 2 s args "SweeperRoundsModel" R cells slots 0 0) (hR : RtI A D ac ad p l e R s m args below meth c prog_12_method_50_code cells slots QW Q) (hk_r0 : kd r0 = 10) (hG : DG A D ac ad s σ H locs) (hl : lv_has ls 2 [(0, .ref (ad r0)), (1, .int x1)]) (hf : m_10_latestOf r0 x1 Q σ) : W p l e R s m args below meth c H locs cells slots QW (F0 m 0 ls []) := by
  have hx := S.1.1
  have hb := S.1.2.1
  unfold m_10_latestOf at hf
  refine lv_aload_n hx hb d_10_latestOf_0 rfl (lv_at hl 0 rfl) ?_
  refine gf_10_7 S hG hk_r0 d_10_latestOf_1 ?_
  refine lv_sipush (v := (549 : Int32)) hx hb d_10_latestOf_4 (by decide) ?_
  refine lv_iload_n hx hb d_10_latestOf_7 rfl (lv_at hl 1 rfl) ?_
  refine lv_iadd hx hb d_10_latestOf_8 ?_
  refine mia S hG 30 rfl rfl (kr_10_0 hk_r0) hf.1 d_10_latestOf_9 ?_
  have hf := hf.2
  exact hR _ _ _ _ _ _ hG hf d_10_latestOf_10
theorem c_10_latestOf (l : Launch) {D : va_G} {ac : Nat → ClassId} {ad st : Nat → Nat} {A : Nat → Prop} {σ : St} {r0 : Nat} {x1 : Int32} {Q : Int32 → St → Prop} (hk_r0 : kd r0 = 10) (hf : m_10_latestOf r0 x1 Q σ) : Met l y_10_latestOf (Cond.code y_10_latestOf prog_12_method_50_code 2 (some .int) :: wA) { frames := 0, cells := 0, slots := 0, locals := 0 } (va_Pc [.ref (ad r0), .int x1] (GSt A D ac ad st σ)) (va_Qi Q (GSt A D ac ad st) A) 0 0 A :=
  mkI l (by decide +kernel) rfl [.ref (ad r0), .int x1] (Nat.le_of_ble_eq_true rfl) (fun p e s m args below meth c ls QW S hR hG hl => w_10_latestOf_0 S hR hk_r0 hG hl hf)
set_option maxHeartbeats 4000000 in
set_option maxRecDepth 100000 in
theorem w_10_adds_0 {r0 : Nat} {x1 : Int32} {x2 : Int32} {Q : St → Prop} {σ : St} {H : Heap} {locs : List Loc} {ls : Array Slot} (S : SC A D ac st p m c prog_12_method_51_code 3 s args "SweeperRoundsModel" R cells slots 0 0) (hR : RtV A D ac ad p l e R s m args below meth c prog_12_method_51_code cells slots QW Q) (hk_r0 : kd r0 = 10) (hG : DG A D ac ad s σ H locs) (hl : lv_has ls 3 [(0, .ref (ad r0)), (1, .int x1), (2, .int x2)]) (hf : m_10_adds r0 x1 x2 Q σ) : W p l e R s m args below meth c H locs cells slots QW (F0 m 0 ls []) := by
  have hx := S.1.1
  have hb := S.1.2.1
  unfold m_10_adds at hf
  refine lv_aload_n hx hb d_10_adds_0 rfl (lv_at hl 0 rfl) ?_
  refine gf_10_7 S hG hk_r0 d_10_adds_1 ?_
  refine lv_sipush (v := (549 : Int32)) hx hb d_10_adds_4 (by decide) ?_
  refine lv_iload_n hx hb d_10_adds_7 rfl (lv_at hl 1 rfl) ?_
  refine lv_iadd hx hb d_10_adds_8 ?_
  refine lv_dup2_11 hx hb d_10_adds_9 rfl rfl ?_
  refine mia S hG 30 rfl rfl (kr_10_0 hk_r0) hf.1 d_10_adds_10 ?_
  have hf := hf.2
  refine lv_iload_n hx hb d_10_adds_11 rfl (lv_at hl 2 rfl) ?_
  refine lv_iadd hx hb d_10_adds_12 ?_
  refine mis S hG 30 rfl rfl (kr_10_0 hk_r0) hf.1 d_10_adds_13 (fun σ_1 eσ_1 H locs hG => ?_)
  have hf := hf.2 σ_1 eσ_1
  exact hR _ _ _ _ _ hG hf d_10_adds_14
theorem c_10_adds (l : Launch) {D : va_G} {ac : Nat → ClassId} {ad st : Nat → Nat} {A : Nat → Prop} {σ : St} {r0 : Nat} {x1 : Int32} {x2 : Int32} {Q : St → Prop} (hk_r0 : kd r0 = 10) (hf : m_10_adds r0 x1 x2 Q σ) : Met l y_10_adds (Cond.code y_10_adds prog_12_method_51_code 3 none :: wA) { frames := 0, cells := 0, slots := 0, locals := 0 } (va_Pc [.ref (ad r0), .int x1, .int x2] (GSt A D ac ad st σ)) (va_Qv Q (GSt A D ac ad st) A) 0 0 A :=
  mkV l (by decide +kernel) rfl [.ref (ad r0), .int x1, .int x2] (Nat.le_of_ble_eq_true rfl) (fun p e s m args below meth c ls QW S hR hG hl => w_10_adds_0 S hR hk_r0 hG hl hf)
set_option maxHeartbeats 4000000 in
set_option maxRecDepth 100000 in
theorem w_10_home_0 {r0 : Nat} {x1 : Int32} {Q : Int32 → St → Prop} {σ : St} {H : Heap} {locs : List Loc} {ls : Array Slot} (S : SC A D ac st p m c prog_12_method_52_code 2 s args "SweeperRoundsModel" R cells slots 1 22) (hR : RtI A D ac ad p l e R s m args below meth c prog_12_method_52_code cells slots QW Q) (hk_r0 : kd r0 = 10) (hG : DG A D ac ad s σ H locs) (hl : lv_has ls 2 [(0, .ref (ad r0)), (1, .int x1)]) (hf : m_10_home r0 x1 Q σ) : W p l e R s m args below meth c H locs cells slots QW (F0 m 0 ls []) := by
  have hx := S.1.1
  have hb := S.1.2.1
  unfold m_10_home at hf
  refine lv_iload_n hx hb d_10_home_0 rfl (lv_at hl 1 rfl) ?_
  refine lv_iconst (v := (-1 : Int32)) hx hb d_10_home_1 (by decide) ?_
  refine lv_icmp_ne (tgt := 9) hx hb d_10_home_2 (by decide) (fun hc => ?_) (fun hc => ?_)
  · have hf := hf.1 hc
    refine lv_bipush (v := (10 : Int32)) hx hb d_10_home_9 (by decide) ?_
    refine lv_aload_n hx hb d_10_home_11 rfl (lv_at hl 0 rfl) ?_
    refine lv_iload_n hx hb d_10_home_12 rfl (lv_at hl 1 rfl) ?_
    refine lv_iconst (v := (1 : Int32)) hx hb d_10_home_13 (by decide) ?_
    refine iv_10_37 S hl.1 hG hk_r0 (c_10_of l hk_r0 hf) ⟨Nat.le_of_ble_eq_true rfl, Nat.le_of_ble_eq_true rfl⟩ (Nat.le_of_ble_eq_true rfl) d_10_home_14 (fun v_2 σ_1 hf H locs hG => ?_)
    refine lv_imul hx hb d_10_home_17 ?_
    exact hR _ _ _ _ _ _ hG hf d_10_home_18
  · have hf := hf.2 hc
    refine lv_iconst (v := (0 : Int32)) hx hb d_10_home_5 (by decide) ?_
    refine lv_goto (tgt := 18) hx hb d_10_home_6 (by decide) ?_
    exact hR _ _ _ _ _ _ hG hf d_10_home_18
theorem c_10_home (l : Launch) {D : va_G} {ac : Nat → ClassId} {ad st : Nat → Nat} {A : Nat → Prop} {σ : St} {r0 : Nat} {x1 : Int32} {Q : Int32 → St → Prop} (hk_r0 : kd r0 = 10) (hf : m_10_home r0 x1 Q σ) : Met l y_10_home (Cond.code y_10_home prog_12_method_52_code 2 (some .int) :: wA) { frames := 1, cells := 0, slots := 0, locals := 22 } (va_Pc [.ref (ad r0), .int x1] (GSt A D ac ad st σ)) (va_Qi Q (GSt A D ac ad st) A) 0 0 A :=
  mkI l (by decide +kernel) rfl [.ref (ad r0), .int x1] (Nat.le_of_ble_eq_true rfl) (fun p e s m args below meth c ls QW S hR hG hl => w_10_home_0 S hR hk_r0 hG hl hf)
set_option maxHeartbeats 4000000 in
set_option maxRecDepth 100000 in
theorem w_10_fits_0 {r0 : Nat} {x1 : Int32} {x2 : Int32} {x3 : Int32} {Q : Int32 → St → Prop} {σ : St} {H : Heap} {locs : List Loc} {ls : Array Slot} (S : SC A D ac st p m c prog_12_method_53_code 4 s args "SweeperRoundsModel" R cells slots 2 43) (hR : RtZ A D ac ad p l e R s m args below meth c prog_12_method_53_code cells slots QW Q) (hk_r0 : kd r0 = 10) (hG : DG A D ac ad s σ H locs) (hl : lv_has ls 4 [(0, .ref (ad r0)), (1, .int x1), (2, .int x2), (3, .int x3)]) (hf : m_10_fits r0 x1 x2 x3 Q σ) : W p l e R s m args below meth c H locs cells slots QW (F0 m 0 ls []) := by
  have hx := S.1.1
  have hb := S.1.2.1
  unfold m_10_fits at hf
  refine lv_aload_n hx hb d_10_fits_0 rfl (lv_at hl 0 rfl) ?_
  refine lv_iconst (v := (1 : Int32)) hx hb d_10_fits_1 (by decide) ?_
  refine iv_10_148 S hl.1 hG hk_r0 (c_10_latestOf l hk_r0 hf) ⟨Nat.le_of_ble_eq_true rfl, Nat.le_of_ble_eq_true rfl⟩ (Nat.le_of_ble_eq_true rfl) d_10_fits_2 (fun v_2 σ_1 hf H locs hG => ?_)
  refine lv_iload_n hx hb d_10_fits_5 rfl (lv_at hl 1 rfl) ?_
  refine lv_iadd hx hb d_10_fits_6 ?_
  refine lv_aload_n hx hb d_10_fits_7 rfl (lv_at hl 0 rfl) ?_
  refine lv_iload_n hx hb d_10_fits_8 rfl (lv_at hl 2 rfl) ?_
  refine iv_10_151 S hl.1 hG hk_r0 (c_10_home l hk_r0 hf) ⟨Nat.le_of_ble_eq_true rfl, Nat.le_of_ble_eq_true rfl⟩ (Nat.le_of_ble_eq_true rfl) d_10_fits_9 (fun v_4 σ_3 hf H locs hG => ?_)
  refine lv_iadd hx hb d_10_fits_12 ?_
  refine lv_aload_n hx hb d_10_fits_13 rfl (lv_at hl 0 rfl) ?_
  refine gf_10_7 S hG hk_r0 d_10_fits_14 ?_
  refine lv_sipush (v := (502 : Int32)) hx hb d_10_fits_17 (by decide) ?_
  refine mia S hG 30 rfl rfl (kr_10_0 hk_r0) hf.1 d_10_fits_20 ?_
  have hf := hf.2
  refine lv_icmp_le (tgt := 40) hx hb d_10_fits_21 (by decide) (fun hc => ?_) (fun hc => ?_)
  · have hf := hf.1 hc
    refine lv_aload_n hx hb d_10_fits_40 rfl (lv_at hl 0 rfl) ?_
    refine lv_iconst (v := (1 : Int32)) hx hb d_10_fits_41 (by decide) ?_
    refine lv_iload_n hx hb d_10_fits_42 rfl (lv_at hl 1 rfl) ?_
    refine iv_10_158 S hl.1 hG hk_r0 (c_10_adds l hk_r0 hf) ⟨Nat.le_of_ble_eq_true rfl, Nat.le_of_ble_eq_true rfl⟩ (Nat.le_of_ble_eq_true rfl) d_10_fits_43 (fun σ_5 hf H locs hG => ?_)
    refine lv_iconst (v := (1 : Int32)) hx hb d_10_fits_46 (by decide) ?_
    exact hR _ _ _ _ _ _ hG (by unfold isB; decide) hf d_10_fits_47
  · have hf := hf.2 hc
    refine lv_aload_n hx hb d_10_fits_24 rfl (lv_at hl 0 rfl) ?_
    refine gf_10_7 S hG hk_r0 d_10_fits_25 ?_
    refine lv_sipush (v := (549 : Int32)) hx hb d_10_fits_28 (by decide) ?_
    refine lv_iload_n hx hb d_10_fits_31 rfl (lv_at hl 3 rfl) ?_
    refine mis S hG 30 rfl rfl (kr_10_0 hk_r0) hf.1 d_10_fits_32 (fun σ_7 eσ_7 H locs hG => ?_)
    have hf := hf.2 σ_7 eσ_7
    refine lv_aload_n hx hb d_10_fits_33 rfl (lv_at hl 0 rfl) ?_
    refine lv_iconst (v := (0 : Int32)) hx hb d_10_fits_34 (by decide) ?_
    refine pf_10_154 S hG hk_r0 (by unfold isB; decide) d_10_fits_35 (fun σ_8 eσ_8 H locs hG => ?_)
    have hf := hf σ_8 eσ_8
    refine lv_iconst (v := (0 : Int32)) hx hb d_10_fits_38 (by decide) ?_
    exact hR _ _ _ _ _ _ hG (by unfold isB; decide) hf d_10_fits_39
theorem c_10_fits (l : Launch) {D : va_G} {ac : Nat → ClassId} {ad st : Nat → Nat} {A : Nat → Prop} {σ : St} {r0 : Nat} {x1 : Int32} {x2 : Int32} {x3 : Int32} {Q : Int32 → St → Prop} (hk_r0 : kd r0 = 10) (hf : m_10_fits r0 x1 x2 x3 Q σ) : Met l y_10_fits (Cond.code y_10_fits prog_12_method_53_code 4 (some .boolean) :: wA) { frames := 2, cells := 0, slots := 0, locals := 43 } (va_Pc [.ref (ad r0), .int x1, .int x2, .int x3] (GSt A D ac ad st σ)) (va_Qi Q (GSt A D ac ad st) A) 0 0 A :=
  mkZ l (by decide +kernel) rfl [.ref (ad r0), .int x1, .int x2, .int x3] (Nat.le_of_ble_eq_true rfl) (fun p e s m args below meth c ls QW S hR hG hl => w_10_fits_0 S hR hk_r0 hG hl hf)
set_option maxHeartbeats 4000000 in
set_option maxRecDepth 100000 in
theorem w_10_dumps_0 {r0 : Nat} {Q : St → Prop} {σ : St} {H : Heap} {locs : List Loc} {ls : Array Slot} (S : SC A D ac st p m c prog_12_method_54_code 1 s args "SweeperRoundsModel" R cells slots 1 22) (hR : RtV A D ac ad p l e R s m args below meth c prog_12_method_54_code cells slots QW Q) (hk_r0 : kd r0 = 10) (hG : DG A D ac ad s σ H locs) (hl : lv_has ls 1 [(0, .ref (ad r0))]) (hf : m_10_dumps r0 Q σ) : W p l e R s m args below meth c H locs cells slots QW (F0 m 0 ls []) := by
  have hx := S.1.1
  have hb := S.1.2.1
  unfold m_10_dumps at hf
  refine lv_aload_n hx hb d_10_dumps_0 rfl (lv_at hl 0 rfl) ?_
  refine lv_iconst (v := (5 : Int32)) hx hb d_10_dumps_1 (by decide) ?_
  refine lv_aload_n hx hb d_10_dumps_2 rfl (lv_at hl 0 rfl) ?_
  refine gf_10_7 S hG hk_r0 d_10_dumps_3 ?_
  refine lv_sipush (v := (506 : Int32)) hx hb d_10_dumps_6 (by decide) ?_
  refine mia S hG 30 rfl rfl (kr_10_0 hk_r0) hf.1 d_10_dumps_9 ?_
  have hf := hf.2
  refine iv_10_66 S hl.1 hG hk_r0 (c_10_books l hk_r0 hf) ⟨Nat.le_of_ble_eq_true rfl, Nat.le_of_ble_eq_true rfl⟩ (Nat.le_of_ble_eq_true rfl) d_10_dumps_10 (fun σ_1 hf H locs hG => ?_)
  refine lv_aload_n hx hb d_10_dumps_13 rfl (lv_at hl 0 rfl) ?_
  refine gf_10_7 S hG hk_r0 d_10_dumps_14 ?_
  refine lv_sipush (v := (506 : Int32)) hx hb d_10_dumps_17 (by decide) ?_
  refine lv_iconst (v := (0 : Int32)) hx hb d_10_dumps_20 (by decide) ?_
  refine mis S hG 30 rfl rfl (kr_10_0 hk_r0) hf.1 d_10_dumps_21 (fun σ_3 eσ_3 H locs hG => ?_)
  have hf := hf.2 σ_3 eσ_3
  exact hR _ _ _ _ _ hG hf d_10_dumps_22
theorem c_10_dumps (l : Launch) {D : va_G} {ac : Nat → ClassId} {ad st : Nat → Nat} {A : Nat → Prop} {σ : St} {r0 : Nat} {Q : St → Prop} (hk_r0 : kd r0 = 10) (hf : m_10_dumps r0 Q σ) : Met l y_10_dumps (Cond.code y_10_dumps prog_12_method_54_code 1 none :: wA) { frames := 1, cells := 0, slots := 0, locals := 22 } (va_Pc [.ref (ad r0)] (GSt A D ac ad st σ)) (va_Qv Q (GSt A D ac ad st) A) 0 0 A :=
  mkV l (by decide +kernel) rfl [.ref (ad r0)] (Nat.le_of_ble_eq_true rfl) (fun p e s m args below meth c ls QW S hR hG hl => w_10_dumps_0 S hR hk_r0 hG hl hf)
set_option maxHeartbeats 4000000 in
set_option maxRecDepth 100000 in
theorem w_10_drive_38 {r0 : Nat} {x1 : Int32} {Q : Int32 → St → Prop} {t0 : Int32} {σ : St} {H : Heap} {locs : List Loc} {ls : Array Slot} (S : SC A D ac st p m c prog_12_method_55_code 3 s args "SweeperRoundsModel" R cells slots 2 43) (hR : RtI A D ac ad p l e R s m args below meth c prog_12_method_55_code cells slots QW Q) (hk_r0 : kd r0 = 10) (hG : DG A D ac ad s σ H locs) (hl : lv_has ls 3 [(0, .ref (ad r0)), (1, .int x1)]) (hf : m_10_drive_38 r0 x1 Q t0 σ) : W p l e R s m args below meth c H locs cells slots QW (F0 m 38 ls [.int t0]) := by
  have hx := S.1.1
  have hb := S.1.2.1
  unfold m_10_drive_38 at hf
  refine lv_istore_n (lv' := [(2, .int t0), (0, .ref (ad r0)), (1, .int x1)]) hx hb d_10_drive_38 rfl hl (by decide) rfl (fun ls hl => ?_)
  refine lv_aload_n hx hb d_10_drive_39 rfl (lv_at hl 1 rfl) ?_
  refine gf_10_161 S hG hk_r0 d_10_drive_40 ?_
  refine lv_iconst (v := (-1 : Int32)) hx hb d_10_drive_43 (by decide) ?_
  refine lv_icmp_ne (tgt := 55) hx hb d_10_drive_44 (by decide) (fun hc => ?_) (fun hc => ?_)
  · have hf := hf.1 hc
    refine lv_bipush (v := (10 : Int32)) hx hb d_10_drive_55 (by decide) ?_
    refine lv_iload_n hx hb d_10_drive_57 rfl (lv_at hl 0 rfl) ?_
    refine lv_if_ge (tgt := 66) hx hb d_10_drive_58 (by decide) (fun hc => ?_) (fun hc => ?_)
    · have hf := hf.1 hc
      refine lv_iload_n hx hb d_10_drive_66 rfl (lv_at hl 0 rfl) ?_
      refine lv_imul hx hb d_10_drive_67 ?_
      refine lv_bipush (v := (50 : Int32)) hx hb d_10_drive_68 (by decide) ?_
      refine lv_iadd hx hb d_10_drive_70 ?_
      exact hR _ _ _ _ _ _ hG hf d_10_drive_71
    · have hf := hf.2 hc
      refine lv_iload_n hx hb d_10_drive_61 rfl (lv_at hl 0 rfl) ?_
      refine lv_ineg hx hb d_10_drive_62 ?_
      refine lv_goto (tgt := 67) hx hb d_10_drive_63 (by decide) ?_
      refine lv_imul hx hb d_10_drive_67 ?_
      refine lv_bipush (v := (50 : Int32)) hx hb d_10_drive_68 (by decide) ?_
      refine lv_iadd hx hb d_10_drive_70 ?_
      exact hR _ _ _ _ _ _ hG hf d_10_drive_71
  · have hf := hf.2 hc
    refine lv_aload_n hx hb d_10_drive_47 rfl (lv_at hl 1 rfl) ?_
    refine lv_iload_n hx hb d_10_drive_48 rfl (lv_at hl 2 rfl) ?_
    refine iv_10_151 S hl.1 hG hk_r0 (c_10_home l hk_r0 hf) ⟨Nat.le_of_ble_eq_true rfl, Nat.le_of_ble_eq_true rfl⟩ (Nat.le_of_ble_eq_true rfl) d_10_drive_49 (fun v_2 σ_1 hf H locs hG => ?_)
    refine lv_goto (tgt := 71) hx hb d_10_drive_52 (by decide) ?_
    exact hR _ _ _ _ _ _ hG hf d_10_drive_71
set_option maxHeartbeats 4000000 in
set_option maxRecDepth 100000 in
theorem w_10_drive_0 {r0 : Nat} {x1 : Int32} {Q : Int32 → St → Prop} {σ : St} {H : Heap} {locs : List Loc} {ls : Array Slot} (S : SC A D ac st p m c prog_12_method_55_code 3 s args "SweeperRoundsModel" R cells slots 2 43) (hR : RtI A D ac ad p l e R s m args below meth c prog_12_method_55_code cells slots QW Q) (hk_r0 : kd r0 = 10) (hG : DG A D ac ad s σ H locs) (hl : lv_has ls 3 [(0, .ref (ad r0)), (1, .int x1)]) (hf : m_10_drive r0 x1 Q σ) : W p l e R s m args below meth c H locs cells slots QW (F0 m 0 ls []) := by
  have hx := S.1.1
  have hb := S.1.2.1
  unfold m_10_drive at hf
  refine lv_aload_n hx hb d_10_drive_0 rfl (lv_at hl 0 rfl) ?_
  refine gf_10_161 S hG hk_r0 d_10_drive_1 ?_
  refine lv_iload_n hx hb d_10_drive_4 rfl (lv_at hl 1 rfl) ?_
  refine lv_icmp_ne (tgt := 10) hx hb d_10_drive_5 (by decide) (fun hc => ?_) (fun hc => ?_)
  · have hf := hf.1 hc
    refine lv_aload_n hx hb d_10_drive_10 rfl (lv_at hl 0 rfl) ?_
    refine gf_10_161 S hG hk_r0 d_10_drive_11 ?_
    refine lv_iconst (v := (-1 : Int32)) hx hb d_10_drive_14 (by decide) ?_
    refine lv_icmp_ne (tgt := 22) hx hb d_10_drive_15 (by decide) (fun hc => ?_) (fun hc => ?_)
    · have hf := hf.1 hc
      refine lv_aload_n hx hb d_10_drive_22 rfl (lv_at hl 0 rfl) ?_
      refine lv_aload_n hx hb d_10_drive_23 rfl (lv_at hl 0 rfl) ?_
      refine gf_10_161 S hG hk_r0 d_10_drive_24 ?_
      refine lv_iconst (v := (1 : Int32)) hx hb d_10_drive_27 (by decide) ?_
      refine iv_10_37 S hl.1 hG hk_r0 (c_10_of l hk_r0 hf) ⟨Nat.le_of_ble_eq_true rfl, Nat.le_of_ble_eq_true rfl⟩ (Nat.le_of_ble_eq_true rfl) d_10_drive_28 (fun v_2 σ_1 hf H locs hG => ?_)
      refine lv_aload_n hx hb d_10_drive_31 rfl (lv_at hl 0 rfl) ?_
      refine lv_iload_n hx hb d_10_drive_32 rfl (lv_at hl 1 rfl) ?_
      refine lv_iconst (v := (1 : Int32)) hx hb d_10_drive_33 (by decide) ?_
      refine iv_10_37 S hl.1 hG hk_r0 (c_10_of l hk_r0 hf) ⟨Nat.le_of_ble_eq_true rfl, Nat.le_of_ble_eq_true rfl⟩ (Nat.le_of_ble_eq_true rfl) d_10_drive_34 (fun v_4 σ_3 hf H locs hG => ?_)
      refine lv_isub hx hb d_10_drive_37 ?_
      exact w_10_drive_38 S hR hk_r0    hG (lv_sub hl [0, 1] rfl) hf
    · have hf := hf.2 hc
      refine lv_iconst (v := (0 : Int32)) hx hb d_10_drive_18 (by decide) ?_
      refine lv_goto (tgt := 38) hx hb d_10_drive_19 (by decide) ?_
      exact w_10_drive_38 S hR hk_r0    hG (lv_sub hl [0, 1] rfl) hf
  · have hf := hf.2 hc
    refine lv_iconst (v := (0 : Int32)) hx hb d_10_drive_8 (by decide) ?_
    exact hR _ _ _ _ _ _ hG hf d_10_drive_9
theorem c_10_drive (l : Launch) {D : va_G} {ac : Nat → ClassId} {ad st : Nat → Nat} {A : Nat → Prop} {σ : St} {r0 : Nat} {x1 : Int32} {Q : Int32 → St → Prop} (hk_r0 : kd r0 = 10) (hf : m_10_drive r0 x1 Q σ) : Met l y_10_drive (Cond.code y_10_drive prog_12_method_55_code 3 (some .int) :: wA) { frames := 2, cells := 0, slots := 0, locals := 43 } (va_Pc [.ref (ad r0), .int x1] (GSt A D ac ad st σ)) (va_Qi Q (GSt A D ac ad st) A) 0 0 A :=
  mkI l (by decide +kernel) rfl [.ref (ad r0), .int x1] (Nat.le_of_ble_eq_true rfl) (fun p e s m args below meth c ls QW S hR hG hl => w_10_drive_0 S hR hk_r0 hG hl hf)
set_option maxHeartbeats 4000000 in
set_option maxRecDepth 100000 in
theorem w_10_sweeps_229 {r0 : Nat} {x1 : Int32} {x2 : Int32} {x3 : Int32} {x4 : Int32} {x5 : Int32} {B18 : Int32 → St → Prop} {Q : St → Prop} {t0 : Int32} {t1 : Int32} {t2 : Int32} {t3 : Nat} {σ : St} {H : Heap} {locs : List Loc} {ls : Array Slot} (S : SC A D ac st p m c prog_12_method_56_code 10 s args "SweeperRoundsModel" R cells slots 3 68) (hR : RtV A D ac ad p l e R s m args below meth c prog_12_method_56_code cells slots QW Q) (hk_r0 : kd r0 = 10) (hk_t3 : kd t3 = 30) (hB18 : ∀ (x5 : Int32) (σ : St) (H : Heap) (locs : List Loc) (ls : Array Slot), DG A D ac ad s σ H locs → lv_has ls 10 [(0, .ref (ad r0)), (1, .int x1), (2, .int x2), (3, .int x3), (4, .int x4), (5, .int x5)] → B18 x5 σ → W p l e R s m args below meth c H locs cells slots QW (F0 m 18 ls [])) (hG : DG A D ac ad s σ H locs) (hl : lv_has ls 10 [(0, .ref (ad r0)), (1, .int x1), (2, .int x2), (3, .int x3), (4, .int x4), (5, .int x5)]) (hf : m_10_sweeps_229 r0 x1 x2 x3 x4 x5 B18 Q t0 t1 t2 t3 σ) : W p l e R s m args below meth c H locs cells slots QW (F0 m 229 ls [.int t0, .int t1, .int t2, .ref (ad t3)]) := by
  have hx := S.1.1
  have hb := S.1.2.1
  unfold m_10_sweeps_229 at hf
  refine lv_iadd hx hb d_10_sweeps_229 ?_
  refine mis S hG 30 rfl rfl hk_t3 hf.1 d_10_sweeps_230 (fun σ_1 eσ_1 H locs hG => ?_)
  have hf := hf.2 σ_1 eσ_1
  refine lv_aload_n hx hb d_10_sweeps_231 rfl (lv_at hl 0 rfl) ?_
  refine gf_10_7 S hG hk_r0 d_10_sweeps_232 ?_
  refine lv_sipush (v := (506 : Int32)) hx hb d_10_sweeps_235 (by decide) ?_
  refine mia S hG 30 rfl rfl (kr_10_0 hk_r0) hf.1 d_10_sweeps_238 ?_
  have hf := hf.2
  refine lv_aload_n hx hb d_10_sweeps_239 rfl (lv_at hl 0 rfl) ?_
  refine gf_10_7 S hG hk_r0 d_10_sweeps_240 ?_
  refine lv_sipush (v := (500 : Int32)) hx hb d_10_sweeps_243 (by decide) ?_
  refine mia S hG 30 rfl rfl (kr_10_0 hk_r0) hf.1 d_10_sweeps_246 ?_
  have hf := hf.2
  refine lv_icmp_ne (tgt := 279) hx hb d_10_sweeps_247 (by decide) (fun hc => ?_) (fun hc => ?_)
  · have hf := hf.1 hc
    refine lv_goto (tgt := 18) hx hb d_10_sweeps_279 (by decide) ?_
    exact hB18 _ _ _ _ _  hG (lv_sub hl [0, 1, 2, 3, 4, 5] rfl) hf
  · have hf := hf.2 hc
    refine lv_aload_n hx hb d_10_sweeps_250 rfl (lv_at hl 0 rfl) ?_
    refine lv_iconst (v := (2 : Int32)) hx hb d_10_sweeps_251 (by decide) ?_
    refine lv_aload_n hx hb d_10_sweeps_252 rfl (lv_at hl 0 rfl) ?_
    refine lv_iload_n hx hb d_10_sweeps_253 rfl (lv_at hl 3 rfl) ?_
    refine iv_10_151 S hl.1 hG hk_r0 (c_10_home l hk_r0 hf) ⟨Nat.le_of_ble_eq_true rfl, Nat.le_of_ble_eq_true rfl⟩ (Nat.le_of_ble_eq_true rfl) d_10_sweeps_254 (fun v_3 σ_2 hf H locs hG => ?_)
    refine lv_imul hx hb d_10_sweeps_257 ?_
    refine lv_bipush (v := (100 : Int32)) hx hb d_10_sweeps_258 (by decide) ?_
    refine lv_iadd hx hb d_10_sweeps_260 ?_
    refine lv_iload_n hx hb d_10_sweeps_261 rfl (lv_at hl 3 rfl) ?_
    refine lv_iconst (v := (3 : Int32)) hx hb d_10_sweeps_262 (by decide) ?_
    refine iv_10_164 S hl.1 hG hk_r0 (c_10_fits l hk_r0 hf) ⟨Nat.le_of_ble_eq_true rfl, Nat.le_of_ble_eq_true rfl⟩ (Nat.le_of_ble_eq_true rfl) d_10_sweeps_263 (fun v_5 σ_4 hf H locs hG => ?_)
    refine lv_if_eq (tgt := 279) hx hb d_10_sweeps_266 (by decide) (fun hc => ?_) (fun hc => ?_)
    · have hf := hf.1 hc
      refine lv_goto (tgt := 18) hx hb d_10_sweeps_279 (by decide) ?_
      exact hB18 _ _ _ _ _  hG (lv_sub hl [0, 1, 2, 3, 4, 5] rfl) hf
    · have hf := hf.2 hc
      refine lv_aload_n hx hb d_10_sweeps_269 rfl (lv_at hl 0 rfl) ?_
      refine iv_10_167 S hl.1 hG hk_r0 (c_10_dumps l hk_r0 hf) ⟨Nat.le_of_ble_eq_true rfl, Nat.le_of_ble_eq_true rfl⟩ (Nat.le_of_ble_eq_true rfl) d_10_sweeps_270 (fun σ_6 hf H locs hG => ?_)
      refine lv_aload_n hx hb d_10_sweeps_273 rfl (lv_at hl 0 rfl) ?_
      refine lv_iconst (v := (2 : Int32)) hx hb d_10_sweeps_274 (by decide) ?_
      refine lv_iconst (v := (1 : Int32)) hx hb d_10_sweeps_275 (by decide) ?_
      refine iv_10_158 S hl.1 hG hk_r0 (c_10_adds l hk_r0 hf) ⟨Nat.le_of_ble_eq_true rfl, Nat.le_of_ble_eq_true rfl⟩ (Nat.le_of_ble_eq_true rfl) d_10_sweeps_276 (fun σ_8 hf H locs hG => ?_)
      refine lv_goto (tgt := 18) hx hb d_10_sweeps_279 (by decide) ?_
      exact hB18 _ _ _ _ _  hG (lv_sub hl [0, 1, 2, 3, 4, 5] rfl) hf
set_option maxHeartbeats 4000000 in
set_option maxRecDepth 100000 in
theorem w_10_sweeps_202 {r0 : Nat} {x1 : Int32} {x2 : Int32} {x3 : Int32} {x4 : Int32} {B18 : Int32 → St → Prop} {Q : St → Prop} {t0 : Int32} {σ : St} {H : Heap} {locs : List Loc} {ls : Array Slot} (S : SC A D ac st p m c prog_12_method_56_code 10 s args "SweeperRoundsModel" R cells slots 3 68) (hR : RtV A D ac ad p l e R s m args below meth c prog_12_method_56_code cells slots QW Q) (hk_r0 : kd r0 = 10) (hB18 : ∀ (x5 : Int32) (σ : St) (H : Heap) (locs : List Loc) (ls : Array Slot), DG A D ac ad s σ H locs → lv_has ls 10 [(0, .ref (ad r0)), (1, .int x1), (2, .int x2), (3, .int x3), (4, .int x4), (5, .int x5)] → B18 x5 σ → W p l e R s m args below meth c H locs cells slots QW (F0 m 18 ls [])) (hG : DG A D ac ad s σ H locs) (hl : lv_has ls 10 [(0, .ref (ad r0)), (1, .int x1), (2, .int x2), (3, .int x3), (4, .int x4)]) (hf : m_10_sweeps_202 r0 x1 x2 x3 x4 B18 Q t0 σ) : W p l e R s m args below meth c H locs cells slots QW (F0 m 202 ls [.int t0]) := by
  have hx := S.1.1
  have hb := S.1.2.1
  unfold m_10_sweeps_202 at hf
  refine lv_istore (lv' := [(5, .int t0), (0, .ref (ad r0)), (1, .int x1), (2, .int x2), (3, .int x3), (4, .int x4)]) hx hb d_10_sweeps_202 hl (by decide) rfl (fun ls hl => ?_)
  refine lv_aload_n hx hb d_10_sweeps_204 rfl (lv_at hl 1 rfl) ?_
  refine gf_10_7 S hG hk_r0 d_10_sweeps_205 ?_
  refine lv_sipush (v := (508 : Int32)) hx hb d_10_sweeps_208 (by decide) ?_
  refine lv_iconst (v := (4 : Int32)) hx hb d_10_sweeps_211 (by decide) ?_
  refine lv_iload_n hx hb d_10_sweeps_212 rfl (lv_at hl 2 rfl) ?_
  refine lv_imul hx hb d_10_sweeps_213 ?_
  refine lv_iadd hx hb d_10_sweeps_214 ?_
  refine lv_iconst (v := (2 : Int32)) hx hb d_10_sweeps_215 (by decide) ?_
  refine lv_iadd hx hb d_10_sweeps_216 ?_
  refine lv_dup2_11 hx hb d_10_sweeps_217 rfl rfl ?_
  refine mia S hG 30 rfl rfl (kr_10_0 hk_r0) hf.1 d_10_sweeps_218 ?_
  have hf := hf.2
  refine lv_iload hx hb d_10_sweeps_219 (lv_at hl 0 rfl) ?_
  refine lv_if_eq (tgt := 228) hx hb d_10_sweeps_221 (by decide) (fun hc => ?_) (fun hc => ?_)
  · have hf := hf.1 hc
    refine lv_iconst (v := (1 : Int32)) hx hb d_10_sweeps_228 (by decide) ?_
    exact w_10_sweeps_229 S hR hk_r0  (kr_10_0 hk_r0) hB18 hG (lv_sub hl [1, 2, 3, 4, 5, 0] rfl) hf
  · have hf := hf.2 hc
    refine lv_iconst (v := (0 : Int32)) hx hb d_10_sweeps_224 (by decide) ?_
    refine lv_goto (tgt := 229) hx hb d_10_sweeps_225 (by decide) ?_
    exact w_10_sweeps_229 S hR hk_r0  (kr_10_0 hk_r0) hB18 hG (lv_sub hl [1, 2, 3, 4, 5, 0] rfl) hf
set_option maxHeartbeats 4000000 in
set_option maxRecDepth 100000 in
theorem w_10_sweeps_18 {r0 : Nat} {x1 : Int32} {x2 : Int32} {x3 : Int32} {x4 : Int32} {Q : St → Prop} {B18 : Int32 → St → Prop} {x5 : Int32} {σ : St} {H : Heap} {locs : List Loc} {ls : Array Slot} (S : SC A D ac st p m c prog_12_method_56_code 10 s args "SweeperRoundsModel" R cells slots 3 68) (hR : RtV A D ac ad p l e R s m args below meth c prog_12_method_56_code cells slots QW Q) (hk_r0 : kd r0 = 10) (hB18 : ∀ (x5 : Int32) (σ : St) (H : Heap) (locs : List Loc) (ls : Array Slot), DG A D ac ad s σ H locs → lv_has ls 10 [(0, .ref (ad r0)), (1, .int x1), (2, .int x2), (3, .int x3), (4, .int x4), (5, .int x5)] → B18 x5 σ → W p l e R s m args below meth c H locs cells slots QW (F0 m 18 ls [])) (hG : DG A D ac ad s σ H locs) (hl : lv_has ls 10 [(0, .ref (ad r0)), (1, .int x1), (2, .int x2), (3, .int x3), (4, .int x4), (5, .int x5)]) (hf : m_10_sweeps_18 r0 x1 x2 x3 x4 Q B18 x5 σ) : W p l e R s m args below meth c H locs cells slots QW (F0 m 18 ls []) := by
  have hx := S.1.1
  have hb := S.1.2.1
  unfold m_10_sweeps_18 at hf
  refine lv_iload hx hb d_10_sweeps_18 (lv_at hl 5 rfl) ?_
  refine lv_if_eq (tgt := 282) hx hb d_10_sweeps_20 (by decide) (fun hc => ?_) (fun hc => ?_)
  · have hf := hf.1 hc
    exact hR _ _ _ _ _ hG hf d_10_sweeps_282
  · have hf := hf.2 hc
    refine lv_aload_n hx hb d_10_sweeps_23 rfl (lv_at hl 0 rfl) ?_
    refine gf_10_154 S hG hk_r0 d_10_sweeps_24 ?_
    refine lv_if_eq (tgt := 282) hx hb d_10_sweeps_27 (by decide) (fun hc => ?_) (fun hc => ?_)
    · have hf := hf.1 hc
      exact hR _ _ _ _ _ hG hf d_10_sweeps_282
    · have hf := hf.2 hc
      refine lv_iconst (v := (0 : Int32)) hx hb d_10_sweeps_30 (by decide) ?_
      refine lv_istore (lv' := [(5, .int (0 : Int32)), (0, .ref (ad r0)), (1, .int x1), (2, .int x2), (3, .int x3), (4, .int x4)]) hx hb d_10_sweeps_31 hl (by decide) rfl (fun ls hl => ?_)
      refine lv_aload_n hx hb d_10_sweeps_33 rfl (lv_at hl 1 rfl) ?_
      refine lv_bipush (v := (12 : Int32)) hx hb d_10_sweeps_34 (by decide) ?_
      refine lv_aload_n hx hb d_10_sweeps_36 rfl (lv_at hl 1 rfl) ?_
      refine gf_10_7 S hG hk_r0 d_10_sweeps_37 ?_
      refine lv_sipush (v := (499 : Int32)) hx hb d_10_sweeps_40 (by decide) ?_
      refine mia S hG 30 rfl rfl (kr_10_0 hk_r0) hf.1 d_10_sweeps_43 ?_
      have hf := hf.2
      refine lv_idiv hx hb d_10_sweeps_44 hf.1 ?_
      have hf := hf.2
      refine lv_iload_n hx hb d_10_sweeps_45 rfl (lv_at hl 4 rfl) ?_
      refine lv_iconst (v := (2 : Int32)) hx hb d_10_sweeps_46 (by decide) ?_
      refine iv_10_164 S hl.1 hG hk_r0 (c_10_fits l hk_r0 hf) ⟨Nat.le_of_ble_eq_true rfl, Nat.le_of_ble_eq_true rfl⟩ (Nat.le_of_ble_eq_true rfl) d_10_sweeps_47 (fun v_2 σ_1 hf H locs hG => ?_)
      refine lv_if_eq (tgt := 18) hx hb d_10_sweeps_50 (by decide) (fun hc => ?_) (fun hc => ?_)
      · have hf := hf.1 hc
        exact hB18 _ _ _ _ _  hG (lv_sub hl [1, 2, 3, 4, 5, 0] rfl) hf
      · have hf := hf.2 hc
        refine lv_aload_n hx hb d_10_sweeps_53 rfl (lv_at hl 1 rfl) ?_
        refine lv_iload_n hx hb d_10_sweeps_54 rfl (lv_at hl 4 rfl) ?_
        refine lv_iload hx hb d_10_sweeps_55 (lv_at hl 5 rfl) ?_
        refine lv_iload_n hx hb d_10_sweeps_57 rfl (lv_at hl 3 rfl) ?_
        refine iv_10_123 S hl.1 hG hk_r0 (c_10_could l hk_r0 hf) ⟨Nat.le_of_ble_eq_true rfl, Nat.le_of_ble_eq_true rfl⟩ (Nat.le_of_ble_eq_true rfl) d_10_sweeps_58 (fun v_4 σ_3 hf H locs hG => ?_)
        refine lv_istore (lv' := [(6, .int v_4), (5, .int (0 : Int32)), (0, .ref (ad r0)), (1, .int x1), (2, .int x2), (3, .int x3), (4, .int x4)]) hx hb d_10_sweeps_61 hl (by decide) rfl (fun ls hl => ?_)
        refine lv_aload_n hx hb d_10_sweeps_63 rfl (lv_at hl 2 rfl) ?_
        refine iv_10_126 S hl.1 hG hk_r0 (c_10_room l hk_r0 hf) ⟨Nat.le_of_ble_eq_true rfl, Nat.le_of_ble_eq_true rfl⟩ (Nat.le_of_ble_eq_true rfl) d_10_sweeps_64 (fun v_6 σ_5 hf H locs hG => ?_)
        refine lv_istore (lv' := [(7, .int v_6), (6, .int v_4), (5, .int (0 : Int32)), (0, .ref (ad r0)), (1, .int x1), (2, .int x2), (3, .int x3), (4, .int x4)]) hx hb d_10_sweeps_67 hl (by decide) rfl (fun ls hl => ?_)
        refine lv_iload hx hb d_10_sweeps_69 (lv_at hl 1 rfl) ?_
        refine lv_iload hx hb d_10_sweeps_71 (lv_at hl 0 rfl) ?_
        refine iv_10_129 S hl.1 hG  (c_10_lesser l  hf) ⟨Nat.le_of_ble_eq_true rfl, Nat.le_of_ble_eq_true rfl⟩ (Nat.le_of_ble_eq_true rfl) d_10_sweeps_73 (fun v_8 σ_7 hf H locs hG => ?_)
        refine lv_istore (lv' := [(8, .int v_8), (7, .int v_6), (6, .int v_4), (5, .int (0 : Int32)), (0, .ref (ad r0)), (1, .int x1), (2, .int x2), (3, .int x3), (4, .int x4)]) hx hb d_10_sweeps_76 hl (by decide) rfl (fun ls hl => ?_)
        refine lv_aload_n hx hb d_10_sweeps_78 rfl (lv_at hl 4 rfl) ?_
        refine lv_iload_n hx hb d_10_sweeps_79 rfl (lv_at hl 7 rfl) ?_
        refine lv_iconst (v := (3 : Int32)) hx hb d_10_sweeps_80 (by decide) ?_
        refine lv_iload hx hb d_10_sweeps_81 (lv_at hl 8 rfl) ?_
        refine lv_iload_n hx hb d_10_sweeps_83 rfl (lv_at hl 6 rfl) ?_
        refine iv_10_33 S hl.1 hG  (c_10_placeOf l  hf) ⟨Nat.le_of_ble_eq_true rfl, Nat.le_of_ble_eq_true rfl⟩ (Nat.le_of_ble_eq_true rfl) d_10_sweeps_84 (fun v_10 σ_9 hf H locs hG => ?_)
        refine lv_iadd hx hb d_10_sweeps_87 ?_
        refine lv_aload_n hx hb d_10_sweeps_88 rfl (lv_at hl 4 rfl) ?_
        refine lv_iload_n hx hb d_10_sweeps_89 rfl (lv_at hl 7 rfl) ?_
        refine lv_iload hx hb d_10_sweeps_90 (lv_at hl 8 rfl) ?_
        refine lv_iload_n hx hb d_10_sweeps_92 rfl (lv_at hl 6 rfl) ?_
        refine iv_10_48 S hl.1 hG hk_r0 (c_10_dirtOf l hk_r0 hf) ⟨Nat.le_of_ble_eq_true rfl, Nat.le_of_ble_eq_true rfl⟩ (Nat.le_of_ble_eq_true rfl) d_10_sweeps_93 (fun v_12 σ_11 hf H locs hG => ?_)
        refine lv_iload hx hb d_10_sweeps_96 (lv_at hl 0 rfl) ?_
        refine lv_isub hx hb d_10_sweeps_98 ?_
        refine iv_10_52 S hl.1 hG hk_r0 (c_10_sets l hk_r0 hf) ⟨Nat.le_of_ble_eq_true rfl, Nat.le_of_ble_eq_true rfl⟩ (Nat.le_of_ble_eq_true rfl) d_10_sweeps_99 (fun σ_13 hf H locs hG => ?_)
        refine lv_aload_n hx hb d_10_sweeps_102 rfl (lv_at hl 4 rfl) ?_
        refine gf_10_7 S hG hk_r0 d_10_sweeps_103 ?_
        refine lv_sipush (v := (506 : Int32)) hx hb d_10_sweeps_106 (by decide) ?_
        refine lv_dup2_11 hx hb d_10_sweeps_109 rfl rfl ?_
        refine mia S hG 30 rfl rfl (kr_10_0 hk_r0) hf.1 d_10_sweeps_110 ?_
        have hf := hf.2
        refine lv_iload hx hb d_10_sweeps_111 (lv_at hl 0 rfl) ?_
        refine lv_iadd hx hb d_10_sweeps_113 ?_
        refine mis S hG 30 rfl rfl (kr_10_0 hk_r0) hf.1 d_10_sweeps_114 (fun σ_15 eσ_15 H locs hG => ?_)
        have hf := hf.2 σ_15 eσ_15
        refine lv_aload_n hx hb d_10_sweeps_115 rfl (lv_at hl 4 rfl) ?_
        refine lv_iconst (v := (3 : Int32)) hx hb d_10_sweeps_116 (by decide) ?_
        refine lv_iload hx hb d_10_sweeps_117 (lv_at hl 0 rfl) ?_
        refine iv_10_158 S hl.1 hG hk_r0 (c_10_adds l hk_r0 hf) ⟨Nat.le_of_ble_eq_true rfl, Nat.le_of_ble_eq_true rfl⟩ (Nat.le_of_ble_eq_true rfl) d_10_sweeps_119 (fun σ_16 hf H locs hG => ?_)
        refine lv_aload_n hx hb d_10_sweeps_122 rfl (lv_at hl 4 rfl) ?_
        refine gf_10_7 S hG hk_r0 d_10_sweeps_123 ?_
        refine lv_sipush (v := (508 : Int32)) hx hb d_10_sweeps_126 (by decide) ?_
        refine lv_iconst (v := (4 : Int32)) hx hb d_10_sweeps_129 (by decide) ?_
        refine lv_iload_n hx hb d_10_sweeps_130 rfl (lv_at hl 5 rfl) ?_
        refine lv_imul hx hb d_10_sweeps_131 ?_
        refine lv_iadd hx hb d_10_sweeps_132 ?_
        refine lv_iconst (v := (3 : Int32)) hx hb d_10_sweeps_133 (by decide) ?_
        refine lv_iadd hx hb d_10_sweeps_134 ?_
        refine lv_dup2_11 hx hb d_10_sweeps_135 rfl rfl ?_
        refine mia S hG 30 rfl rfl (kr_10_0 hk_r0) hf.1 d_10_sweeps_136 ?_
        have hf := hf.2
        refine lv_iload hx hb d_10_sweeps_137 (lv_at hl 0 rfl) ?_
        refine lv_iadd hx hb d_10_sweeps_139 ?_
        refine mis S hG 30 rfl rfl (kr_10_0 hk_r0) hf.1 d_10_sweeps_140 (fun σ_18 eσ_18 H locs hG => ?_)
        have hf := hf.2 σ_18 eσ_18
        refine lv_iconst (v := (1 : Int32)) hx hb d_10_sweeps_141 (by decide) ?_
        refine lv_iload hx hb d_10_sweeps_142 (lv_at hl 0 rfl) ?_
        refine lv_aload_n hx hb d_10_sweeps_144 rfl (lv_at hl 4 rfl) ?_
        refine gf_10_7 S hG hk_r0 d_10_sweeps_145 ?_
        refine lv_sipush (v := (499 : Int32)) hx hb d_10_sweeps_148 (by decide) ?_
        refine mia S hG 30 rfl rfl (kr_10_0 hk_r0) hf.1 d_10_sweeps_151 ?_
        have hf := hf.2
        refine lv_imul hx hb d_10_sweeps_152 ?_
        refine lv_bipush (v := (20 : Int32)) hx hb d_10_sweeps_153 (by decide) ?_
        refine lv_idiv hx hb d_10_sweeps_155 (by decide) ?_
        refine lv_iadd hx hb d_10_sweeps_156 ?_
        refine lv_aload_n hx hb d_10_sweeps_157 rfl (lv_at hl 4 rfl) ?_
        refine gf_10_7 S hG hk_r0 d_10_sweeps_158 ?_
        refine lv_sipush (v := (505 : Int32)) hx hb d_10_sweeps_161 (by decide) ?_
        refine mia S hG 30 rfl rfl (kr_10_0 hk_r0) hf.1 d_10_sweeps_164 ?_
        have hf := hf.2
        refine iv_10_129 S hl.1 hG  (c_10_lesser l  hf) ⟨Nat.le_of_ble_eq_true rfl, Nat.le_of_ble_eq_true rfl⟩ (Nat.le_of_ble_eq_true rfl) d_10_sweeps_165 (fun v_20 σ_19 hf H locs hG => ?_)
        refine lv_istore (lv' := [(9, .int v_20), (8, .int v_8), (7, .int v_6), (6, .int v_4), (5, .int (0 : Int32)), (0, .ref (ad r0)), (1, .int x1), (2, .int x2), (3, .int x3), (4, .int x4)]) hx hb d_10_sweeps_168 hl (by decide) rfl (fun ls hl => ?_)
        refine lv_aload_n hx hb d_10_sweeps_170 rfl (lv_at hl 5 rfl) ?_
        refine gf_10_7 S hG hk_r0 d_10_sweeps_171 ?_
        refine lv_sipush (v := (505 : Int32)) hx hb d_10_sweeps_174 (by decide) ?_
        refine lv_dup2_11 hx hb d_10_sweeps_177 rfl rfl ?_
        refine mia S hG 30 rfl rfl (kr_10_0 hk_r0) hf.1 d_10_sweeps_178 ?_
        have hf := hf.2
        refine lv_iload hx hb d_10_sweeps_179 (lv_at hl 0 rfl) ?_
        refine lv_isub hx hb d_10_sweeps_181 ?_
        refine mis S hG 30 rfl rfl (kr_10_0 hk_r0) hf.1 d_10_sweeps_182 (fun σ_21 eσ_21 H locs hG => ?_)
        have hf := hf.2 σ_21 eσ_21
        refine lv_aload_n hx hb d_10_sweeps_183 rfl (lv_at hl 5 rfl) ?_
        refine lv_iconst (v := (4 : Int32)) hx hb d_10_sweeps_184 (by decide) ?_
        refine lv_iload hx hb d_10_sweeps_185 (lv_at hl 0 rfl) ?_
        refine iv_10_158 S hl.1 hG hk_r0 (c_10_adds l hk_r0 hf) ⟨Nat.le_of_ble_eq_true rfl, Nat.le_of_ble_eq_true rfl⟩ (Nat.le_of_ble_eq_true rfl) d_10_sweeps_187 (fun σ_22 hf H locs hG => ?_)
        refine lv_iload hx hb d_10_sweeps_190 (lv_at hl 3 rfl) ?_
        refine lv_iload hx hb d_10_sweeps_192 (lv_at hl 2 rfl) ?_
        refine lv_icmp_le (tgt := 201) hx hb d_10_sweeps_194 (by decide) (fun hc => ?_) (fun hc => ?_)
        · have hf := hf.1 hc
          refine lv_iconst (v := (0 : Int32)) hx hb d_10_sweeps_201 (by decide) ?_
          exact w_10_sweeps_202 S hR hk_r0   hB18 hG (lv_sub hl [5, 6, 7, 8, 9] rfl) hf
        · have hf := hf.2 hc
          refine lv_iconst (v := (1 : Int32)) hx hb d_10_sweeps_197 (by decide) ?_
          refine lv_goto (tgt := 202) hx hb d_10_sweeps_198 (by decide) ?_
          exact w_10_sweeps_202 S hR hk_r0   hB18 hG (lv_sub hl [5, 6, 7, 8, 9] rfl) hf
set_option maxHeartbeats 4000000 in
set_option maxRecDepth 100000 in
theorem lp_10_sweeps_18 {r0 : Nat} {x1 : Int32} {x2 : Int32} {x3 : Int32} {x4 : Int32} {Q : St → Prop} (S : SC A D ac st p m c prog_12_method_56_code 10 s args "SweeperRoundsModel" R cells slots 3 68) (hR : RtV A D ac ad p l e R s m args below meth c prog_12_method_56_code cells slots QW Q) (hk_r0 : kd r0 = 10) : ∀ (n : Nat) (x5 : Int32) (σ : St) (H : Heap) (locs : List Loc) (ls : Array Slot), DG A D ac ad s σ H locs → lv_has ls 10 [(0, .ref (ad r0)), (1, .int x1), (2, .int x2), (3, .int x3), (4, .int x4), (5, .int x5)] → itN (m_10_sweeps_18 r0 x1 x2 x3 x4 Q) (fun _ _ => False) n x5 σ → W p l e R s m args below meth c H locs cells slots QW (F0 m 18 ls []) := by
  intro n
  induction n with
  | zero =>
    intro x5 σ H locs ls  hG hl hf
    exact hf.elim
  | succ n ih =>
    intro x5 σ H locs ls  hG hl hf
    exact w_10_sweeps_18 S hR hk_r0  ih hG hl hf
set_option maxHeartbeats 4000000 in
set_option maxRecDepth 100000 in
theorem w_10_sweeps_0 {r0 : Nat} {x1 : Int32} {x2 : Int32} {Q : St → Prop} {σ : St} {H : Heap} {locs : List Loc} {ls : Array Slot} (S : SC A D ac st p m c prog_12_method_56_code 10 s args "SweeperRoundsModel" R cells slots 3 68) (hR : RtV A D ac ad p l e R s m args below meth c prog_12_method_56_code cells slots QW Q) (hk_r0 : kd r0 = 10) (hG : DG A D ac ad s σ H locs) (hl : lv_has ls 10 [(0, .ref (ad r0)), (1, .int x1), (2, .int x2)]) (hf : m_10_sweeps r0 x1 x2 Q σ) : W p l e R s m args below meth c H locs cells slots QW (F0 m 0 ls []) := by
  have hx := S.1.1
  have hb := S.1.2.1
  unfold m_10_sweeps at hf
  refine lv_aload_n hx hb d_10_sweeps_0 rfl (lv_at hl 0 rfl) ?_
  refine lv_iload_n hx hb d_10_sweeps_1 rfl (lv_at hl 1 rfl) ?_
  refine lv_iconst (v := (0 : Int32)) hx hb d_10_sweeps_2 (by decide) ?_
  refine iv_10_69 S hl.1 hG hk_r0 (c_10_legOf l hk_r0 hf) ⟨Nat.le_of_ble_eq_true rfl, Nat.le_of_ble_eq_true rfl⟩ (Nat.le_of_ble_eq_true rfl) d_10_sweeps_3 (fun v_2 σ_1 hf H locs hG => ?_)
  refine lv_istore_n (lv' := [(3, .int v_2), (0, .ref (ad r0)), (1, .int x1), (2, .int x2)]) hx hb d_10_sweeps_6 rfl hl (by decide) rfl (fun ls hl => ?_)
  refine lv_aload_n hx hb d_10_sweeps_7 rfl (lv_at hl 1 rfl) ?_
  refine lv_iload_n hx hb d_10_sweeps_8 rfl (lv_at hl 2 rfl) ?_
  refine lv_iconst (v := (1 : Int32)) hx hb d_10_sweeps_9 (by decide) ?_
  refine iv_10_69 S hl.1 hG hk_r0 (c_10_legOf l hk_r0 hf) ⟨Nat.le_of_ble_eq_true rfl, Nat.le_of_ble_eq_true rfl⟩ (Nat.le_of_ble_eq_true rfl) d_10_sweeps_10 (fun v_4 σ_3 hf H locs hG => ?_)
  refine lv_istore (lv' := [(4, .int v_4), (3, .int v_2), (0, .ref (ad r0)), (1, .int x1), (2, .int x2)]) hx hb d_10_sweeps_13 hl (by decide) rfl (fun ls hl => ?_)
  refine lv_iconst (v := (1 : Int32)) hx hb d_10_sweeps_15 (by decide) ?_
  refine lv_istore (lv' := [(5, .int (1 : Int32)), (4, .int v_4), (3, .int v_2), (0, .ref (ad r0)), (1, .int x1), (2, .int x2)]) hx hb d_10_sweeps_16 hl (by decide) rfl (fun ls hl => ?_)
  exact lp_10_sweeps_18 S hR hk_r0  FU _ _ _ _ _  hG (lv_sub hl [3, 4, 5, 2, 1, 0] rfl) hf
theorem c_10_sweeps (l : Launch) {D : va_G} {ac : Nat → ClassId} {ad st : Nat → Nat} {A : Nat → Prop} {σ : St} {r0 : Nat} {x1 : Int32} {x2 : Int32} {Q : St → Prop} (hk_r0 : kd r0 = 10) (hf : m_10_sweeps r0 x1 x2 Q σ) : Met l y_10_sweeps (Cond.code y_10_sweeps prog_12_method_56_code 10 none :: wA) { frames := 3, cells := 0, slots := 0, locals := 68 } (va_Pc [.ref (ad r0), .int x1, .int x2] (GSt A D ac ad st σ)) (va_Qv Q (GSt A D ac ad st) A) 0 0 A :=
  mkV l (by decide +kernel) rfl [.ref (ad r0), .int x1, .int x2] (Nat.le_of_ble_eq_true rfl) (fun p e s m args below meth c ls QW S hR hG hl => w_10_sweeps_0 S hR hk_r0 hG hl hf)
set_option maxHeartbeats 4000000 in
set_option maxRecDepth 100000 in
theorem w_10_goesThrough_291 {r0 : Nat} {Q : St → Prop} {σ : St} {H : Heap} {locs : List Loc} {ls : Array Slot} (S : SC A D ac st p m c prog_12_method_57_code 4 s args "SweeperRoundsModel" R cells slots 4 97) (hR : RtV A D ac ad p l e R s m args below meth c prog_12_method_57_code cells slots QW Q) (hk_r0 : kd r0 = 10) (hG : DG A D ac ad s σ H locs) (hl : lv_has ls 4 [(0, .ref (ad r0))]) (hf : m_10_goesThrough_291 r0 Q σ) : W p l e R s m args below meth c H locs cells slots QW (F0 m 291 ls []) := by
  have hx := S.1.1
  have hb := S.1.2.1
  unfold m_10_goesThrough_291 at hf
  refine lv_aload_n hx hb d_10_goesThrough_291 rfl (lv_at hl 0 rfl) ?_
  refine gf_10_7 S hG hk_r0 d_10_goesThrough_292 ?_
  refine lv_sipush (v := (555 : Int32)) hx hb d_10_goesThrough_295 (by decide) ?_
  refine lv_iconst (v := (1 : Int32)) hx hb d_10_goesThrough_298 (by decide) ?_
  refine mis S hG 30 rfl rfl (kr_10_0 hk_r0) hf.1 d_10_goesThrough_299 (fun σ_1 eσ_1 H locs hG => ?_)
  have hf := hf.2 σ_1 eσ_1
  refine lv_aload_n hx hb d_10_goesThrough_300 rfl (lv_at hl 0 rfl) ?_
  refine gf_10_7 S hG hk_r0 d_10_goesThrough_301 ?_
  refine lv_sipush (v := (548 : Int32)) hx hb d_10_goesThrough_304 (by decide) ?_
  refine lv_iconst (v := (1 : Int32)) hx hb d_10_goesThrough_307 (by decide) ?_
  refine mis S hG 30 rfl rfl (kr_10_0 hk_r0) hf.1 d_10_goesThrough_308 (fun σ_2 eσ_2 H locs hG => ?_)
  have hf := hf.2 σ_2 eσ_2
  refine lv_aload_n hx hb d_10_goesThrough_309 rfl (lv_at hl 0 rfl) ?_
  refine gf_10_7 S hG hk_r0 d_10_goesThrough_310 ?_
  refine lv_sipush (v := (562 : Int32)) hx hb d_10_goesThrough_313 (by decide) ?_
  refine lv_dup2_11 hx hb d_10_goesThrough_316 rfl rfl ?_
  refine mia S hG 30 rfl rfl (kr_10_0 hk_r0) hf.1 d_10_goesThrough_317 ?_
  have hf := hf.2
  refine lv_iconst (v := (1 : Int32)) hx hb d_10_goesThrough_318 (by decide) ?_
  refine lv_iadd hx hb d_10_goesThrough_319 ?_
  refine mis S hG 30 rfl rfl (kr_10_0 hk_r0) hf.1 d_10_goesThrough_320 (fun σ_3 eσ_3 H locs hG => ?_)
  have hf := hf.2 σ_3 eσ_3
  exact hR _ _ _ _ _ hG hf d_10_goesThrough_321
set_option maxHeartbeats 4000000 in
set_option maxRecDepth 100000 in
theorem w_10_goesThrough_238 {r0 : Nat} {Q : St → Prop} {σ : St} {H : Heap} {locs : List Loc} {ls : Array Slot} (S : SC A D ac st p m c prog_12_method_57_code 4 s args "SweeperRoundsModel" R cells slots 4 97) (hR : RtV A D ac ad p l e R s m args below meth c prog_12_method_57_code cells slots QW Q) (hk_r0 : kd r0 = 10) (hG : DG A D ac ad s σ H locs) (hl : lv_has ls 4 [(0, .ref (ad r0))]) (hf : m_10_goesThrough_238 r0 Q σ) : W p l e R s m args below meth c H locs cells slots QW (F0 m 238 ls []) := by
  have hx := S.1.1
  have hb := S.1.2.1
  unfold m_10_goesThrough_238 at hf
  refine lv_aload_n hx hb d_10_goesThrough_238 rfl (lv_at hl 0 rfl) ?_
  refine gf_10_7 S hG hk_r0 d_10_goesThrough_239 ?_
  refine lv_sipush (v := (505 : Int32)) hx hb d_10_goesThrough_242 (by decide) ?_
  refine mia S hG 30 rfl rfl (kr_10_0 hk_r0) hf.1 d_10_goesThrough_245 ?_
  have hf := hf.2
  refine lv_aload_n hx hb d_10_goesThrough_246 rfl (lv_at hl 0 rfl) ?_
  refine gf_10_7 S hG hk_r0 d_10_goesThrough_247 ?_
  refine lv_sipush (v := (503 : Int32)) hx hb d_10_goesThrough_250 (by decide) ?_
  refine mia S hG 30 rfl rfl (kr_10_0 hk_r0) hf.1 d_10_goesThrough_253 ?_
  have hf := hf.2
  refine lv_icmp_ge (tgt := 291) hx hb d_10_goesThrough_254 (by decide) (fun hc => ?_) (fun hc => ?_)
  · have hf := hf.1 hc
    exact w_10_goesThrough_291 S hR hk_r0    hG (lv_sub hl [0] rfl) hf
  · have hf := hf.2 hc
    refine lv_aload_n hx hb d_10_goesThrough_257 rfl (lv_at hl 0 rfl) ?_
    refine gf_10_7 S hG hk_r0 d_10_goesThrough_258 ?_
    refine lv_sipush (v := (501 : Int32)) hx hb d_10_goesThrough_261 (by decide) ?_
    refine mia S hG 30 rfl rfl (kr_10_0 hk_r0) hf.1 d_10_goesThrough_264 ?_
    have hf := hf.2
    refine lv_if_le (tgt := 291) hx hb d_10_goesThrough_265 (by decide) (fun hc => ?_) (fun hc => ?_)
    · have hf := hf.1 hc
      exact w_10_goesThrough_291 S hR hk_r0    hG (lv_sub hl [0] rfl) hf
    · have hf := hf.2 hc
      refine lv_aload_n hx hb d_10_goesThrough_268 rfl (lv_at hl 0 rfl) ?_
      refine gf_10_7 S hG hk_r0 d_10_goesThrough_269 ?_
      refine lv_sipush (v := (501 : Int32)) hx hb d_10_goesThrough_272 (by decide) ?_
      refine lv_dup2_11 hx hb d_10_goesThrough_275 rfl rfl ?_
      refine mia S hG 30 rfl rfl (kr_10_0 hk_r0) hf.1 d_10_goesThrough_276 ?_
      have hf := hf.2
      refine lv_iconst (v := (1 : Int32)) hx hb d_10_goesThrough_277 (by decide) ?_
      refine lv_isub hx hb d_10_goesThrough_278 ?_
      refine mis S hG 30 rfl rfl (kr_10_0 hk_r0) hf.1 d_10_goesThrough_279 (fun σ_1 eσ_1 H locs hG => ?_)
      have hf := hf.2 σ_1 eσ_1
      refine lv_aload_n hx hb d_10_goesThrough_280 rfl (lv_at hl 0 rfl) ?_
      refine gf_10_7 S hG hk_r0 d_10_goesThrough_281 ?_
      refine lv_sipush (v := (505 : Int32)) hx hb d_10_goesThrough_284 (by decide) ?_
      refine lv_sipush (v := (1000 : Int32)) hx hb d_10_goesThrough_287 (by decide) ?_
      refine mis S hG 30 rfl rfl (kr_10_0 hk_r0) hf.1 d_10_goesThrough_290 (fun σ_2 eσ_2 H locs hG => ?_)
      have hf := hf.2 σ_2 eσ_2
      exact w_10_goesThrough_291 S hR hk_r0    hG (lv_sub hl [0] rfl) hf
set_option maxHeartbeats 4000000 in
set_option maxRecDepth 100000 in
theorem w_10_goesThrough_191 {r0 : Nat} {x1 : Int32} {Q : St → Prop} {σ : St} {H : Heap} {locs : List Loc} {ls : Array Slot} (S : SC A D ac st p m c prog_12_method_57_code 4 s args "SweeperRoundsModel" R cells slots 4 97) (hR : RtV A D ac ad p l e R s m args below meth c prog_12_method_57_code cells slots QW Q) (hk_r0 : kd r0 = 10) (hG : DG A D ac ad s σ H locs) (hl : lv_has ls 4 [(0, .ref (ad r0)), (1, .int x1)]) (hf : m_10_goesThrough_191 r0 x1 Q σ) : W p l e R s m args below meth c H locs cells slots QW (F0 m 191 ls []) := by
  have hx := S.1.1
  have hb := S.1.2.1
  unfold m_10_goesThrough_191 at hf
  refine lv_aload_n hx hb d_10_goesThrough_191 rfl (lv_at hl 0 rfl) ?_
  refine gf_10_7 S hG hk_r0 d_10_goesThrough_192 ?_
  refine lv_sipush (v := (554 : Int32)) hx hb d_10_goesThrough_195 (by decide) ?_
  refine lv_iload_n hx hb d_10_goesThrough_198 rfl (lv_at hl 1 rfl) ?_
  refine mis S hG 30 rfl rfl (kr_10_0 hk_r0) hf.1 d_10_goesThrough_199 (fun σ_1 eσ_1 H locs hG => ?_)
  have hf := hf.2 σ_1 eσ_1
  refine lv_aload_n hx hb d_10_goesThrough_200 rfl (lv_at hl 0 rfl) ?_
  refine lv_iconst (v := (1 : Int32)) hx hb d_10_goesThrough_201 (by decide) ?_
  refine lv_aload_n hx hb d_10_goesThrough_202 rfl (lv_at hl 0 rfl) ?_
  refine lv_aload_n hx hb d_10_goesThrough_203 rfl (lv_at hl 0 rfl) ?_
  refine gf_10_161 S hG hk_r0 d_10_goesThrough_204 ?_
  refine iv_10_151 S hl.1 hG hk_r0 (c_10_home l hk_r0 hf) ⟨Nat.le_of_ble_eq_true rfl, Nat.le_of_ble_eq_true rfl⟩ (Nat.le_of_ble_eq_true rfl) d_10_goesThrough_207 (fun v_3 σ_2 hf H locs hG => ?_)
  refine iv_10_158 S hl.1 hG hk_r0 (c_10_adds l hk_r0 hf) ⟨Nat.le_of_ble_eq_true rfl, Nat.le_of_ble_eq_true rfl⟩ (Nat.le_of_ble_eq_true rfl) d_10_goesThrough_210 (fun σ_4 hf H locs hG => ?_)
  refine lv_iconst (v := (2 : Int32)) hx hb d_10_goesThrough_213 (by decide) ?_
  refine lv_aload_n hx hb d_10_goesThrough_214 rfl (lv_at hl 0 rfl) ?_
  refine gf_10_7 S hG hk_r0 d_10_goesThrough_215 ?_
  refine lv_sipush (v := (506 : Int32)) hx hb d_10_goesThrough_218 (by decide) ?_
  refine mia S hG 30 rfl rfl (kr_10_0 hk_r0) hf.1 d_10_goesThrough_221 ?_
  have hf := hf.2
  refine lv_imul hx hb d_10_goesThrough_222 ?_
  refine lv_aload_n hx hb d_10_goesThrough_223 rfl (lv_at hl 0 rfl) ?_
  refine gf_10_7 S hG hk_r0 d_10_goesThrough_224 ?_
  refine lv_sipush (v := (500 : Int32)) hx hb d_10_goesThrough_227 (by decide) ?_
  refine mia S hG 30 rfl rfl (kr_10_0 hk_r0) hf.1 d_10_goesThrough_230 ?_
  have hf := hf.2
  refine lv_icmp_lt (tgt := 238) hx hb d_10_goesThrough_231 (by decide) (fun hc => ?_) (fun hc => ?_)
  · have hf := hf.1 hc
    exact w_10_goesThrough_238 S hR hk_r0    hG (lv_sub hl [0] rfl) hf
  · have hf := hf.2 hc
    refine lv_aload_n hx hb d_10_goesThrough_234 rfl (lv_at hl 0 rfl) ?_
    refine iv_10_167 S hl.1 hG hk_r0 (c_10_dumps l hk_r0 hf) ⟨Nat.le_of_ble_eq_true rfl, Nat.le_of_ble_eq_true rfl⟩ (Nat.le_of_ble_eq_true rfl) d_10_goesThrough_235 (fun σ_6 hf H locs hG => ?_)
    exact w_10_goesThrough_238 S hR hk_r0    hG (lv_sub hl [0] rfl) hf
set_option maxHeartbeats 4000000 in
set_option maxRecDepth 100000 in
theorem w_10_goesThrough_173 {r0 : Nat} {x1 : Int32} {B87 : Int32 → St → Prop} {Q : St → Prop} {σ : St} {H : Heap} {locs : List Loc} {ls : Array Slot} (S : SC A D ac st p m c prog_12_method_57_code 4 s args "SweeperRoundsModel" R cells slots 4 97) (hR : RtV A D ac ad p l e R s m args below meth c prog_12_method_57_code cells slots QW Q) (hk_r0 : kd r0 = 10) (hB87 : ∀ (x1 : Int32) (σ : St) (H : Heap) (locs : List Loc) (ls : Array Slot), DG A D ac ad s σ H locs → lv_has ls 4 [(0, .ref (ad r0)), (1, .int x1)] → B87 x1 σ → W p l e R s m args below meth c H locs cells slots QW (F0 m 87 ls [])) (hG : DG A D ac ad s σ H locs) (hl : lv_has ls 4 [(0, .ref (ad r0)), (1, .int x1)]) (hf : m_10_goesThrough_173 r0 x1 B87 Q σ) : W p l e R s m args below meth c H locs cells slots QW (F0 m 173 ls []) := by
  have hx := S.1.1
  have hb := S.1.2.1
  unfold m_10_goesThrough_173 at hf
  refine lv_iload_n hx hb d_10_goesThrough_173 rfl (lv_at hl 1 rfl) ?_
  refine lv_aload_n hx hb d_10_goesThrough_174 rfl (lv_at hl 0 rfl) ?_
  refine gf_10_154 S hG hk_r0 d_10_goesThrough_175 ?_
  refine lv_if_eq (tgt := 185) hx hb d_10_goesThrough_178 (by decide) (fun hc => ?_) (fun hc => ?_)
  · have hf := hf.1 hc
    refine lv_iconst (v := (0 : Int32)) hx hb d_10_goesThrough_185 (by decide) ?_
    refine lv_iadd hx hb d_10_goesThrough_186 ?_
    refine lv_topi (fun x1_1 ex1_1 => ?_)
    have hf := hf x1_1 ex1_1
    refine lv_istore_n (lv' := [(1, .int x1_1), (0, .ref (ad r0))]) hx hb d_10_goesThrough_187 rfl hl (by decide) rfl (fun ls hl => ?_)
    refine lv_goto (tgt := 87) hx hb d_10_goesThrough_188 (by decide) ?_
    exact hB87 _ _ _ _ _  hG (lv_sub hl [1, 0] rfl) hf
  · have hf := hf.2 hc
    refine lv_iconst (v := (1 : Int32)) hx hb d_10_goesThrough_181 (by decide) ?_
    refine lv_goto (tgt := 186) hx hb d_10_goesThrough_182 (by decide) ?_
    refine lv_iadd hx hb d_10_goesThrough_186 ?_
    refine lv_topi (fun x1_2 ex1_2 => ?_)
    have hf := hf x1_2 ex1_2
    refine lv_istore_n (lv' := [(1, .int x1_2), (0, .ref (ad r0))]) hx hb d_10_goesThrough_187 rfl hl (by decide) rfl (fun ls hl => ?_)
    refine lv_goto (tgt := 87) hx hb d_10_goesThrough_188 (by decide) ?_
    exact hB87 _ _ _ _ _  hG (lv_sub hl [1, 0] rfl) hf
set_option maxHeartbeats 4000000 in
set_option maxRecDepth 100000 in
theorem w_10_goesThrough_139 {r0 : Nat} {x1 : Int32} {x2 : Int32} {B87 : Int32 → St → Prop} {Q : St → Prop} {B139 : Int32 → St → Prop} {x3 : Int32} {σ : St} {H : Heap} {locs : List Loc} {ls : Array Slot} (S : SC A D ac st p m c prog_12_method_57_code 4 s args "SweeperRoundsModel" R cells slots 4 97) (hR : RtV A D ac ad p l e R s m args below meth c prog_12_method_57_code cells slots QW Q) (hk_r0 : kd r0 = 10) (hB87 : ∀ (x1 : Int32) (σ : St) (H : Heap) (locs : List Loc) (ls : Array Slot), DG A D ac ad s σ H locs → lv_has ls 4 [(0, .ref (ad r0)), (1, .int x1)] → B87 x1 σ → W p l e R s m args below meth c H locs cells slots QW (F0 m 87 ls [])) (hB139 : ∀ (x3 : Int32) (σ : St) (H : Heap) (locs : List Loc) (ls : Array Slot), DG A D ac ad s σ H locs → lv_has ls 4 [(0, .ref (ad r0)), (1, .int x1), (2, .int x2), (3, .int x3)] → B139 x3 σ → W p l e R s m args below meth c H locs cells slots QW (F0 m 139 ls [])) (hG : DG A D ac ad s σ H locs) (hl : lv_has ls 4 [(0, .ref (ad r0)), (1, .int x1), (2, .int x2), (3, .int x3)]) (hf : m_10_goesThrough_139 r0 x1 x2 B87 Q B139 x3 σ) : W p l e R s m args below meth c H locs cells slots QW (F0 m 139 ls []) := by
  have hx := S.1.1
  have hb := S.1.2.1
  unfold m_10_goesThrough_139 at hf
  refine lv_iload_n hx hb d_10_goesThrough_139 rfl (lv_at hl 3 rfl) ?_
  refine lv_aload_n hx hb d_10_goesThrough_140 rfl (lv_at hl 0 rfl) ?_
  refine lv_iload_n hx hb d_10_goesThrough_141 rfl (lv_at hl 2 rfl) ?_
  refine lv_iconst (v := (0 : Int32)) hx hb d_10_goesThrough_142 (by decide) ?_
  refine iv_10_37 S hl.1 hG hk_r0 (c_10_of l hk_r0 hf) ⟨Nat.le_of_ble_eq_true rfl, Nat.le_of_ble_eq_true rfl⟩ (Nat.le_of_ble_eq_true rfl) d_10_goesThrough_143 (fun v_2 σ_1 hf H locs hG => ?_)
  refine lv_icmp_ge (tgt := 173) hx hb d_10_goesThrough_146 (by decide) (fun hc => ?_) (fun hc => ?_)
  · have hf := hf.1 hc
    exact w_10_goesThrough_173 S hR hk_r0   hB87 hG (lv_sub hl [0, 1] rfl) hf
  · have hf := hf.2 hc
    refine lv_aload_n hx hb d_10_goesThrough_149 rfl (lv_at hl 0 rfl) ?_
    refine gf_10_154 S hG hk_r0 d_10_goesThrough_150 ?_
    refine lv_if_eq (tgt := 173) hx hb d_10_goesThrough_153 (by decide) (fun hc => ?_) (fun hc => ?_)
    · have hf := hf.1 hc
      exact w_10_goesThrough_173 S hR hk_r0   hB87 hG (lv_sub hl [0, 1] rfl) hf
    · have hf := hf.2 hc
      refine lv_aload_n hx hb d_10_goesThrough_156 rfl (lv_at hl 0 rfl) ?_
      refine lv_aload_n hx hb d_10_goesThrough_157 rfl (lv_at hl 0 rfl) ?_
      refine gf_10_19 S hG hk_r0 d_10_goesThrough_158 ?_
      refine lv_iload_n hx hb d_10_goesThrough_161 rfl (lv_at hl 1 rfl) ?_
      refine mia S hG 33 rfl rfl (kr_10_8 hk_r0) hf.1 d_10_goesThrough_162 ?_
      have hf := hf.2
      refine lv_iload_n hx hb d_10_goesThrough_163 rfl (lv_at hl 3 rfl) ?_
      refine iv_10_173 S hl.1 hG hk_r0 (c_10_sweeps l hk_r0 hf) ⟨Nat.le_of_ble_eq_true rfl, Nat.le_of_ble_eq_true rfl⟩ (Nat.le_of_ble_eq_true rfl) d_10_goesThrough_164 (fun σ_3 hf H locs hG => ?_)
      obtain ⟨x3_5, ex3_5⟩ : ∃ y : Int32, y = x3 + 1 := ⟨_, rfl⟩
      have hf := hf x3_5 ex3_5
      refine lv_iinc (v := x3_5) (lv' := [(3, .int x3_5), (0, .ref (ad r0)), (1, .int x1), (2, .int x2)]) hx hb d_10_goesThrough_167 hl (k := 3) rfl (by rw [ex3_5]; rfl) (by decide) rfl (fun ls hl => ?_)
      refine lv_goto (tgt := 139) hx hb d_10_goesThrough_170 (by decide) ?_
      exact hB139 _ _ _ _ _  hG (lv_sub hl [1, 2, 3, 0] rfl) hf
set_option maxHeartbeats 4000000 in
set_option maxRecDepth 100000 in
theorem lp_10_goesThrough_139 {r0 : Nat} {x1 : Int32} {x2 : Int32} {B87 : Int32 → St → Prop} {Q : St → Prop} (S : SC A D ac st p m c prog_12_method_57_code 4 s args "SweeperRoundsModel" R cells slots 4 97) (hR : RtV A D ac ad p l e R s m args below meth c prog_12_method_57_code cells slots QW Q) (hk_r0 : kd r0 = 10) (hB87 : ∀ (x1 : Int32) (σ : St) (H : Heap) (locs : List Loc) (ls : Array Slot), DG A D ac ad s σ H locs → lv_has ls 4 [(0, .ref (ad r0)), (1, .int x1)] → B87 x1 σ → W p l e R s m args below meth c H locs cells slots QW (F0 m 87 ls [])) : ∀ (n : Nat) (x3 : Int32) (σ : St) (H : Heap) (locs : List Loc) (ls : Array Slot), DG A D ac ad s σ H locs → lv_has ls 4 [(0, .ref (ad r0)), (1, .int x1), (2, .int x2), (3, .int x3)] → itN (m_10_goesThrough_139 r0 x1 x2 B87 Q) (fun _ _ => False) n x3 σ → W p l e R s m args below meth c H locs cells slots QW (F0 m 139 ls []) := by
  intro n
  induction n with
  | zero =>
    intro x3 σ H locs ls  hG hl hf
    exact hf.elim
  | succ n ih =>
    intro x3 σ H locs ls  hG hl hf
    exact w_10_goesThrough_139 S hR hk_r0 hB87 ih hG hl hf
set_option maxHeartbeats 4000000 in
set_option maxRecDepth 100000 in
theorem w_10_goesThrough_87 {r0 : Nat} {Q : St → Prop} {B87 : Int32 → St → Prop} {x1 : Int32} {σ : St} {H : Heap} {locs : List Loc} {ls : Array Slot} (S : SC A D ac st p m c prog_12_method_57_code 4 s args "SweeperRoundsModel" R cells slots 4 97) (hR : RtV A D ac ad p l e R s m args below meth c prog_12_method_57_code cells slots QW Q) (hk_r0 : kd r0 = 10) (hB87 : ∀ (x1 : Int32) (σ : St) (H : Heap) (locs : List Loc) (ls : Array Slot), DG A D ac ad s σ H locs → lv_has ls 4 [(0, .ref (ad r0)), (1, .int x1)] → B87 x1 σ → W p l e R s m args below meth c H locs cells slots QW (F0 m 87 ls [])) (hG : DG A D ac ad s σ H locs) (hl : lv_has ls 4 [(0, .ref (ad r0)), (1, .int x1)]) (hf : m_10_goesThrough_87 r0 Q B87 x1 σ) : W p l e R s m args below meth c H locs cells slots QW (F0 m 87 ls []) := by
  have hx := S.1.1
  have hb := S.1.2.1
  unfold m_10_goesThrough_87 at hf
  refine lv_iload_n hx hb d_10_goesThrough_87 rfl (lv_at hl 1 rfl) ?_
  refine lv_aload_n hx hb d_10_goesThrough_88 rfl (lv_at hl 0 rfl) ?_
  refine gf_10_7 S hG hk_r0 d_10_goesThrough_89 ?_
  refine lv_sipush (v := (507 : Int32)) hx hb d_10_goesThrough_92 (by decide) ?_
  refine mia S hG 30 rfl rfl (kr_10_0 hk_r0) hf.1 d_10_goesThrough_95 ?_
  have hf := hf.2
  refine lv_icmp_ge (tgt := 191) hx hb d_10_goesThrough_96 (by decide) (fun hc => ?_) (fun hc => ?_)
  · have hf := hf.1 hc
    exact w_10_goesThrough_191 S hR hk_r0    hG (lv_sub hl [0, 1] rfl) hf
  · have hf := hf.2 hc
    refine lv_aload_n hx hb d_10_goesThrough_99 rfl (lv_at hl 0 rfl) ?_
    refine gf_10_154 S hG hk_r0 d_10_goesThrough_100 ?_
    refine lv_if_eq (tgt := 191) hx hb d_10_goesThrough_103 (by decide) (fun hc => ?_) (fun hc => ?_)
    · have hf := hf.1 hc
      exact w_10_goesThrough_191 S hR hk_r0    hG (lv_sub hl [0, 1] rfl) hf
    · have hf := hf.2 hc
      refine lv_aload_n hx hb d_10_goesThrough_106 rfl (lv_at hl 0 rfl) ?_
      refine lv_aload_n hx hb d_10_goesThrough_107 rfl (lv_at hl 0 rfl) ?_
      refine gf_10_19 S hG hk_r0 d_10_goesThrough_108 ?_
      refine lv_iload_n hx hb d_10_goesThrough_111 rfl (lv_at hl 1 rfl) ?_
      refine mia S hG 33 rfl rfl (kr_10_8 hk_r0) hf.1 d_10_goesThrough_112 ?_
      have hf := hf.2
      refine lv_iconst (v := (0 : Int32)) hx hb d_10_goesThrough_113 (by decide) ?_
      refine iv_10_69 S hl.1 hG hk_r0 (c_10_legOf l hk_r0 hf) ⟨Nat.le_of_ble_eq_true rfl, Nat.le_of_ble_eq_true rfl⟩ (Nat.le_of_ble_eq_true rfl) d_10_goesThrough_114 (fun v_2 σ_1 hf H locs hG => ?_)
      refine lv_istore_n (lv' := [(2, .int v_2), (0, .ref (ad r0)), (1, .int x1)]) hx hb d_10_goesThrough_117 rfl hl (by decide) rfl (fun ls hl => ?_)
      refine lv_aload_n hx hb d_10_goesThrough_118 rfl (lv_at hl 1 rfl) ?_
      refine lv_aload_n hx hb d_10_goesThrough_119 rfl (lv_at hl 1 rfl) ?_
      refine lv_iload_n hx hb d_10_goesThrough_120 rfl (lv_at hl 0 rfl) ?_
      refine iv_10_170 S hl.1 hG hk_r0 (c_10_drive l hk_r0 hf) ⟨Nat.le_of_ble_eq_true rfl, Nat.le_of_ble_eq_true rfl⟩ (Nat.le_of_ble_eq_true rfl) d_10_goesThrough_121 (fun v_4 σ_3 hf H locs hG => ?_)
      refine lv_iload_n hx hb d_10_goesThrough_124 rfl (lv_at hl 0 rfl) ?_
      refine lv_iconst (v := (1 : Int32)) hx hb d_10_goesThrough_125 (by decide) ?_
      refine iv_10_164 S hl.1 hG hk_r0 (c_10_fits l hk_r0 hf) ⟨Nat.le_of_ble_eq_true rfl, Nat.le_of_ble_eq_true rfl⟩ (Nat.le_of_ble_eq_true rfl) d_10_goesThrough_126 (fun v_6 σ_5 hf H locs hG => ?_)
      refine lv_if_eq (tgt := 173) hx hb d_10_goesThrough_129 (by decide) (fun hc => ?_) (fun hc => ?_)
      · have hf := hf.1 hc
        exact w_10_goesThrough_173 S hR hk_r0   hB87 hG (lv_sub hl [1, 2] rfl) hf
      · have hf := hf.2 hc
        refine lv_aload_n hx hb d_10_goesThrough_132 rfl (lv_at hl 1 rfl) ?_
        refine lv_iload_n hx hb d_10_goesThrough_133 rfl (lv_at hl 0 rfl) ?_
        refine pf_10_161 S hG hk_r0 d_10_goesThrough_134 (fun σ_7 eσ_7 H locs hG => ?_)
        have hf := hf σ_7 eσ_7
        refine lv_iconst (v := (0 : Int32)) hx hb d_10_goesThrough_137 (by decide) ?_
        refine lv_istore_n (lv' := [(3, .int (0 : Int32)), (2, .int v_2), (0, .ref (ad r0)), (1, .int x1)]) hx hb d_10_goesThrough_138 rfl hl (by decide) rfl (fun ls hl => ?_)
        exact lp_10_goesThrough_139 S hR hk_r0 hB87 FU _ _ _ _ _  hG (lv_sub hl [2, 3, 1, 0] rfl) hf
set_option maxHeartbeats 4000000 in
set_option maxRecDepth 100000 in
theorem lp_10_goesThrough_87 {r0 : Nat} {Q : St → Prop} (S : SC A D ac st p m c prog_12_method_57_code 4 s args "SweeperRoundsModel" R cells slots 4 97) (hR : RtV A D ac ad p l e R s m args below meth c prog_12_method_57_code cells slots QW Q) (hk_r0 : kd r0 = 10) : ∀ (n : Nat) (x1 : Int32) (σ : St) (H : Heap) (locs : List Loc) (ls : Array Slot), DG A D ac ad s σ H locs → lv_has ls 4 [(0, .ref (ad r0)), (1, .int x1)] → itN (m_10_goesThrough_87 r0 Q) (fun _ _ => False) n x1 σ → W p l e R s m args below meth c H locs cells slots QW (F0 m 87 ls []) := by
  intro n
  induction n with
  | zero =>
    intro x1 σ H locs ls  hG hl hf
    exact hf.elim
  | succ n ih =>
    intro x1 σ H locs ls  hG hl hf
    exact w_10_goesThrough_87 S hR hk_r0  ih hG hl hf
set_option maxHeartbeats 4000000 in
set_option maxRecDepth 100000 in
theorem w_10_goesThrough_27 {r0 : Nat} {Q : St → Prop} {B27 : Int32 → St → Prop} {x1 : Int32} {σ : St} {H : Heap} {locs : List Loc} {ls : Array Slot} (S : SC A D ac st p m c prog_12_method_57_code 4 s args "SweeperRoundsModel" R cells slots 4 97) (hR : RtV A D ac ad p l e R s m args below meth c prog_12_method_57_code cells slots QW Q) (hk_r0 : kd r0 = 10) (hB27 : ∀ (x1 : Int32) (σ : St) (H : Heap) (locs : List Loc) (ls : Array Slot), DG A D ac ad s σ H locs → lv_has ls 4 [(0, .ref (ad r0)), (1, .int x1)] → B27 x1 σ → W p l e R s m args below meth c H locs cells slots QW (F0 m 27 ls [])) (hG : DG A D ac ad s σ H locs) (hl : lv_has ls 4 [(0, .ref (ad r0)), (1, .int x1)]) (hf : m_10_goesThrough_27 r0 Q B27 x1 σ) : W p l e R s m args below meth c H locs cells slots QW (F0 m 27 ls []) := by
  have hx := S.1.1
  have hb := S.1.2.1
  unfold m_10_goesThrough_27 at hf
  refine lv_iload_n hx hb d_10_goesThrough_27 rfl (lv_at hl 1 rfl) ?_
  refine lv_aload_n hx hb d_10_goesThrough_28 rfl (lv_at hl 0 rfl) ?_
  refine gf_10_7 S hG hk_r0 d_10_goesThrough_29 ?_
  refine lv_sipush (v := (507 : Int32)) hx hb d_10_goesThrough_32 (by decide) ?_
  refine mia S hG 30 rfl rfl (kr_10_0 hk_r0) hf.1 d_10_goesThrough_35 ?_
  have hf := hf.2
  refine lv_icmp_ge (tgt := 75) hx hb d_10_goesThrough_36 (by decide) (fun hc => ?_) (fun hc => ?_)
  · have hf := hf.1 hc
    refine lv_aload_n hx hb d_10_goesThrough_75 rfl (lv_at hl 0 rfl) ?_
    refine lv_iconst (v := (-1 : Int32)) hx hb d_10_goesThrough_76 (by decide) ?_
    refine pf_10_161 S hG hk_r0 d_10_goesThrough_77 (fun σ_1 eσ_1 H locs hG => ?_)
    have hf := hf σ_1 eσ_1
    refine lv_aload_n hx hb d_10_goesThrough_80 rfl (lv_at hl 0 rfl) ?_
    refine lv_iconst (v := (1 : Int32)) hx hb d_10_goesThrough_81 (by decide) ?_
    refine pf_10_154 S hG hk_r0 (by unfold isB; decide) d_10_goesThrough_82 (fun σ_2 eσ_2 H locs hG => ?_)
    have hf := hf σ_2 eσ_2
    refine lv_iconst (v := (0 : Int32)) hx hb d_10_goesThrough_85 (by decide) ?_
    refine lv_istore_n (lv' := [(1, .int (0 : Int32)), (0, .ref (ad r0))]) hx hb d_10_goesThrough_86 rfl hl (by decide) rfl (fun ls hl => ?_)
    exact lp_10_goesThrough_87 S hR hk_r0  FU _ _ _ _ _  hG (lv_sub hl [1, 0] rfl) hf
  · have hf := hf.2 hc
    refine lv_aload_n hx hb d_10_goesThrough_39 rfl (lv_at hl 0 rfl) ?_
    refine gf_10_7 S hG hk_r0 d_10_goesThrough_40 ?_
    refine lv_sipush (v := (508 : Int32)) hx hb d_10_goesThrough_43 (by decide) ?_
    refine lv_iconst (v := (4 : Int32)) hx hb d_10_goesThrough_46 (by decide) ?_
    refine lv_iload_n hx hb d_10_goesThrough_47 rfl (lv_at hl 1 rfl) ?_
    refine lv_imul hx hb d_10_goesThrough_48 ?_
    refine lv_iadd hx hb d_10_goesThrough_49 ?_
    refine lv_iconst (v := (2 : Int32)) hx hb d_10_goesThrough_50 (by decide) ?_
    refine lv_iadd hx hb d_10_goesThrough_51 ?_
    refine lv_iconst (v := (0 : Int32)) hx hb d_10_goesThrough_52 (by decide) ?_
    refine mis S hG 30 rfl rfl (kr_10_0 hk_r0) hf.1 d_10_goesThrough_53 (fun σ_3 eσ_3 H locs hG => ?_)
    have hf := hf.2 σ_3 eσ_3
    refine lv_aload_n hx hb d_10_goesThrough_54 rfl (lv_at hl 0 rfl) ?_
    refine gf_10_7 S hG hk_r0 d_10_goesThrough_55 ?_
    refine lv_sipush (v := (508 : Int32)) hx hb d_10_goesThrough_58 (by decide) ?_
    refine lv_iconst (v := (4 : Int32)) hx hb d_10_goesThrough_61 (by decide) ?_
    refine lv_iload_n hx hb d_10_goesThrough_62 rfl (lv_at hl 1 rfl) ?_
    refine lv_imul hx hb d_10_goesThrough_63 ?_
    refine lv_iadd hx hb d_10_goesThrough_64 ?_
    refine lv_iconst (v := (3 : Int32)) hx hb d_10_goesThrough_65 (by decide) ?_
    refine lv_iadd hx hb d_10_goesThrough_66 ?_
    refine lv_iconst (v := (0 : Int32)) hx hb d_10_goesThrough_67 (by decide) ?_
    refine mis S hG 30 rfl rfl (kr_10_0 hk_r0) hf.1 d_10_goesThrough_68 (fun σ_4 eσ_4 H locs hG => ?_)
    have hf := hf.2 σ_4 eσ_4
    obtain ⟨x1_5, ex1_5⟩ : ∃ y : Int32, y = x1 + 1 := ⟨_, rfl⟩
    have hf := hf x1_5 ex1_5
    refine lv_iinc (v := x1_5) (lv' := [(1, .int x1_5), (0, .ref (ad r0))]) hx hb d_10_goesThrough_69 hl (k := 1) rfl (by rw [ex1_5]; rfl) (by decide) rfl (fun ls hl => ?_)
    refine lv_goto (tgt := 27) hx hb d_10_goesThrough_72 (by decide) ?_
    exact hB27 _ _ _ _ _  hG (lv_sub hl [1, 0] rfl) hf
set_option maxHeartbeats 4000000 in
set_option maxRecDepth 100000 in
theorem lp_10_goesThrough_27 {r0 : Nat} {Q : St → Prop} (S : SC A D ac st p m c prog_12_method_57_code 4 s args "SweeperRoundsModel" R cells slots 4 97) (hR : RtV A D ac ad p l e R s m args below meth c prog_12_method_57_code cells slots QW Q) (hk_r0 : kd r0 = 10) : ∀ (n : Nat) (x1 : Int32) (σ : St) (H : Heap) (locs : List Loc) (ls : Array Slot), DG A D ac ad s σ H locs → lv_has ls 4 [(0, .ref (ad r0)), (1, .int x1)] → itN (m_10_goesThrough_27 r0 Q) (fun _ _ => False) n x1 σ → W p l e R s m args below meth c H locs cells slots QW (F0 m 27 ls []) := by
  intro n
  induction n with
  | zero =>
    intro x1 σ H locs ls  hG hl hf
    exact hf.elim
  | succ n ih =>
    intro x1 σ H locs ls  hG hl hf
    exact w_10_goesThrough_27 S hR hk_r0  ih hG hl hf
set_option maxHeartbeats 4000000 in
set_option maxRecDepth 100000 in
theorem w_10_goesThrough_2 {r0 : Nat} {Q : St → Prop} {B2 : Int32 → St → Prop} {x1 : Int32} {σ : St} {H : Heap} {locs : List Loc} {ls : Array Slot} (S : SC A D ac st p m c prog_12_method_57_code 4 s args "SweeperRoundsModel" R cells slots 4 97) (hR : RtV A D ac ad p l e R s m args below meth c prog_12_method_57_code cells slots QW Q) (hk_r0 : kd r0 = 10) (hB2 : ∀ (x1 : Int32) (σ : St) (H : Heap) (locs : List Loc) (ls : Array Slot), DG A D ac ad s σ H locs → lv_has ls 4 [(0, .ref (ad r0)), (1, .int x1)] → B2 x1 σ → W p l e R s m args below meth c H locs cells slots QW (F0 m 2 ls [])) (hG : DG A D ac ad s σ H locs) (hl : lv_has ls 4 [(0, .ref (ad r0)), (1, .int x1)]) (hf : m_10_goesThrough_2 r0 Q B2 x1 σ) : W p l e R s m args below meth c H locs cells slots QW (F0 m 2 ls []) := by
  have hx := S.1.1
  have hb := S.1.2.1
  unfold m_10_goesThrough_2 at hf
  refine lv_iload_n hx hb d_10_goesThrough_2 rfl (lv_at hl 1 rfl) ?_
  refine lv_bipush (v := (6 : Int32)) hx hb d_10_goesThrough_3 (by decide) ?_
  refine lv_icmp_ge (tgt := 25) hx hb d_10_goesThrough_5 (by decide) (fun hc => ?_) (fun hc => ?_)
  · have hf := hf.1 hc
    refine lv_iconst (v := (0 : Int32)) hx hb d_10_goesThrough_25 (by decide) ?_
    refine lv_istore_n (lv' := [(1, .int (0 : Int32)), (0, .ref (ad r0))]) hx hb d_10_goesThrough_26 rfl hl (by decide) rfl (fun ls hl => ?_)
    exact lp_10_goesThrough_27 S hR hk_r0  FU _ _ _ _ _  hG (lv_sub hl [1, 0] rfl) hf
  · have hf := hf.2 hc
    refine lv_aload_n hx hb d_10_goesThrough_8 rfl (lv_at hl 0 rfl) ?_
    refine gf_10_7 S hG hk_r0 d_10_goesThrough_9 ?_
    refine lv_sipush (v := (549 : Int32)) hx hb d_10_goesThrough_12 (by decide) ?_
    refine lv_iload_n hx hb d_10_goesThrough_15 rfl (lv_at hl 1 rfl) ?_
    refine lv_iadd hx hb d_10_goesThrough_16 ?_
    refine lv_iconst (v := (0 : Int32)) hx hb d_10_goesThrough_17 (by decide) ?_
    refine mis S hG 30 rfl rfl (kr_10_0 hk_r0) hf.1 d_10_goesThrough_18 (fun σ_1 eσ_1 H locs hG => ?_)
    have hf := hf.2 σ_1 eσ_1
    obtain ⟨x1_2, ex1_2⟩ : ∃ y : Int32, y = x1 + 1 := ⟨_, rfl⟩
    have hf := hf x1_2 ex1_2
    refine lv_iinc (v := x1_2) (lv' := [(1, .int x1_2), (0, .ref (ad r0))]) hx hb d_10_goesThrough_19 hl (k := 1) rfl (by rw [ex1_2]; rfl) (by decide) rfl (fun ls hl => ?_)
    refine lv_goto (tgt := 2) hx hb d_10_goesThrough_22 (by decide) ?_
    exact hB2 _ _ _ _ _  hG (lv_sub hl [1, 0] rfl) hf
set_option maxHeartbeats 4000000 in
set_option maxRecDepth 100000 in
theorem lp_10_goesThrough_2 {r0 : Nat} {Q : St → Prop} (S : SC A D ac st p m c prog_12_method_57_code 4 s args "SweeperRoundsModel" R cells slots 4 97) (hR : RtV A D ac ad p l e R s m args below meth c prog_12_method_57_code cells slots QW Q) (hk_r0 : kd r0 = 10) : ∀ (n : Nat) (x1 : Int32) (σ : St) (H : Heap) (locs : List Loc) (ls : Array Slot), DG A D ac ad s σ H locs → lv_has ls 4 [(0, .ref (ad r0)), (1, .int x1)] → itN (m_10_goesThrough_2 r0 Q) (fun _ _ => False) n x1 σ → W p l e R s m args below meth c H locs cells slots QW (F0 m 2 ls []) := by
  intro n
  induction n with
  | zero =>
    intro x1 σ H locs ls  hG hl hf
    exact hf.elim
  | succ n ih =>
    intro x1 σ H locs ls  hG hl hf
    exact w_10_goesThrough_2 S hR hk_r0  ih hG hl hf
set_option maxHeartbeats 4000000 in
set_option maxRecDepth 100000 in
theorem w_10_goesThrough_0 {r0 : Nat} {Q : St → Prop} {σ : St} {H : Heap} {locs : List Loc} {ls : Array Slot} (S : SC A D ac st p m c prog_12_method_57_code 4 s args "SweeperRoundsModel" R cells slots 4 97) (hR : RtV A D ac ad p l e R s m args below meth c prog_12_method_57_code cells slots QW Q) (hk_r0 : kd r0 = 10) (hG : DG A D ac ad s σ H locs) (hl : lv_has ls 4 [(0, .ref (ad r0))]) (hf : m_10_goesThrough r0 Q σ) : W p l e R s m args below meth c H locs cells slots QW (F0 m 0 ls []) := by
  have hx := S.1.1
  have hb := S.1.2.1
  unfold m_10_goesThrough at hf
  refine lv_iconst (v := (0 : Int32)) hx hb d_10_goesThrough_0 (by decide) ?_
  refine lv_istore_n (lv' := [(1, .int (0 : Int32)), (0, .ref (ad r0))]) hx hb d_10_goesThrough_1 rfl hl (by decide) rfl (fun ls hl => ?_)
  exact lp_10_goesThrough_2 S hR hk_r0  FU _ _ _ _ _  hG (lv_sub hl [1, 0] rfl) hf
theorem c_10_goesThrough (l : Launch) {D : va_G} {ac : Nat → ClassId} {ad st : Nat → Nat} {A : Nat → Prop} {σ : St} {r0 : Nat} {Q : St → Prop} (hk_r0 : kd r0 = 10) (hf : m_10_goesThrough r0 Q σ) : Met l y_10_goesThrough (Cond.code y_10_goesThrough prog_12_method_57_code 4 none :: wA) { frames := 4, cells := 0, slots := 0, locals := 97 } (va_Pc [.ref (ad r0)] (GSt A D ac ad st σ)) (va_Qv Q (GSt A D ac ad st) A) 0 0 A :=
  mkV l (by decide +kernel) rfl [.ref (ad r0)] (Nat.le_of_ble_eq_true rfl) (fun p e s m args below meth c ls QW S hR hG hl => w_10_goesThrough_0 S hR hk_r0 hG hl hf)
end MB
