theorem d_10_laysOrder_0 : decode prog_12_method_58_code 0 = .ok (.iconst 0, 1) := by decide +kernel
theorem d_10_laysOrder_1 : decode prog_12_method_58_code 1 = .ok (.istore_n 1, 1) := by decide +kernel
theorem d_10_laysOrder_2 : decode prog_12_method_58_code 2 = .ok (.iload_n 1, 1) := by decide +kernel
theorem d_10_laysOrder_3 : decode prog_12_method_58_code 3 = .ok (.bipush 10, 2) := by decide +kernel
theorem d_10_laysOrder_5 : decode prog_12_method_58_code 5 = .ok (.if_icmp .ge 16, 3) := by decide +kernel
theorem d_10_laysOrder_8 : decode prog_12_method_58_code 8 = .ok (.aload_n 0, 1) := by decide +kernel
theorem d_10_laysOrder_9 : decode prog_12_method_58_code 9 = .ok (.getfield 19, 3) := by decide +kernel
theorem d_10_laysOrder_12 : decode prog_12_method_58_code 12 = .ok (.iload_n 1, 1) := by decide +kernel
theorem d_10_laysOrder_13 : decode prog_12_method_58_code 13 = .ok (.iload_n 1, 1) := by decide +kernel
theorem d_10_laysOrder_14 : decode prog_12_method_58_code 14 = .ok (.iastore, 1) := by decide +kernel
theorem d_10_laysOrder_15 : decode prog_12_method_58_code 15 = .ok (.iinc 1 1, 3) := by decide +kernel
theorem d_10_laysOrder_18 : decode prog_12_method_58_code 18 = .ok (.goto (-16), 3) := by decide +kernel
theorem d_10_laysOrder_21 : decode prog_12_method_58_code 21 = .ok (.return_, 1) := by decide +kernel
def m_10_laysOrder_2 (r0 : Nat) (Q : St → Prop) (B2 : Int32 → St → Prop) (x1 : Int32) (σ : St) : Prop :=
  (((10 : Int32) ≤ x1 → Q σ) ∧ (¬ (10 : Int32) ≤ x1 → vp_in x1 10 ∧ ∀ σ_1 : St, σ_1 = wr σ (r0 + 4) (x1).toNatClampNeg x1 → ∀ x1_2 : Int32, x1_2 = x1 + 1 → B2 x1_2 σ_1))
def m_10_laysOrder (r0 : Nat) (Q : St → Prop) (σ : St) : Prop :=
  itN (m_10_laysOrder_2 r0 Q) (fun _ _ => False) FU (0 : Int32) σ
theorem d_10_shift_0 : decode prog_12_method_59_code 0 = .ok (.aload_n 0, 1) := by decide +kernel
theorem d_10_shift_1 : decode prog_12_method_59_code 1 = .ok (.invokevirtual 56, 3) := by decide +kernel
theorem d_10_shift_4 : decode prog_12_method_59_code 4 = .ok (.aload_n 0, 1) := by decide +kernel
theorem d_10_shift_5 : decode prog_12_method_59_code 5 = .ok (.invokevirtual 176, 3) := by decide +kernel
theorem d_10_shift_8 : decode prog_12_method_59_code 8 = .ok (.aload_n 0, 1) := by decide +kernel
theorem d_10_shift_9 : decode prog_12_method_59_code 9 = .ok (.invokevirtual 179, 3) := by decide +kernel
theorem d_10_shift_12 : decode prog_12_method_59_code 12 = .ok (.aload_n 0, 1) := by decide +kernel
theorem d_10_shift_13 : decode prog_12_method_59_code 13 = .ok (.iconst 3, 1) := by decide +kernel
theorem d_10_shift_14 : decode prog_12_method_59_code 14 = .ok (.invokevirtual 148, 3) := by decide +kernel
theorem d_10_shift_17 : decode prog_12_method_59_code 17 = .ok (.ireturn, 1) := by decide +kernel
def m_10_shift (r0 : Nat) (Q : Int32 → St → Prop) (σ : St) : Prop :=
  m_10_records r0 (fun (σ_1 : St) => m_10_laysOrder r0 (fun (σ_3 : St) => m_10_goesThrough r0 (fun (σ_5 : St) => m_10_latestOf r0 (3 : Int32) (fun (v_8 : Int32) (σ_7 : St) => Q v_8 σ_7) σ_5) σ_3) σ_1) σ
theorem d_10_latest_0 : decode prog_12_method_60_code 0 = .ok (.iload_n 1, 1) := by decide +kernel
theorem d_10_latest_1 : decode prog_12_method_60_code 1 = .ok (.iconst 0, 1) := by decide +kernel
theorem d_10_latest_2 : decode prog_12_method_60_code 2 = .ok (.iconst 5, 1) := by decide +kernel
theorem d_10_latest_3 : decode prog_12_method_60_code 3 = .ok (.invokestatic 40, 3) := by decide +kernel
theorem d_10_latest_6 : decode prog_12_method_60_code 6 = .ok (.ifCond .ne 5, 3) := by decide +kernel
theorem d_10_latest_9 : decode prog_12_method_60_code 9 = .ok (.iconst (-1), 1) := by decide +kernel
theorem d_10_latest_10 : decode prog_12_method_60_code 10 = .ok (.ireturn, 1) := by decide +kernel
theorem d_10_latest_11 : decode prog_12_method_60_code 11 = .ok (.aload_n 0, 1) := by decide +kernel
theorem d_10_latest_12 : decode prog_12_method_60_code 12 = .ok (.getfield 7, 3) := by decide +kernel
theorem d_10_latest_15 : decode prog_12_method_60_code 15 = .ok (.sipush 555, 3) := by decide +kernel
theorem d_10_latest_18 : decode prog_12_method_60_code 18 = .ok (.iaload, 1) := by decide +kernel
theorem d_10_latest_19 : decode prog_12_method_60_code 19 = .ok (.ifCond .ne 8, 3) := by decide +kernel
theorem d_10_latest_22 : decode prog_12_method_60_code 22 = .ok (.bipush (-9), 2) := by decide +kernel
theorem d_10_latest_24 : decode prog_12_method_60_code 24 = .ok (.goto 8, 3) := by decide +kernel
theorem d_10_latest_27 : decode prog_12_method_60_code 27 = .ok (.aload_n 0, 1) := by decide +kernel
theorem d_10_latest_28 : decode prog_12_method_60_code 28 = .ok (.iload_n 1, 1) := by decide +kernel
theorem d_10_latest_29 : decode prog_12_method_60_code 29 = .ok (.invokevirtual 148, 3) := by decide +kernel
theorem d_10_latest_32 : decode prog_12_method_60_code 32 = .ok (.ireturn, 1) := by decide +kernel
def m_10_latest (r0 : Nat) (x1 : Int32) (Q : Int32 → St → Prop) (σ : St) : Prop :=
  m_10_in x1 (0 : Int32) (5 : Int32) (fun (v_2 : Int32) (σ_1 : St) => ((¬ v_2 = 0 → vp_in (555 : Int32) 5640 ∧ ((¬ (σ_1.1 (r0 + 1) ((555 : Int32)).toNatClampNeg) = 0 → m_10_latestOf r0 x1 (fun (v_4 : Int32) (σ_3 : St) => Q v_4 σ_3) σ_1) ∧ ((σ_1.1 (r0 + 1) ((555 : Int32)).toNatClampNeg) = 0 → Q (-9 : Int32) σ_1))) ∧ (v_2 = 0 → Q (-1 : Int32) σ_1))) σ
theorem d_10_onStreets_0 : decode prog_12_method_61_code 0 = .ok (.iconst 0, 1) := by decide +kernel
theorem d_10_onStreets_1 : decode prog_12_method_61_code 1 = .ok (.istore_n 1, 1) := by decide +kernel
theorem d_10_onStreets_2 : decode prog_12_method_61_code 2 = .ok (.iconst 0, 1) := by decide +kernel
theorem d_10_onStreets_3 : decode prog_12_method_61_code 3 = .ok (.istore_n 2, 1) := by decide +kernel
theorem d_10_onStreets_4 : decode prog_12_method_61_code 4 = .ok (.iload_n 2, 1) := by decide +kernel
theorem d_10_onStreets_5 : decode prog_12_method_61_code 5 = .ok (.aload_n 0, 1) := by decide +kernel
theorem d_10_onStreets_6 : decode prog_12_method_61_code 6 = .ok (.getfield 7, 3) := by decide +kernel
theorem d_10_onStreets_9 : decode prog_12_method_61_code 9 = .ok (.iconst 0, 1) := by decide +kernel
theorem d_10_onStreets_10 : decode prog_12_method_61_code 10 = .ok (.iaload, 1) := by decide +kernel
theorem d_10_onStreets_11 : decode prog_12_method_61_code 11 = .ok (.if_icmp .ge 25, 3) := by decide +kernel
theorem d_10_onStreets_14 : decode prog_12_method_61_code 14 = .ok (.iload_n 1, 1) := by decide +kernel
theorem d_10_onStreets_15 : decode prog_12_method_61_code 15 = .ok (.aload_n 0, 1) := by decide +kernel
theorem d_10_onStreets_16 : decode prog_12_method_61_code 16 = .ok (.iload_n 2, 1) := by decide +kernel
theorem d_10_onStreets_17 : decode prog_12_method_61_code 17 = .ok (.iconst 0, 1) := by decide +kernel
theorem d_10_onStreets_18 : decode prog_12_method_61_code 18 = .ok (.invokevirtual 63, 3) := by decide +kernel
theorem d_10_onStreets_21 : decode prog_12_method_61_code 21 = .ok (.aload_n 0, 1) := by decide +kernel
theorem d_10_onStreets_22 : decode prog_12_method_61_code 22 = .ok (.iload_n 2, 1) := by decide +kernel
theorem d_10_onStreets_23 : decode prog_12_method_61_code 23 = .ok (.iconst 1, 1) := by decide +kernel
theorem d_10_onStreets_24 : decode prog_12_method_61_code 24 = .ok (.invokevirtual 63, 3) := by decide +kernel
theorem d_10_onStreets_27 : decode prog_12_method_61_code 27 = .ok (.iadd, 1) := by decide +kernel
theorem d_10_onStreets_28 : decode prog_12_method_61_code 28 = .ok (.iadd, 1) := by decide +kernel
theorem d_10_onStreets_29 : decode prog_12_method_61_code 29 = .ok (.istore_n 1, 1) := by decide +kernel
theorem d_10_onStreets_30 : decode prog_12_method_61_code 30 = .ok (.iinc 2 1, 3) := by decide +kernel
theorem d_10_onStreets_33 : decode prog_12_method_61_code 33 = .ok (.goto (-29), 3) := by decide +kernel
theorem d_10_onStreets_36 : decode prog_12_method_61_code 36 = .ok (.iload_n 1, 1) := by decide +kernel
theorem d_10_onStreets_37 : decode prog_12_method_61_code 37 = .ok (.ireturn, 1) := by decide +kernel
def m_10_onStreets_4 (r0 : Nat) (Q : Int32 → St → Prop) (B4 : Int32 → Int32 → St → Prop) (x1 : Int32) (x2 : Int32) (σ : St) : Prop :=
  vp_in (0 : Int32) 5640 ∧ (((σ.1 (r0 + 1) ((0 : Int32)).toNatClampNeg) ≤ x2 → Q x1 σ) ∧ (¬ (σ.1 (r0 + 1) ((0 : Int32)).toNatClampNeg) ≤ x2 → m_10_sideSum r0 x2 (0 : Int32) (fun (v_2 : Int32) (σ_1 : St) => m_10_sideSum r0 x2 (1 : Int32) (fun (v_4 : Int32) (σ_3 : St) => ∀ x1_5 : Int32, x1_5 = (x1 + (v_2 + v_4)) → ∀ x2_6 : Int32, x2_6 = x2 + 1 → B4 x1_5 x2_6 σ_3) σ_1) σ))
def m_10_onStreets (r0 : Nat) (Q : Int32 → St → Prop) (σ : St) : Prop :=
  itN (m_10_onStreets_4 r0 Q) (fun _ _ _ => False) FU (0 : Int32) (0 : Int32) σ
theorem d_10_falls_0 : decode prog_12_method_62_code 0 = .ok (.aload_n 0, 1) := by decide +kernel
theorem d_10_falls_1 : decode prog_12_method_62_code 1 = .ok (.iload_n 1, 1) := by decide +kernel
theorem d_10_falls_2 : decode prog_12_method_62_code 2 = .ok (.iconst 2, 1) := by decide +kernel
theorem d_10_falls_3 : decode prog_12_method_62_code 3 = .ok (.invokevirtual 37, 3) := by decide +kernel
theorem d_10_falls_6 : decode prog_12_method_62_code 6 = .ok (.aload_n 0, 1) := by decide +kernel
theorem d_10_falls_7 : decode prog_12_method_62_code 7 = .ok (.getfield 7, 3) := by decide +kernel
theorem d_10_falls_10 : decode prog_12_method_62_code 10 = .ok (.sipush 504, 3) := by decide +kernel
theorem d_10_falls_13 : decode prog_12_method_62_code 13 = .ok (.iaload, 1) := by decide +kernel
theorem d_10_falls_14 : decode prog_12_method_62_code 14 = .ok (.imul, 1) := by decide +kernel
theorem d_10_falls_15 : decode prog_12_method_62_code 15 = .ok (.bipush 100, 2) := by decide +kernel
theorem d_10_falls_17 : decode prog_12_method_62_code 17 = .ok (.idiv, 1) := by decide +kernel
theorem d_10_falls_18 : decode prog_12_method_62_code 18 = .ok (.istore_n 2, 1) := by decide +kernel
theorem d_10_falls_19 : decode prog_12_method_62_code 19 = .ok (.iconst 0, 1) := by decide +kernel
theorem d_10_falls_20 : decode prog_12_method_62_code 20 = .ok (.istore_n 3, 1) := by decide +kernel
theorem d_10_falls_21 : decode prog_12_method_62_code 21 = .ok (.iload_n 3, 1) := by decide +kernel
theorem d_10_falls_22 : decode prog_12_method_62_code 22 = .ok (.iconst 2, 1) := by decide +kernel
theorem d_10_falls_23 : decode prog_12_method_62_code 23 = .ok (.aload_n 0, 1) := by decide +kernel
theorem d_10_falls_24 : decode prog_12_method_62_code 24 = .ok (.iload_n 1, 1) := by decide +kernel
theorem d_10_falls_25 : decode prog_12_method_62_code 25 = .ok (.iconst 0, 1) := by decide +kernel
theorem d_10_falls_26 : decode prog_12_method_62_code 26 = .ok (.invokevirtual 37, 3) := by decide +kernel
theorem d_10_falls_29 : decode prog_12_method_62_code 29 = .ok (.imul, 1) := by decide +kernel
theorem d_10_falls_30 : decode prog_12_method_62_code 30 = .ok (.if_icmp .ge 74, 3) := by decide +kernel
theorem d_10_falls_33 : decode prog_12_method_62_code 33 = .ok (.aload_n 0, 1) := by decide +kernel
theorem d_10_falls_34 : decode prog_12_method_62_code 34 = .ok (.iload_n 1, 1) := by decide +kernel
theorem d_10_falls_35 : decode prog_12_method_62_code 35 = .ok (.iload_n 3, 1) := by decide +kernel
theorem d_10_falls_36 : decode prog_12_method_62_code 36 = .ok (.iconst 2, 1) := by decide +kernel
theorem d_10_falls_37 : decode prog_12_method_62_code 37 = .ok (.irem, 1) := by decide +kernel
theorem d_10_falls_38 : decode prog_12_method_62_code 38 = .ok (.iload_n 3, 1) := by decide +kernel
theorem d_10_falls_39 : decode prog_12_method_62_code 39 = .ok (.iconst 2, 1) := by decide +kernel
theorem d_10_falls_40 : decode prog_12_method_62_code 40 = .ok (.idiv, 1) := by decide +kernel
theorem d_10_falls_41 : decode prog_12_method_62_code 41 = .ok (.invokevirtual 48, 3) := by decide +kernel
theorem d_10_falls_44 : decode prog_12_method_62_code 44 = .ok (.iload_n 2, 1) := by decide +kernel
theorem d_10_falls_45 : decode prog_12_method_62_code 45 = .ok (.iadd, 1) := by decide +kernel
theorem d_10_falls_46 : decode prog_12_method_62_code 46 = .ok (.istore 4, 2) := by decide +kernel
theorem d_10_falls_48 : decode prog_12_method_62_code 48 = .ok (.aload_n 0, 1) := by decide +kernel
theorem d_10_falls_49 : decode prog_12_method_62_code 49 = .ok (.iconst 1, 1) := by decide +kernel
theorem d_10_falls_50 : decode prog_12_method_62_code 50 = .ok (.iload_n 2, 1) := by decide +kernel
theorem d_10_falls_51 : decode prog_12_method_62_code 51 = .ok (.invokevirtual 66, 3) := by decide +kernel
theorem d_10_falls_54 : decode prog_12_method_62_code 54 = .ok (.aload_n 0, 1) := by decide +kernel
theorem d_10_falls_55 : decode prog_12_method_62_code 55 = .ok (.iconst 3, 1) := by decide +kernel
theorem d_10_falls_56 : decode prog_12_method_62_code 56 = .ok (.iload 4, 2) := by decide +kernel
theorem d_10_falls_58 : decode prog_12_method_62_code 58 = .ok (.bipush 99, 2) := by decide +kernel
theorem d_10_falls_60 : decode prog_12_method_62_code 60 = .ok (.if_icmp .le 11, 3) := by decide +kernel
theorem d_10_falls_63 : decode prog_12_method_62_code 63 = .ok (.iload 4, 2) := by decide +kernel
theorem d_10_falls_65 : decode prog_12_method_62_code 65 = .ok (.bipush 99, 2) := by decide +kernel
theorem d_10_falls_67 : decode prog_12_method_62_code 67 = .ok (.isub, 1) := by decide +kernel
theorem d_10_falls_68 : decode prog_12_method_62_code 68 = .ok (.goto 4, 3) := by decide +kernel
theorem d_10_falls_71 : decode prog_12_method_62_code 71 = .ok (.iconst 0, 1) := by decide +kernel
theorem d_10_falls_72 : decode prog_12_method_62_code 72 = .ok (.invokevirtual 66, 3) := by decide +kernel
theorem d_10_falls_75 : decode prog_12_method_62_code 75 = .ok (.aload_n 0, 1) := by decide +kernel
theorem d_10_falls_76 : decode prog_12_method_62_code 76 = .ok (.iload_n 1, 1) := by decide +kernel
theorem d_10_falls_77 : decode prog_12_method_62_code 77 = .ok (.iconst 3, 1) := by decide +kernel
theorem d_10_falls_78 : decode prog_12_method_62_code 78 = .ok (.iload_n 3, 1) := by decide +kernel
theorem d_10_falls_79 : decode prog_12_method_62_code 79 = .ok (.iconst 2, 1) := by decide +kernel
theorem d_10_falls_80 : decode prog_12_method_62_code 80 = .ok (.irem, 1) := by decide +kernel
theorem d_10_falls_81 : decode prog_12_method_62_code 81 = .ok (.iload_n 3, 1) := by decide +kernel
theorem d_10_falls_82 : decode prog_12_method_62_code 82 = .ok (.iconst 2, 1) := by decide +kernel
theorem d_10_falls_83 : decode prog_12_method_62_code 83 = .ok (.idiv, 1) := by decide +kernel
theorem d_10_falls_84 : decode prog_12_method_62_code 84 = .ok (.invokestatic 33, 3) := by decide +kernel
theorem d_10_falls_87 : decode prog_12_method_62_code 87 = .ok (.iadd, 1) := by decide +kernel
theorem d_10_falls_88 : decode prog_12_method_62_code 88 = .ok (.iload 4, 2) := by decide +kernel
theorem d_10_falls_90 : decode prog_12_method_62_code 90 = .ok (.bipush 99, 2) := by decide +kernel
theorem d_10_falls_92 : decode prog_12_method_62_code 92 = .ok (.invokestatic 129, 3) := by decide +kernel
theorem d_10_falls_95 : decode prog_12_method_62_code 95 = .ok (.invokevirtual 52, 3) := by decide +kernel
theorem d_10_falls_98 : decode prog_12_method_62_code 98 = .ok (.iinc 3 1, 3) := by decide +kernel
theorem d_10_falls_101 : decode prog_12_method_62_code 101 = .ok (.goto (-80), 3) := by decide +kernel
theorem d_10_falls_104 : decode prog_12_method_62_code 104 = .ok (.return_, 1) := by decide +kernel
def m_10_falls_72 (r0 : Nat) (x1 : Int32) (x2 : Int32) (x3 : Int32) (x4 : Int32) (B21 : Int32 → St → Prop) (Q : St → Prop) (t0 : Int32) (t1 : Int32) (t2 : Nat) (σ : St) : Prop :=
  m_10_books t2 t1 t0 (fun (σ_1 : St) => m_10_placeOf (x3 - x3 / (2 : Int32) * (2 : Int32)) (x3 / (2 : Int32)) (fun (v_4 : Int32) (σ_3 : St) => m_10_lesser x4 (99 : Int32) (fun (v_6 : Int32) (σ_5 : St) => m_10_sets r0 x1 ((3 : Int32) + v_4) v_6 (fun (σ_7 : St) => ∀ x3_9 : Int32, x3_9 = x3 + 1 → B21 x3_9 σ_7) σ_5) σ_3) σ_1) σ
def m_10_falls_21 (r0 : Nat) (x1 : Int32) (x2 : Int32) (Q : St → Prop) (B21 : Int32 → St → Prop) (x3 : Int32) (σ : St) : Prop :=
  m_10_of r0 x1 (0 : Int32) (fun (v_2 : Int32) (σ_1 : St) => ((((2 : Int32) * v_2) ≤ x3 → Q σ_1) ∧ (¬ ((2 : Int32) * v_2) ≤ x3 → m_10_dirtOf r0 x1 (x3 - x3 / (2 : Int32) * (2 : Int32)) (x3 / (2 : Int32)) (fun (v_4 : Int32) (σ_3 : St) => ∀ x4_5 : Int32, x4_5 = (v_4 + x2) → m_10_books r0 (1 : Int32) x2 (fun (σ_6 : St) => ((x4_5 ≤ (99 : Int32) → m_10_falls_72 r0 x1 x2 x3 x4_5 B21 Q  (0 : Int32) (3 : Int32) r0 σ_6) ∧ (¬ x4_5 ≤ (99 : Int32) → m_10_falls_72 r0 x1 x2 x3 x4_5 B21 Q  (x4_5 - (99 : Int32)) (3 : Int32) r0 σ_6))) σ_3) σ_1))) σ
def m_10_falls (r0 : Nat) (x1 : Int32) (Q : St → Prop) (σ : St) : Prop :=
  m_10_of r0 x1 (2 : Int32) (fun (v_2 : Int32) (σ_1 : St) => vp_in (504 : Int32) 5640 ∧ ∀ x2_3 : Int32, x2_3 = ((v_2 * (σ_1.1 (r0 + 1) ((504 : Int32)).toNatClampNeg)) / (100 : Int32)) → itN (m_10_falls_21 r0 x1 x2_3 Q) (fun _ _ => False) FU (0 : Int32) σ_1) σ
theorem d_10_night_0 : decode prog_12_method_63_code 0 = .ok (.iload_n 1, 1) := by decide +kernel
theorem d_10_night_1 : decode prog_12_method_63_code 1 = .ok (.iconst 1, 1) := by decide +kernel
theorem d_10_night_2 : decode prog_12_method_63_code 2 = .ok (.bipush 30, 2) := by decide +kernel
theorem d_10_night_4 : decode prog_12_method_63_code 4 = .ok (.invokestatic 40, 3) := by decide +kernel
theorem d_10_night_7 : decode prog_12_method_63_code 7 = .ok (.ifCond .ne 5, 3) := by decide +kernel
theorem d_10_night_10 : decode prog_12_method_63_code 10 = .ok (.iconst (-1), 1) := by decide +kernel
theorem d_10_night_11 : decode prog_12_method_63_code 11 = .ok (.ireturn, 1) := by decide +kernel
theorem d_10_night_12 : decode prog_12_method_63_code 12 = .ok (.aload_n 0, 1) := by decide +kernel
theorem d_10_night_13 : decode prog_12_method_63_code 13 = .ok (.invokevirtual 56, 3) := by decide +kernel
theorem d_10_night_16 : decode prog_12_method_63_code 16 = .ok (.iconst 0, 1) := by decide +kernel
theorem d_10_night_17 : decode prog_12_method_63_code 17 = .ok (.istore_n 2, 1) := by decide +kernel
theorem d_10_night_18 : decode prog_12_method_63_code 18 = .ok (.iload_n 2, 1) := by decide +kernel
theorem d_10_night_19 : decode prog_12_method_63_code 19 = .ok (.iload_n 1, 1) := by decide +kernel
theorem d_10_night_20 : decode prog_12_method_63_code 20 = .ok (.if_icmp .ge 44, 3) := by decide +kernel
theorem d_10_night_23 : decode prog_12_method_63_code 23 = .ok (.iconst 0, 1) := by decide +kernel
theorem d_10_night_24 : decode prog_12_method_63_code 24 = .ok (.istore_n 3, 1) := by decide +kernel
theorem d_10_night_25 : decode prog_12_method_63_code 25 = .ok (.iload_n 3, 1) := by decide +kernel
theorem d_10_night_26 : decode prog_12_method_63_code 26 = .ok (.aload_n 0, 1) := by decide +kernel
theorem d_10_night_27 : decode prog_12_method_63_code 27 = .ok (.getfield 7, 3) := by decide +kernel
theorem d_10_night_30 : decode prog_12_method_63_code 30 = .ok (.iconst 0, 1) := by decide +kernel
theorem d_10_night_31 : decode prog_12_method_63_code 31 = .ok (.iaload, 1) := by decide +kernel
theorem d_10_night_32 : decode prog_12_method_63_code 32 = .ok (.if_icmp .ge 14, 3) := by decide +kernel
theorem d_10_night_35 : decode prog_12_method_63_code 35 = .ok (.aload_n 0, 1) := by decide +kernel
theorem d_10_night_36 : decode prog_12_method_63_code 36 = .ok (.iload_n 3, 1) := by decide +kernel
theorem d_10_night_37 : decode prog_12_method_63_code 37 = .ok (.invokevirtual 182, 3) := by decide +kernel
theorem d_10_night_40 : decode prog_12_method_63_code 40 = .ok (.iinc 3 1, 3) := by decide +kernel
theorem d_10_night_43 : decode prog_12_method_63_code 43 = .ok (.goto (-18), 3) := by decide +kernel
theorem d_10_night_46 : decode prog_12_method_63_code 46 = .ok (.aload_n 0, 1) := by decide +kernel
theorem d_10_night_47 : decode prog_12_method_63_code 47 = .ok (.getfield 7, 3) := by decide +kernel
theorem d_10_night_50 : decode prog_12_method_63_code 50 = .ok (.sipush 563, 3) := by decide +kernel
theorem d_10_night_53 : decode prog_12_method_63_code 53 = .ok (.dup2, 1) := by decide +kernel
theorem d_10_night_54 : decode prog_12_method_63_code 54 = .ok (.iaload, 1) := by decide +kernel
theorem d_10_night_55 : decode prog_12_method_63_code 55 = .ok (.iconst 1, 1) := by decide +kernel
theorem d_10_night_56 : decode prog_12_method_63_code 56 = .ok (.iadd, 1) := by decide +kernel
theorem d_10_night_57 : decode prog_12_method_63_code 57 = .ok (.iastore, 1) := by decide +kernel
theorem d_10_night_58 : decode prog_12_method_63_code 58 = .ok (.iinc 2 1, 3) := by decide +kernel
theorem d_10_night_61 : decode prog_12_method_63_code 61 = .ok (.goto (-43), 3) := by decide +kernel
theorem d_10_night_64 : decode prog_12_method_63_code 64 = .ok (.aload_n 0, 1) := by decide +kernel
theorem d_10_night_65 : decode prog_12_method_63_code 65 = .ok (.invokevirtual 186, 3) := by decide +kernel
theorem d_10_night_68 : decode prog_12_method_63_code 68 = .ok (.ireturn, 1) := by decide +kernel
def m_10_night_25 (r0 : Nat) (x1 : Int32) (x2 : Int32) (B18 : Int32 → St → Prop) (Q : Int32 → St → Prop) (B25 : Int32 → St → Prop) (x3 : Int32) (σ : St) : Prop :=
  vp_in (0 : Int32) 5640 ∧ (((σ.1 (r0 + 1) ((0 : Int32)).toNatClampNeg) ≤ x3 → vp_in (563 : Int32) 5640 ∧ vp_in (563 : Int32) 5640 ∧ ∀ σ_1 : St, σ_1 = wr σ (r0 + 1) ((563 : Int32)).toNatClampNeg ((σ.1 (r0 + 1) ((563 : Int32)).toNatClampNeg) + (1 : Int32)) → ∀ x2_2 : Int32, x2_2 = x2 + 1 → B18 x2_2 σ_1) ∧ (¬ (σ.1 (r0 + 1) ((0 : Int32)).toNatClampNeg) ≤ x3 → m_10_falls r0 x3 (fun (σ_3 : St) => ∀ x3_5 : Int32, x3_5 = x3 + 1 → B25 x3_5 σ_3) σ))
def m_10_night_18 (r0 : Nat) (x1 : Int32) (Q : Int32 → St → Prop) (B18 : Int32 → St → Prop) (x2 : Int32) (σ : St) : Prop :=
  ((x1 ≤ x2 → m_10_onStreets r0 (fun (v_2 : Int32) (σ_1 : St) => Q v_2 σ_1) σ) ∧ (¬ x1 ≤ x2 → itN (m_10_night_25 r0 x1 x2 B18 Q) (fun _ _ => False) FU (0 : Int32) σ))
def m_10_night (r0 : Nat) (x1 : Int32) (Q : Int32 → St → Prop) (σ : St) : Prop :=
  m_10_in x1 (1 : Int32) (30 : Int32) (fun (v_2 : Int32) (σ_1 : St) => ((¬ v_2 = 0 → m_10_records r0 (fun (σ_3 : St) => itN (m_10_night_18 r0 x1 Q) (fun _ _ => False) FU (0 : Int32) σ_3) σ_1) ∧ (v_2 = 0 → Q (-1 : Int32) σ_1))) σ
theorem d_10_runs_0 : decode prog_12_method_64_code 0 = .ok (.aload_n 0, 1) := by decide +kernel
theorem d_10_runs_1 : decode prog_12_method_64_code 1 = .ok (.iload_n 1, 1) := by decide +kernel
theorem d_10_runs_2 : decode prog_12_method_64_code 2 = .ok (.iconst 0, 1) := by decide +kernel
theorem d_10_runs_3 : decode prog_12_method_64_code 3 = .ok (.invokevirtual 37, 3) := by decide +kernel
theorem d_10_runs_6 : decode prog_12_method_64_code 6 = .ok (.iconst 1, 1) := by decide +kernel
theorem d_10_runs_7 : decode prog_12_method_64_code 7 = .ok (.isub, 1) := by decide +kernel
theorem d_10_runs_8 : decode prog_12_method_64_code 8 = .ok (.istore 4, 2) := by decide +kernel
theorem d_10_runs_10 : decode prog_12_method_64_code 10 = .ok (.iload 4, 2) := by decide +kernel
theorem d_10_runs_12 : decode prog_12_method_64_code 12 = .ok (.istore 5, 2) := by decide +kernel
theorem d_10_runs_14 : decode prog_12_method_64_code 14 = .ok (.iload 5, 2) := by decide +kernel
theorem d_10_runs_16 : decode prog_12_method_64_code 16 = .ok (.ifCond .lt 143, 3) := by decide +kernel
theorem d_10_runs_19 : decode prog_12_method_64_code 19 = .ok (.aload_n 0, 1) := by decide +kernel
theorem d_10_runs_20 : decode prog_12_method_64_code 20 = .ok (.iload_n 1, 1) := by decide +kernel
theorem d_10_runs_21 : decode prog_12_method_64_code 21 = .ok (.iload_n 2, 1) := by decide +kernel
theorem d_10_runs_22 : decode prog_12_method_64_code 22 = .ok (.iload 5, 2) := by decide +kernel
theorem d_10_runs_24 : decode prog_12_method_64_code 24 = .ok (.invokevirtual 117, 3) := by decide +kernel
theorem d_10_runs_27 : decode prog_12_method_64_code 27 = .ok (.ifCond .eq 7, 3) := by decide +kernel
theorem d_10_runs_30 : decode prog_12_method_64_code 30 = .ok (.iconst 0, 1) := by decide +kernel
theorem d_10_runs_31 : decode prog_12_method_64_code 31 = .ok (.goto 16, 3) := by decide +kernel
theorem d_10_runs_34 : decode prog_12_method_64_code 34 = .ok (.aload_n 0, 1) := by decide +kernel
theorem d_10_runs_35 : decode prog_12_method_64_code 35 = .ok (.iload_n 1, 1) := by decide +kernel
theorem d_10_runs_36 : decode prog_12_method_64_code 36 = .ok (.iload_n 2, 1) := by decide +kernel
theorem d_10_runs_37 : decode prog_12_method_64_code 37 = .ok (.iload 5, 2) := by decide +kernel
theorem d_10_runs_39 : decode prog_12_method_64_code 39 = .ok (.invokevirtual 48, 3) := by decide +kernel
theorem d_10_runs_42 : decode prog_12_method_64_code 42 = .ok (.iload_n 3, 1) := by decide +kernel
theorem d_10_runs_43 : decode prog_12_method_64_code 43 = .ok (.imul, 1) := by decide +kernel
theorem d_10_runs_44 : decode prog_12_method_64_code 44 = .ok (.bipush 100, 2) := by decide +kernel
theorem d_10_runs_46 : decode prog_12_method_64_code 46 = .ok (.idiv, 1) := by decide +kernel
theorem d_10_runs_47 : decode prog_12_method_64_code 47 = .ok (.istore 6, 2) := by decide +kernel
theorem d_10_runs_49 : decode prog_12_method_64_code 49 = .ok (.aload_n 0, 1) := by decide +kernel
theorem d_10_runs_50 : decode prog_12_method_64_code 50 = .ok (.iload_n 1, 1) := by decide +kernel
theorem d_10_runs_51 : decode prog_12_method_64_code 51 = .ok (.iconst 3, 1) := by decide +kernel
theorem d_10_runs_52 : decode prog_12_method_64_code 52 = .ok (.iload_n 2, 1) := by decide +kernel
theorem d_10_runs_53 : decode prog_12_method_64_code 53 = .ok (.iload 5, 2) := by decide +kernel
theorem d_10_runs_55 : decode prog_12_method_64_code 55 = .ok (.invokestatic 33, 3) := by decide +kernel
theorem d_10_runs_58 : decode prog_12_method_64_code 58 = .ok (.iadd, 1) := by decide +kernel
theorem d_10_runs_59 : decode prog_12_method_64_code 59 = .ok (.aload_n 0, 1) := by decide +kernel
theorem d_10_runs_60 : decode prog_12_method_64_code 60 = .ok (.iload_n 1, 1) := by decide +kernel
theorem d_10_runs_61 : decode prog_12_method_64_code 61 = .ok (.iload_n 2, 1) := by decide +kernel
theorem d_10_runs_62 : decode prog_12_method_64_code 62 = .ok (.iload 5, 2) := by decide +kernel
theorem d_10_runs_64 : decode prog_12_method_64_code 64 = .ok (.invokevirtual 48, 3) := by decide +kernel
theorem d_10_runs_67 : decode prog_12_method_64_code 67 = .ok (.iload 6, 2) := by decide +kernel
theorem d_10_runs_69 : decode prog_12_method_64_code 69 = .ok (.isub, 1) := by decide +kernel
theorem d_10_runs_70 : decode prog_12_method_64_code 70 = .ok (.invokevirtual 52, 3) := by decide +kernel
theorem d_10_runs_73 : decode prog_12_method_64_code 73 = .ok (.iload 5, 2) := by decide +kernel
theorem d_10_runs_75 : decode prog_12_method_64_code 75 = .ok (.iload 4, 2) := by decide +kernel
theorem d_10_runs_77 : decode prog_12_method_64_code 77 = .ok (.if_icmp .ne 11, 3) := by decide +kernel
theorem d_10_runs_80 : decode prog_12_method_64_code 80 = .ok (.bipush 99, 2) := by decide +kernel
theorem d_10_runs_82 : decode prog_12_method_64_code 82 = .ok (.iload 6, 2) := by decide +kernel
theorem d_10_runs_84 : decode prog_12_method_64_code 84 = .ok (.iadd, 1) := by decide +kernel
theorem d_10_runs_85 : decode prog_12_method_64_code 85 = .ok (.goto 16, 3) := by decide +kernel
theorem d_10_runs_88 : decode prog_12_method_64_code 88 = .ok (.aload_n 0, 1) := by decide +kernel
theorem d_10_runs_89 : decode prog_12_method_64_code 89 = .ok (.iload_n 1, 1) := by decide +kernel
theorem d_10_runs_90 : decode prog_12_method_64_code 90 = .ok (.iload_n 2, 1) := by decide +kernel
theorem d_10_runs_91 : decode prog_12_method_64_code 91 = .ok (.iload 5, 2) := by decide +kernel
theorem d_10_runs_93 : decode prog_12_method_64_code 93 = .ok (.iconst 1, 1) := by decide +kernel
theorem d_10_runs_94 : decode prog_12_method_64_code 94 = .ok (.iadd, 1) := by decide +kernel
theorem d_10_runs_95 : decode prog_12_method_64_code 95 = .ok (.invokevirtual 48, 3) := by decide +kernel
theorem d_10_runs_98 : decode prog_12_method_64_code 98 = .ok (.iload 6, 2) := by decide +kernel
theorem d_10_runs_100 : decode prog_12_method_64_code 100 = .ok (.iadd, 1) := by decide +kernel
theorem d_10_runs_101 : decode prog_12_method_64_code 101 = .ok (.istore 7, 2) := by decide +kernel
theorem d_10_runs_103 : decode prog_12_method_64_code 103 = .ok (.aload_n 0, 1) := by decide +kernel
theorem d_10_runs_104 : decode prog_12_method_64_code 104 = .ok (.iconst 4, 1) := by decide +kernel
theorem d_10_runs_105 : decode prog_12_method_64_code 105 = .ok (.iload 7, 2) := by decide +kernel
theorem d_10_runs_107 : decode prog_12_method_64_code 107 = .ok (.bipush 99, 2) := by decide +kernel
theorem d_10_runs_109 : decode prog_12_method_64_code 109 = .ok (.if_icmp .le 11, 3) := by decide +kernel
theorem d_10_runs_112 : decode prog_12_method_64_code 112 = .ok (.iload 7, 2) := by decide +kernel
theorem d_10_runs_114 : decode prog_12_method_64_code 114 = .ok (.bipush 99, 2) := by decide +kernel
theorem d_10_runs_116 : decode prog_12_method_64_code 116 = .ok (.isub, 1) := by decide +kernel
theorem d_10_runs_117 : decode prog_12_method_64_code 117 = .ok (.goto 4, 3) := by decide +kernel
theorem d_10_runs_120 : decode prog_12_method_64_code 120 = .ok (.iconst 0, 1) := by decide +kernel
theorem d_10_runs_121 : decode prog_12_method_64_code 121 = .ok (.invokevirtual 66, 3) := by decide +kernel
theorem d_10_runs_124 : decode prog_12_method_64_code 124 = .ok (.iload 5, 2) := by decide +kernel
theorem d_10_runs_126 : decode prog_12_method_64_code 126 = .ok (.iload 4, 2) := by decide +kernel
theorem d_10_runs_128 : decode prog_12_method_64_code 128 = .ok (.if_icmp .ge 25, 3) := by decide +kernel
theorem d_10_runs_131 : decode prog_12_method_64_code 131 = .ok (.aload_n 0, 1) := by decide +kernel
theorem d_10_runs_132 : decode prog_12_method_64_code 132 = .ok (.iload_n 1, 1) := by decide +kernel
theorem d_10_runs_133 : decode prog_12_method_64_code 133 = .ok (.iconst 3, 1) := by decide +kernel
theorem d_10_runs_134 : decode prog_12_method_64_code 134 = .ok (.iload_n 2, 1) := by decide +kernel
theorem d_10_runs_135 : decode prog_12_method_64_code 135 = .ok (.iload 5, 2) := by decide +kernel
theorem d_10_runs_137 : decode prog_12_method_64_code 137 = .ok (.iconst 1, 1) := by decide +kernel
theorem d_10_runs_138 : decode prog_12_method_64_code 138 = .ok (.iadd, 1) := by decide +kernel
theorem d_10_runs_139 : decode prog_12_method_64_code 139 = .ok (.invokestatic 33, 3) := by decide +kernel
theorem d_10_runs_142 : decode prog_12_method_64_code 142 = .ok (.iadd, 1) := by decide +kernel
theorem d_10_runs_143 : decode prog_12_method_64_code 143 = .ok (.iload 7, 2) := by decide +kernel
theorem d_10_runs_145 : decode prog_12_method_64_code 145 = .ok (.bipush 99, 2) := by decide +kernel
theorem d_10_runs_147 : decode prog_12_method_64_code 147 = .ok (.invokestatic 129, 3) := by decide +kernel
theorem d_10_runs_150 : decode prog_12_method_64_code 150 = .ok (.invokevirtual 52, 3) := by decide +kernel
theorem d_10_runs_153 : decode prog_12_method_64_code 153 = .ok (.iinc 5 (-1), 3) := by decide +kernel
theorem d_10_runs_156 : decode prog_12_method_64_code 156 = .ok (.goto (-142), 3) := by decide +kernel
theorem d_10_runs_159 : decode prog_12_method_64_code 159 = .ok (.return_, 1) := by decide +kernel
def m_10_runs_121 (r0 : Nat) (x1 : Int32) (x2 : Int32) (x3 : Int32) (x4 : Int32) (x5 : Int32) (x7 : Int32) (B14 : Int32 → St → Prop) (Q : St → Prop) (t0 : Int32) (t1 : Int32) (t2 : Nat) (σ : St) : Prop :=
  m_10_books t2 t1 t0 (fun (σ_1 : St) => ((x4 ≤ x5 → ∀ x5_3 : Int32, x5_3 = x5 + (-1) → B14 x5_3 σ_1) ∧ (¬ x4 ≤ x5 → m_10_placeOf x2 (x5 + (1 : Int32)) (fun (v_5 : Int32) (σ_4 : St) => m_10_lesser x7 (99 : Int32) (fun (v_7 : Int32) (σ_6 : St) => m_10_sets r0 x1 ((3 : Int32) + v_5) v_7 (fun (σ_8 : St) => ∀ x5_10 : Int32, x5_10 = x5 + (-1) → B14 x5_10 σ_8) σ_6) σ_4) σ_1))) σ
def m_10_runs_101 (r0 : Nat) (x1 : Int32) (x2 : Int32) (x3 : Int32) (x4 : Int32) (x5 : Int32) (B14 : Int32 → St → Prop) (Q : St → Prop) (t0 : Int32) (σ : St) : Prop :=
  ((t0 ≤ (99 : Int32) → m_10_runs_121 r0 x1 x2 x3 x4 x5 t0 B14 Q  (0 : Int32) (4 : Int32) r0 σ) ∧ (¬ t0 ≤ (99 : Int32) → m_10_runs_121 r0 x1 x2 x3 x4 x5 t0 B14 Q  (t0 - (99 : Int32)) (4 : Int32) r0 σ))
def m_10_runs_47 (r0 : Nat) (x1 : Int32) (x2 : Int32) (x3 : Int32) (x4 : Int32) (x5 : Int32) (B14 : Int32 → St → Prop) (Q : St → Prop) (t0 : Int32) (σ : St) : Prop :=
  m_10_placeOf x2 x5 (fun (v_2 : Int32) (σ_1 : St) => m_10_dirtOf r0 x1 x2 x5 (fun (v_4 : Int32) (σ_3 : St) => m_10_sets r0 x1 ((3 : Int32) + v_2) (v_4 - t0) (fun (σ_5 : St) => ((¬ x5 = x4 → m_10_dirtOf r0 x1 x2 (x5 + (1 : Int32)) (fun (v_8 : Int32) (σ_7 : St) => m_10_runs_101 r0 x1 x2 x3 x4 x5 B14 Q  (v_8 + t0) σ_7) σ_5) ∧ (x5 = x4 → m_10_runs_101 r0 x1 x2 x3 x4 x5 B14 Q  ((99 : Int32) + t0) σ_5))) σ_3) σ_1) σ
def m_10_runs_14 (r0 : Nat) (x1 : Int32) (x2 : Int32) (x3 : Int32) (x4 : Int32) (Q : St → Prop) (B14 : Int32 → St → Prop) (x5 : Int32) (σ : St) : Prop :=
  ((x5 < 0 → Q σ) ∧ (¬ x5 < 0 → m_10_isParked r0 x1 x2 x5 (fun (v_2 : Int32) (σ_1 : St) => ((v_2 = 0 → m_10_dirtOf r0 x1 x2 x5 (fun (v_4 : Int32) (σ_3 : St) => m_10_runs_47 r0 x1 x2 x3 x4 x5 B14 Q  ((v_4 * x3) / (100 : Int32)) σ_3) σ_1) ∧ (¬ v_2 = 0 → m_10_runs_47 r0 x1 x2 x3 x4 x5 B14 Q  (0 : Int32) σ_1))) σ))
def m_10_runs (r0 : Nat) (x1 : Int32) (x2 : Int32) (x3 : Int32) (Q : St → Prop) (σ : St) : Prop :=
  m_10_of r0 x1 (0 : Int32) (fun (v_2 : Int32) (σ_1 : St) => ∀ x4_3 : Int32, x4_3 = (v_2 - (1 : Int32)) → itN (m_10_runs_14 r0 x1 x2 x3 x4_3 Q) (fun _ _ => False) FU x4_3 σ_1) σ
theorem d_10_rain_0 : decode prog_12_method_65_code 0 = .ok (.iload_n 1, 1) := by decide +kernel
theorem d_10_rain_1 : decode prog_12_method_65_code 1 = .ok (.iconst 1, 1) := by decide +kernel
theorem d_10_rain_2 : decode prog_12_method_65_code 2 = .ok (.bipush 100, 2) := by decide +kernel
theorem d_10_rain_4 : decode prog_12_method_65_code 4 = .ok (.invokestatic 40, 3) := by decide +kernel
theorem d_10_rain_7 : decode prog_12_method_65_code 7 = .ok (.ifCond .ne 5, 3) := by decide +kernel
theorem d_10_rain_10 : decode prog_12_method_65_code 10 = .ok (.iconst (-1), 1) := by decide +kernel
theorem d_10_rain_11 : decode prog_12_method_65_code 11 = .ok (.ireturn, 1) := by decide +kernel
theorem d_10_rain_12 : decode prog_12_method_65_code 12 = .ok (.aload_n 0, 1) := by decide +kernel
theorem d_10_rain_13 : decode prog_12_method_65_code 13 = .ok (.invokevirtual 56, 3) := by decide +kernel
theorem d_10_rain_16 : decode prog_12_method_65_code 16 = .ok (.aload_n 0, 1) := by decide +kernel
theorem d_10_rain_17 : decode prog_12_method_65_code 17 = .ok (.getfield 7, 3) := by decide +kernel
theorem d_10_rain_20 : decode prog_12_method_65_code 20 = .ok (.sipush 560, 3) := by decide +kernel
theorem d_10_rain_23 : decode prog_12_method_65_code 23 = .ok (.iaload, 1) := by decide +kernel
theorem d_10_rain_24 : decode prog_12_method_65_code 24 = .ok (.istore_n 2, 1) := by decide +kernel
theorem d_10_rain_25 : decode prog_12_method_65_code 25 = .ok (.iconst 0, 1) := by decide +kernel
theorem d_10_rain_26 : decode prog_12_method_65_code 26 = .ok (.istore_n 3, 1) := by decide +kernel
theorem d_10_rain_27 : decode prog_12_method_65_code 27 = .ok (.iload_n 3, 1) := by decide +kernel
theorem d_10_rain_28 : decode prog_12_method_65_code 28 = .ok (.aload_n 0, 1) := by decide +kernel
theorem d_10_rain_29 : decode prog_12_method_65_code 29 = .ok (.getfield 7, 3) := by decide +kernel
theorem d_10_rain_32 : decode prog_12_method_65_code 32 = .ok (.iconst 0, 1) := by decide +kernel
theorem d_10_rain_33 : decode prog_12_method_65_code 33 = .ok (.iaload, 1) := by decide +kernel
theorem d_10_rain_34 : decode prog_12_method_65_code 34 = .ok (.if_icmp .ge 23, 3) := by decide +kernel
theorem d_10_rain_37 : decode prog_12_method_65_code 37 = .ok (.aload_n 0, 1) := by decide +kernel
theorem d_10_rain_38 : decode prog_12_method_65_code 38 = .ok (.iload_n 3, 1) := by decide +kernel
theorem d_10_rain_39 : decode prog_12_method_65_code 39 = .ok (.iconst 0, 1) := by decide +kernel
theorem d_10_rain_40 : decode prog_12_method_65_code 40 = .ok (.iload_n 1, 1) := by decide +kernel
theorem d_10_rain_41 : decode prog_12_method_65_code 41 = .ok (.invokevirtual 189, 3) := by decide +kernel
theorem d_10_rain_44 : decode prog_12_method_65_code 44 = .ok (.aload_n 0, 1) := by decide +kernel
theorem d_10_rain_45 : decode prog_12_method_65_code 45 = .ok (.iload_n 3, 1) := by decide +kernel
theorem d_10_rain_46 : decode prog_12_method_65_code 46 = .ok (.iconst 1, 1) := by decide +kernel
theorem d_10_rain_47 : decode prog_12_method_65_code 47 = .ok (.iload_n 1, 1) := by decide +kernel
theorem d_10_rain_48 : decode prog_12_method_65_code 48 = .ok (.invokevirtual 189, 3) := by decide +kernel
theorem d_10_rain_51 : decode prog_12_method_65_code 51 = .ok (.iinc 3 1, 3) := by decide +kernel
theorem d_10_rain_54 : decode prog_12_method_65_code 54 = .ok (.goto (-27), 3) := by decide +kernel
theorem d_10_rain_57 : decode prog_12_method_65_code 57 = .ok (.aload_n 0, 1) := by decide +kernel
theorem d_10_rain_58 : decode prog_12_method_65_code 58 = .ok (.getfield 7, 3) := by decide +kernel
theorem d_10_rain_61 : decode prog_12_method_65_code 61 = .ok (.sipush 560, 3) := by decide +kernel
theorem d_10_rain_64 : decode prog_12_method_65_code 64 = .ok (.iaload, 1) := by decide +kernel
theorem d_10_rain_65 : decode prog_12_method_65_code 65 = .ok (.iload_n 2, 1) := by decide +kernel
theorem d_10_rain_66 : decode prog_12_method_65_code 66 = .ok (.isub, 1) := by decide +kernel
theorem d_10_rain_67 : decode prog_12_method_65_code 67 = .ok (.ireturn, 1) := by decide +kernel
def m_10_rain_27 (r0 : Nat) (x1 : Int32) (x2 : Int32) (Q : Int32 → St → Prop) (B27 : Int32 → St → Prop) (x3 : Int32) (σ : St) : Prop :=
  vp_in (0 : Int32) 5640 ∧ (((σ.1 (r0 + 1) ((0 : Int32)).toNatClampNeg) ≤ x3 → vp_in (560 : Int32) 5640 ∧ Q ((σ.1 (r0 + 1) ((560 : Int32)).toNatClampNeg) - x2) σ) ∧ (¬ (σ.1 (r0 + 1) ((0 : Int32)).toNatClampNeg) ≤ x3 → m_10_runs r0 x3 (0 : Int32) x1 (fun (σ_1 : St) => m_10_runs r0 x3 (1 : Int32) x1 (fun (σ_3 : St) => ∀ x3_5 : Int32, x3_5 = x3 + 1 → B27 x3_5 σ_3) σ_1) σ))
def m_10_rain (r0 : Nat) (x1 : Int32) (Q : Int32 → St → Prop) (σ : St) : Prop :=
  m_10_in x1 (1 : Int32) (100 : Int32) (fun (v_2 : Int32) (σ_1 : St) => ((¬ v_2 = 0 → m_10_records r0 (fun (σ_3 : St) => vp_in (560 : Int32) 5640 ∧ ∀ x2_5 : Int32, x2_5 = (σ_3.1 (r0 + 1) ((560 : Int32)).toNatClampNeg) → itN (m_10_rain_27 r0 x1 x2_5 Q) (fun _ _ => False) FU (0 : Int32) σ_3) σ_1) ∧ (v_2 = 0 → Q (-1 : Int32) σ_1))) σ
theorem d_10_loadWith_0 : decode prog_12_method_66_code 0 = .ok (.aload_n 0, 1) := by decide +kernel
theorem d_10_loadWith_1 : decode prog_12_method_66_code 1 = .ok (.iconst 0, 1) := by decide +kernel
theorem d_10_loadWith_2 : decode prog_12_method_66_code 2 = .ok (.bipush 9, 2) := by decide +kernel
theorem d_10_loadWith_4 : decode prog_12_method_66_code 4 = .ok (.invokevirtual 29, 3) := by decide +kernel
theorem d_10_loadWith_7 : decode prog_12_method_66_code 7 = .ok (.aload_n 0, 1) := by decide +kernel
theorem d_10_loadWith_8 : decode prog_12_method_66_code 8 = .ok (.getfield 7, 3) := by decide +kernel
theorem d_10_loadWith_11 : decode prog_12_method_66_code 11 = .ok (.sipush 499, 3) := by decide +kernel
theorem d_10_loadWith_14 : decode prog_12_method_66_code 14 = .ok (.iload_n 1, 1) := by decide +kernel
theorem d_10_loadWith_15 : decode prog_12_method_66_code 15 = .ok (.iastore, 1) := by decide +kernel
theorem d_10_loadWith_16 : decode prog_12_method_66_code 16 = .ok (.aload_n 0, 1) := by decide +kernel
theorem d_10_loadWith_17 : decode prog_12_method_66_code 17 = .ok (.invokevirtual 179, 3) := by decide +kernel
theorem d_10_loadWith_20 : decode prog_12_method_66_code 20 = .ok (.aload_n 0, 1) := by decide +kernel
theorem d_10_loadWith_21 : decode prog_12_method_66_code 21 = .ok (.iconst 3, 1) := by decide +kernel
theorem d_10_loadWith_22 : decode prog_12_method_66_code 22 = .ok (.invokevirtual 148, 3) := by decide +kernel
theorem d_10_loadWith_25 : decode prog_12_method_66_code 25 = .ok (.istore_n 2, 1) := by decide +kernel
theorem d_10_loadWith_26 : decode prog_12_method_66_code 26 = .ok (.aload_n 0, 1) := by decide +kernel
theorem d_10_loadWith_27 : decode prog_12_method_66_code 27 = .ok (.aload_n 0, 1) := by decide +kernel
theorem d_10_loadWith_28 : decode prog_12_method_66_code 28 = .ok (.iconst 1, 1) := by decide +kernel
theorem d_10_loadWith_29 : decode prog_12_method_66_code 29 = .ok (.invokevirtual 148, 3) := by decide +kernel
theorem d_10_loadWith_32 : decode prog_12_method_66_code 32 = .ok (.putfield 192, 3) := by decide +kernel
theorem d_10_loadWith_35 : decode prog_12_method_66_code 35 = .ok (.aload_n 0, 1) := by decide +kernel
theorem d_10_loadWith_36 : decode prog_12_method_66_code 36 = .ok (.bipush 9, 2) := by decide +kernel
theorem d_10_loadWith_38 : decode prog_12_method_66_code 38 = .ok (.iconst 0, 1) := by decide +kernel
theorem d_10_loadWith_39 : decode prog_12_method_66_code 39 = .ok (.invokevirtual 29, 3) := by decide +kernel
theorem d_10_loadWith_42 : decode prog_12_method_66_code 42 = .ok (.iload_n 2, 1) := by decide +kernel
theorem d_10_loadWith_43 : decode prog_12_method_66_code 43 = .ok (.ireturn, 1) := by decide +kernel
def m_10_loadWith (r0 : Nat) (x1 : Int32) (Q : Int32 → St → Prop) (σ : St) : Prop :=
  m_10_copies r0 (0 : Int32) (9 : Int32) (fun (σ_1 : St) => vp_in (499 : Int32) 5640 ∧ ∀ σ_3 : St, σ_3 = wr σ_1 (r0 + 1) ((499 : Int32)).toNatClampNeg x1 → m_10_goesThrough r0 (fun (σ_4 : St) => m_10_latestOf r0 (3 : Int32) (fun (v_7 : Int32) (σ_6 : St) => m_10_latestOf r0 (1 : Int32) (fun (v_9 : Int32) (σ_8 : St) => ∀ σ_10 : St, σ_10 = wr σ_8 r0 11 v_9 → m_10_copies r0 (9 : Int32) (0 : Int32) (fun (σ_11 : St) => Q v_7 σ_11) σ_10) σ_6) σ_4) σ_3) σ
theorem d_10_ifSpeed_0 : decode prog_12_method_67_code 0 = .ok (.iload_n 1, 1) := by decide +kernel
theorem d_10_ifSpeed_1 : decode prog_12_method_67_code 1 = .ok (.iconst 1, 1) := by decide +kernel
theorem d_10_ifSpeed_2 : decode prog_12_method_67_code 2 = .ok (.iconst 4, 1) := by decide +kernel
theorem d_10_ifSpeed_3 : decode prog_12_method_67_code 3 = .ok (.invokestatic 40, 3) := by decide +kernel
theorem d_10_ifSpeed_6 : decode prog_12_method_67_code 6 = .ok (.ifCond .ne 5, 3) := by decide +kernel
theorem d_10_ifSpeed_9 : decode prog_12_method_67_code 9 = .ok (.iconst (-1), 1) := by decide +kernel
theorem d_10_ifSpeed_10 : decode prog_12_method_67_code 10 = .ok (.ireturn, 1) := by decide +kernel
theorem d_10_ifSpeed_11 : decode prog_12_method_67_code 11 = .ok (.aload_n 0, 1) := by decide +kernel
theorem d_10_ifSpeed_12 : decode prog_12_method_67_code 12 = .ok (.invokevirtual 176, 3) := by decide +kernel
theorem d_10_ifSpeed_15 : decode prog_12_method_67_code 15 = .ok (.aload_n 0, 1) := by decide +kernel
theorem d_10_ifSpeed_16 : decode prog_12_method_67_code 16 = .ok (.iload_n 1, 1) := by decide +kernel
theorem d_10_ifSpeed_17 : decode prog_12_method_67_code 17 = .ok (.invokevirtual 195, 3) := by decide +kernel
theorem d_10_ifSpeed_20 : decode prog_12_method_67_code 20 = .ok (.ireturn, 1) := by decide +kernel
def m_10_ifSpeed (r0 : Nat) (x1 : Int32) (Q : Int32 → St → Prop) (σ : St) : Prop :=
  m_10_in x1 (1 : Int32) (4 : Int32) (fun (v_2 : Int32) (σ_1 : St) => ((¬ v_2 = 0 → m_10_laysOrder r0 (fun (σ_3 : St) => m_10_loadWith r0 x1 (fun (v_6 : Int32) (σ_5 : St) => Q v_6 σ_5) σ_3) σ_1) ∧ (v_2 = 0 → Q (-1 : Int32) σ_1))) σ
theorem d_10_bestSpeed_0 : decode prog_12_method_68_code 0 = .ok (.aload_n 0, 1) := by decide +kernel
theorem d_10_bestSpeed_1 : decode prog_12_method_68_code 1 = .ok (.invokevirtual 176, 3) := by decide +kernel
theorem d_10_bestSpeed_4 : decode prog_12_method_68_code 4 = .ok (.iconst 0, 1) := by decide +kernel
theorem d_10_bestSpeed_5 : decode prog_12_method_68_code 5 = .ok (.istore_n 1, 1) := by decide +kernel
theorem d_10_bestSpeed_6 : decode prog_12_method_68_code 6 = .ok (.iconst 0, 1) := by decide +kernel
theorem d_10_bestSpeed_7 : decode prog_12_method_68_code 7 = .ok (.istore_n 2, 1) := by decide +kernel
theorem d_10_bestSpeed_8 : decode prog_12_method_68_code 8 = .ok (.iconst 0, 1) := by decide +kernel
theorem d_10_bestSpeed_9 : decode prog_12_method_68_code 9 = .ok (.istore_n 3, 1) := by decide +kernel
theorem d_10_bestSpeed_10 : decode prog_12_method_68_code 10 = .ok (.iconst 1, 1) := by decide +kernel
theorem d_10_bestSpeed_11 : decode prog_12_method_68_code 11 = .ok (.istore 4, 2) := by decide +kernel
theorem d_10_bestSpeed_13 : decode prog_12_method_68_code 13 = .ok (.iload 4, 2) := by decide +kernel
theorem d_10_bestSpeed_15 : decode prog_12_method_68_code 15 = .ok (.iconst 4, 1) := by decide +kernel
theorem d_10_bestSpeed_16 : decode prog_12_method_68_code 16 = .ok (.if_icmp .gt 52, 3) := by decide +kernel
theorem d_10_bestSpeed_19 : decode prog_12_method_68_code 19 = .ok (.aload_n 0, 1) := by decide +kernel
theorem d_10_bestSpeed_20 : decode prog_12_method_68_code 20 = .ok (.iload 4, 2) := by decide +kernel
theorem d_10_bestSpeed_22 : decode prog_12_method_68_code 22 = .ok (.invokevirtual 195, 3) := by decide +kernel
theorem d_10_bestSpeed_25 : decode prog_12_method_68_code 25 = .ok (.istore 5, 2) := by decide +kernel
theorem d_10_bestSpeed_27 : decode prog_12_method_68_code 27 = .ok (.iload_n 1, 1) := by decide +kernel
theorem d_10_bestSpeed_28 : decode prog_12_method_68_code 28 = .ok (.ifCond .eq 23, 3) := by decide +kernel
theorem d_10_bestSpeed_31 : decode prog_12_method_68_code 31 = .ok (.iload 5, 2) := by decide +kernel
theorem d_10_bestSpeed_33 : decode prog_12_method_68_code 33 = .ok (.iload_n 2, 1) := by decide +kernel
theorem d_10_bestSpeed_34 : decode prog_12_method_68_code 34 = .ok (.if_icmp .gt 17, 3) := by decide +kernel
theorem d_10_bestSpeed_37 : decode prog_12_method_68_code 37 = .ok (.iload 5, 2) := by decide +kernel
theorem d_10_bestSpeed_39 : decode prog_12_method_68_code 39 = .ok (.iload_n 2, 1) := by decide +kernel
theorem d_10_bestSpeed_40 : decode prog_12_method_68_code 40 = .ok (.if_icmp .ne 22, 3) := by decide +kernel
theorem d_10_bestSpeed_43 : decode prog_12_method_68_code 43 = .ok (.aload_n 0, 1) := by decide +kernel
theorem d_10_bestSpeed_44 : decode prog_12_method_68_code 44 = .ok (.getfield 192, 3) := by decide +kernel
theorem d_10_bestSpeed_47 : decode prog_12_method_68_code 47 = .ok (.iload_n 3, 1) := by decide +kernel
theorem d_10_bestSpeed_48 : decode prog_12_method_68_code 48 = .ok (.if_icmp .ge 14, 3) := by decide +kernel
theorem d_10_bestSpeed_51 : decode prog_12_method_68_code 51 = .ok (.iload 4, 2) := by decide +kernel
theorem d_10_bestSpeed_53 : decode prog_12_method_68_code 53 = .ok (.istore_n 1, 1) := by decide +kernel
theorem d_10_bestSpeed_54 : decode prog_12_method_68_code 54 = .ok (.iload 5, 2) := by decide +kernel
theorem d_10_bestSpeed_56 : decode prog_12_method_68_code 56 = .ok (.istore_n 2, 1) := by decide +kernel
theorem d_10_bestSpeed_57 : decode prog_12_method_68_code 57 = .ok (.aload_n 0, 1) := by decide +kernel
theorem d_10_bestSpeed_58 : decode prog_12_method_68_code 58 = .ok (.getfield 192, 3) := by decide +kernel
theorem d_10_bestSpeed_61 : decode prog_12_method_68_code 61 = .ok (.istore_n 3, 1) := by decide +kernel
theorem d_10_bestSpeed_62 : decode prog_12_method_68_code 62 = .ok (.iinc 4 1, 3) := by decide +kernel
theorem d_10_bestSpeed_65 : decode prog_12_method_68_code 65 = .ok (.goto (-52), 3) := by decide +kernel
theorem d_10_bestSpeed_68 : decode prog_12_method_68_code 68 = .ok (.iload_n 1, 1) := by decide +kernel
theorem d_10_bestSpeed_69 : decode prog_12_method_68_code 69 = .ok (.ireturn, 1) := by decide +kernel
def m_10_bestSpeed_51 (r0 : Nat) (x4 : Int32) (x5 : Int32) (B13 : Int32 → Int32 → Int32 → Int32 → St → Prop) (Q : Int32 → St → Prop) (σ : St) : Prop :=
  ∀ x3_1 : Int32, x3_1 = (σ.1 r0 11) → ∀ x4_2 : Int32, x4_2 = x4 + 1 → B13 x4 x5 x3_1 x4_2 σ
def m_10_bestSpeed_13 (r0 : Nat) (Q : Int32 → St → Prop) (B13 : Int32 → Int32 → Int32 → Int32 → St → Prop) (x1 : Int32) (x2 : Int32) (x3 : Int32) (x4 : Int32) (σ : St) : Prop :=
  (((4 : Int32) < x4 → Q x1 σ) ∧ (¬ (4 : Int32) < x4 → m_10_loadWith r0 x4 (fun (v_2 : Int32) (σ_1 : St) => ((x1 = 0 → m_10_bestSpeed_51 r0 x4 v_2 B13 Q   σ_1) ∧ (¬ x1 = 0 → ((x2 < v_2 → m_10_bestSpeed_51 r0 x4 v_2 B13 Q   σ_1) ∧ (¬ x2 < v_2 → ((¬ v_2 = x2 → ∀ x4_3 : Int32, x4_3 = x4 + 1 → B13 x1 x2 x3 x4_3 σ_1) ∧ (v_2 = x2 → ((x3 ≤ (σ_1.1 r0 11) → ∀ x4_4 : Int32, x4_4 = x4 + 1 → B13 x1 x2 x3 x4_4 σ_1) ∧ (¬ x3 ≤ (σ_1.1 r0 11) → m_10_bestSpeed_51 r0 x4 v_2 B13 Q   σ_1))))))))) σ))
def m_10_bestSpeed (r0 : Nat) (Q : Int32 → St → Prop) (σ : St) : Prop :=
  m_10_laysOrder r0 (fun (σ_1 : St) => itN (m_10_bestSpeed_13 r0 Q) (fun _ _ _ _ _ => False) FU (0 : Int32) (0 : Int32) (0 : Int32) (1 : Int32) σ_1) σ
theorem d_10_swaps_0 : decode prog_12_method_69_code 0 = .ok (.aload_n 0, 1) := by decide +kernel
theorem d_10_swaps_1 : decode prog_12_method_69_code 1 = .ok (.getfield 19, 3) := by decide +kernel
theorem d_10_swaps_4 : decode prog_12_method_69_code 4 = .ok (.iload_n 1, 1) := by decide +kernel
theorem d_10_swaps_5 : decode prog_12_method_69_code 5 = .ok (.iaload, 1) := by decide +kernel
theorem d_10_swaps_6 : decode prog_12_method_69_code 6 = .ok (.istore_n 3, 1) := by decide +kernel
theorem d_10_swaps_7 : decode prog_12_method_69_code 7 = .ok (.aload_n 0, 1) := by decide +kernel
theorem d_10_swaps_8 : decode prog_12_method_69_code 8 = .ok (.getfield 19, 3) := by decide +kernel
theorem d_10_swaps_11 : decode prog_12_method_69_code 11 = .ok (.iload_n 1, 1) := by decide +kernel
theorem d_10_swaps_12 : decode prog_12_method_69_code 12 = .ok (.aload_n 0, 1) := by decide +kernel
theorem d_10_swaps_13 : decode prog_12_method_69_code 13 = .ok (.getfield 19, 3) := by decide +kernel
theorem d_10_swaps_16 : decode prog_12_method_69_code 16 = .ok (.iload_n 2, 1) := by decide +kernel
theorem d_10_swaps_17 : decode prog_12_method_69_code 17 = .ok (.iaload, 1) := by decide +kernel
theorem d_10_swaps_18 : decode prog_12_method_69_code 18 = .ok (.iastore, 1) := by decide +kernel
theorem d_10_swaps_19 : decode prog_12_method_69_code 19 = .ok (.aload_n 0, 1) := by decide +kernel
theorem d_10_swaps_20 : decode prog_12_method_69_code 20 = .ok (.getfield 19, 3) := by decide +kernel
theorem d_10_swaps_23 : decode prog_12_method_69_code 23 = .ok (.iload_n 2, 1) := by decide +kernel
theorem d_10_swaps_24 : decode prog_12_method_69_code 24 = .ok (.iload_n 3, 1) := by decide +kernel
theorem d_10_swaps_25 : decode prog_12_method_69_code 25 = .ok (.iastore, 1) := by decide +kernel
theorem d_10_swaps_26 : decode prog_12_method_69_code 26 = .ok (.return_, 1) := by decide +kernel
def m_10_swaps (r0 : Nat) (x1 : Int32) (x2 : Int32) (Q : St → Prop) (σ : St) : Prop :=
  vp_in x1 10 ∧ ∀ x3_1 : Int32, x3_1 = (σ.1 (r0 + 4) (x1).toNatClampNeg) → vp_in x2 10 ∧ vp_in x1 10 ∧ ∀ σ_2 : St, σ_2 = wr σ (r0 + 4) (x1).toNatClampNeg (σ.1 (r0 + 4) (x2).toNatClampNeg) → vp_in x2 10 ∧ ∀ σ_3 : St, σ_3 = wr σ_2 (r0 + 4) (x2).toNatClampNeg x3_1 → Q σ_3
theorem d_10_ordersNext_0 : decode prog_12_method_70_code 0 = .ok (.aload_n 0, 1) := by decide +kernel
theorem d_10_ordersNext_1 : decode prog_12_method_70_code 1 = .ok (.getfield 7, 3) := by decide +kernel
theorem d_10_ordersNext_4 : decode prog_12_method_70_code 4 = .ok (.sipush 507, 3) := by decide +kernel
theorem d_10_ordersNext_7 : decode prog_12_method_70_code 7 = .ok (.iaload, 1) := by decide +kernel
theorem d_10_ordersNext_8 : decode prog_12_method_70_code 8 = .ok (.istore_n 1, 1) := by decide +kernel
theorem d_10_ordersNext_9 : decode prog_12_method_70_code 9 = .ok (.iload_n 1, 1) := by decide +kernel
theorem d_10_ordersNext_10 : decode prog_12_method_70_code 10 = .ok (.iconst 2, 1) := by decide +kernel
theorem d_10_ordersNext_11 : decode prog_12_method_70_code 11 = .ok (.isub, 1) := by decide +kernel
theorem d_10_ordersNext_12 : decode prog_12_method_70_code 12 = .ok (.istore_n 2, 1) := by decide +kernel
theorem d_10_ordersNext_13 : decode prog_12_method_70_code 13 = .ok (.iload_n 2, 1) := by decide +kernel
theorem d_10_ordersNext_14 : decode prog_12_method_70_code 14 = .ok (.ifCond .lt 26, 3) := by decide +kernel
theorem d_10_ordersNext_17 : decode prog_12_method_70_code 17 = .ok (.aload_n 0, 1) := by decide +kernel
theorem d_10_ordersNext_18 : decode prog_12_method_70_code 18 = .ok (.getfield 19, 3) := by decide +kernel
theorem d_10_ordersNext_21 : decode prog_12_method_70_code 21 = .ok (.iload_n 2, 1) := by decide +kernel
theorem d_10_ordersNext_22 : decode prog_12_method_70_code 22 = .ok (.iaload, 1) := by decide +kernel
theorem d_10_ordersNext_23 : decode prog_12_method_70_code 23 = .ok (.aload_n 0, 1) := by decide +kernel
theorem d_10_ordersNext_24 : decode prog_12_method_70_code 24 = .ok (.getfield 19, 3) := by decide +kernel
theorem d_10_ordersNext_27 : decode prog_12_method_70_code 27 = .ok (.iload_n 2, 1) := by decide +kernel
theorem d_10_ordersNext_28 : decode prog_12_method_70_code 28 = .ok (.iconst 1, 1) := by decide +kernel
theorem d_10_ordersNext_29 : decode prog_12_method_70_code 29 = .ok (.iadd, 1) := by decide +kernel
theorem d_10_ordersNext_30 : decode prog_12_method_70_code 30 = .ok (.iaload, 1) := by decide +kernel
theorem d_10_ordersNext_31 : decode prog_12_method_70_code 31 = .ok (.if_icmp .le 9, 3) := by decide +kernel
theorem d_10_ordersNext_34 : decode prog_12_method_70_code 34 = .ok (.iinc 2 (-1), 3) := by decide +kernel
theorem d_10_ordersNext_37 : decode prog_12_method_70_code 37 = .ok (.goto (-24), 3) := by decide +kernel
theorem d_10_ordersNext_40 : decode prog_12_method_70_code 40 = .ok (.iload_n 2, 1) := by decide +kernel
theorem d_10_ordersNext_41 : decode prog_12_method_70_code 41 = .ok (.ifCond .ge 5, 3) := by decide +kernel
theorem d_10_ordersNext_44 : decode prog_12_method_70_code 44 = .ok (.iconst 0, 1) := by decide +kernel
theorem d_10_ordersNext_45 : decode prog_12_method_70_code 45 = .ok (.ireturn, 1) := by decide +kernel
theorem d_10_ordersNext_46 : decode prog_12_method_70_code 46 = .ok (.iload_n 1, 1) := by decide +kernel
theorem d_10_ordersNext_47 : decode prog_12_method_70_code 47 = .ok (.iconst 1, 1) := by decide +kernel
theorem d_10_ordersNext_48 : decode prog_12_method_70_code 48 = .ok (.isub, 1) := by decide +kernel
theorem d_10_ordersNext_49 : decode prog_12_method_70_code 49 = .ok (.istore_n 3, 1) := by decide +kernel
theorem d_10_ordersNext_50 : decode prog_12_method_70_code 50 = .ok (.aload_n 0, 1) := by decide +kernel
theorem d_10_ordersNext_51 : decode prog_12_method_70_code 51 = .ok (.getfield 19, 3) := by decide +kernel
theorem d_10_ordersNext_54 : decode prog_12_method_70_code 54 = .ok (.iload_n 3, 1) := by decide +kernel
theorem d_10_ordersNext_55 : decode prog_12_method_70_code 55 = .ok (.iaload, 1) := by decide +kernel
theorem d_10_ordersNext_56 : decode prog_12_method_70_code 56 = .ok (.aload_n 0, 1) := by decide +kernel
theorem d_10_ordersNext_57 : decode prog_12_method_70_code 57 = .ok (.getfield 19, 3) := by decide +kernel
theorem d_10_ordersNext_60 : decode prog_12_method_70_code 60 = .ok (.iload_n 2, 1) := by decide +kernel
theorem d_10_ordersNext_61 : decode prog_12_method_70_code 61 = .ok (.iaload, 1) := by decide +kernel
theorem d_10_ordersNext_62 : decode prog_12_method_70_code 62 = .ok (.if_icmp .ge 9, 3) := by decide +kernel
theorem d_10_ordersNext_65 : decode prog_12_method_70_code 65 = .ok (.iinc 3 (-1), 3) := by decide +kernel
theorem d_10_ordersNext_68 : decode prog_12_method_70_code 68 = .ok (.goto (-18), 3) := by decide +kernel
theorem d_10_ordersNext_71 : decode prog_12_method_70_code 71 = .ok (.aload_n 0, 1) := by decide +kernel
theorem d_10_ordersNext_72 : decode prog_12_method_70_code 72 = .ok (.iload_n 2, 1) := by decide +kernel
theorem d_10_ordersNext_73 : decode prog_12_method_70_code 73 = .ok (.iload_n 3, 1) := by decide +kernel
theorem d_10_ordersNext_74 : decode prog_12_method_70_code 74 = .ok (.invokevirtual 198, 3) := by decide +kernel
theorem d_10_ordersNext_77 : decode prog_12_method_70_code 77 = .ok (.iload_n 1, 1) := by decide +kernel
theorem d_10_ordersNext_78 : decode prog_12_method_70_code 78 = .ok (.iconst 1, 1) := by decide +kernel
theorem d_10_ordersNext_79 : decode prog_12_method_70_code 79 = .ok (.isub, 1) := by decide +kernel
theorem d_10_ordersNext_80 : decode prog_12_method_70_code 80 = .ok (.istore 4, 2) := by decide +kernel
theorem d_10_ordersNext_82 : decode prog_12_method_70_code 82 = .ok (.iload_n 2, 1) := by decide +kernel
theorem d_10_ordersNext_83 : decode prog_12_method_70_code 83 = .ok (.iconst 1, 1) := by decide +kernel
theorem d_10_ordersNext_84 : decode prog_12_method_70_code 84 = .ok (.iadd, 1) := by decide +kernel
theorem d_10_ordersNext_85 : decode prog_12_method_70_code 85 = .ok (.istore 5, 2) := by decide +kernel
theorem d_10_ordersNext_87 : decode prog_12_method_70_code 87 = .ok (.iload 5, 2) := by decide +kernel
theorem d_10_ordersNext_89 : decode prog_12_method_70_code 89 = .ok (.iload 4, 2) := by decide +kernel
theorem d_10_ordersNext_91 : decode prog_12_method_70_code 91 = .ok (.if_icmp .ge 20, 3) := by decide +kernel
theorem d_10_ordersNext_94 : decode prog_12_method_70_code 94 = .ok (.aload_n 0, 1) := by decide +kernel
theorem d_10_ordersNext_95 : decode prog_12_method_70_code 95 = .ok (.iload 5, 2) := by decide +kernel
theorem d_10_ordersNext_97 : decode prog_12_method_70_code 97 = .ok (.iload 4, 2) := by decide +kernel
theorem d_10_ordersNext_99 : decode prog_12_method_70_code 99 = .ok (.invokevirtual 198, 3) := by decide +kernel
theorem d_10_ordersNext_102 : decode prog_12_method_70_code 102 = .ok (.iinc 4 (-1), 3) := by decide +kernel
theorem d_10_ordersNext_105 : decode prog_12_method_70_code 105 = .ok (.iinc 5 1, 3) := by decide +kernel
theorem d_10_ordersNext_108 : decode prog_12_method_70_code 108 = .ok (.goto (-21), 3) := by decide +kernel
theorem d_10_ordersNext_111 : decode prog_12_method_70_code 111 = .ok (.iconst 1, 1) := by decide +kernel
theorem d_10_ordersNext_112 : decode prog_12_method_70_code 112 = .ok (.ireturn, 1) := by decide +kernel
def m_10_ordersNext_87 (r0 : Nat) (Q : Int32 → St → Prop) (B87 : Int32 → Int32 → St → Prop) (x4 : Int32) (x5 : Int32) (σ : St) : Prop :=
  ((x4 ≤ x5 → Q (1 : Int32) σ) ∧ (¬ x4 ≤ x5 → m_10_swaps r0 x5 x4 (fun (σ_1 : St) => ∀ x4_3 : Int32, x4_3 = x4 + (-1) → ∀ x5_4 : Int32, x5_4 = x5 + 1 → B87 x4_3 x5_4 σ_1) σ))
def m_10_ordersNext_50 (r0 : Nat) (x1 : Int32) (x2 : Int32) (Q : Int32 → St → Prop) (B50 : Int32 → St → Prop) (x3 : Int32) (σ : St) : Prop :=
  vp_in x3 10 ∧ vp_in x2 10 ∧ (((σ.1 (r0 + 4) (x2).toNatClampNeg) ≤ (σ.1 (r0 + 4) (x3).toNatClampNeg) → m_10_swaps r0 x2 x3 (fun (σ_1 : St) => ∀ x4_3 : Int32, x4_3 = (x1 - (1 : Int32)) → ∀ x5_4 : Int32, x5_4 = (x2 + (1 : Int32)) → itN (m_10_ordersNext_87 r0 Q) (fun _ _ _ => False) FU x4_3 x5_4 σ_1) σ) ∧ (¬ (σ.1 (r0 + 4) (x2).toNatClampNeg) ≤ (σ.1 (r0 + 4) (x3).toNatClampNeg) → ∀ x3_5 : Int32, x3_5 = x3 + (-1) → B50 x3_5 σ))
def m_10_ordersNext_40 (r0 : Nat) (x1 : Int32) (x2 : Int32) (Q : Int32 → St → Prop) (σ : St) : Prop :=
  ((0 ≤ x2 → ∀ x3_1 : Int32, x3_1 = (x1 - (1 : Int32)) → itN (m_10_ordersNext_50 r0 x1 x2 Q) (fun _ _ => False) FU x3_1 σ) ∧ (¬ 0 ≤ x2 → Q (0 : Int32) σ))
def m_10_ordersNext_13 (r0 : Nat) (x1 : Int32) (Q : Int32 → St → Prop) (B13 : Int32 → St → Prop) (x2 : Int32) (σ : St) : Prop :=
  ((x2 < 0 → m_10_ordersNext_40 r0 x1 x2 Q   σ) ∧ (¬ x2 < 0 → vp_in x2 10 ∧ vp_in (x2 + (1 : Int32)) 10 ∧ (((σ.1 (r0 + 4) (x2).toNatClampNeg) ≤ (σ.1 (r0 + 4) ((x2 + (1 : Int32))).toNatClampNeg) → m_10_ordersNext_40 r0 x1 x2 Q   σ) ∧ (¬ (σ.1 (r0 + 4) (x2).toNatClampNeg) ≤ (σ.1 (r0 + 4) ((x2 + (1 : Int32))).toNatClampNeg) → ∀ x2_1 : Int32, x2_1 = x2 + (-1) → B13 x2_1 σ))))
def m_10_ordersNext (r0 : Nat) (Q : Int32 → St → Prop) (σ : St) : Prop :=
  vp_in (507 : Int32) 5640 ∧ ∀ x1_1 : Int32, x1_1 = (σ.1 (r0 + 1) ((507 : Int32)).toNatClampNeg) → ∀ x2_2 : Int32, x2_2 = (x1_1 - (2 : Int32)) → itN (m_10_ordersNext_13 r0 x1_1 Q) (fun _ _ => False) FU x2_2 σ
theorem d_10_bestOrder_0 : decode prog_12_method_71_code 0 = .ok (.iload_n 1, 1) := by decide +kernel
theorem d_10_bestOrder_1 : decode prog_12_method_71_code 1 = .ok (.ifCond .ge 5, 3) := by decide +kernel
theorem d_10_bestOrder_4 : decode prog_12_method_71_code 4 = .ok (.iconst (-1), 1) := by decide +kernel
theorem d_10_bestOrder_5 : decode prog_12_method_71_code 5 = .ok (.ireturn, 1) := by decide +kernel
theorem d_10_bestOrder_6 : decode prog_12_method_71_code 6 = .ok (.aload_n 0, 1) := by decide +kernel
theorem d_10_bestOrder_7 : decode prog_12_method_71_code 7 = .ok (.getfield 7, 3) := by decide +kernel
theorem d_10_bestOrder_10 : decode prog_12_method_71_code 10 = .ok (.sipush 507, 3) := by decide +kernel
theorem d_10_bestOrder_13 : decode prog_12_method_71_code 13 = .ok (.iaload, 1) := by decide +kernel
theorem d_10_bestOrder_14 : decode prog_12_method_71_code 14 = .ok (.bipush 6, 2) := by decide +kernel
theorem d_10_bestOrder_16 : decode prog_12_method_71_code 16 = .ok (.if_icmp .le 6, 3) := by decide +kernel
theorem d_10_bestOrder_19 : decode prog_12_method_71_code 19 = .ok (.bipush (-2), 2) := by decide +kernel
theorem d_10_bestOrder_21 : decode prog_12_method_71_code 21 = .ok (.ireturn, 1) := by decide +kernel
theorem d_10_bestOrder_22 : decode prog_12_method_71_code 22 = .ok (.iload_n 1, 1) := by decide +kernel
theorem d_10_bestOrder_23 : decode prog_12_method_71_code 23 = .ok (.aload_n 0, 1) := by decide +kernel
theorem d_10_bestOrder_24 : decode prog_12_method_71_code 24 = .ok (.getfield 7, 3) := by decide +kernel
theorem d_10_bestOrder_27 : decode prog_12_method_71_code 27 = .ok (.sipush 507, 3) := by decide +kernel
theorem d_10_bestOrder_30 : decode prog_12_method_71_code 30 = .ok (.iaload, 1) := by decide +kernel
theorem d_10_bestOrder_31 : decode prog_12_method_71_code 31 = .ok (.if_icmp .lt 6, 3) := by decide +kernel
theorem d_10_bestOrder_34 : decode prog_12_method_71_code 34 = .ok (.bipush (-9), 2) := by decide +kernel
theorem d_10_bestOrder_36 : decode prog_12_method_71_code 36 = .ok (.ireturn, 1) := by decide +kernel
theorem d_10_bestOrder_37 : decode prog_12_method_71_code 37 = .ok (.aload_n 0, 1) := by decide +kernel
theorem d_10_bestOrder_38 : decode prog_12_method_71_code 38 = .ok (.invokevirtual 176, 3) := by decide +kernel
theorem d_10_bestOrder_41 : decode prog_12_method_71_code 41 = .ok (.iconst (-1), 1) := by decide +kernel
theorem d_10_bestOrder_42 : decode prog_12_method_71_code 42 = .ok (.istore_n 3, 1) := by decide +kernel
theorem d_10_bestOrder_43 : decode prog_12_method_71_code 43 = .ok (.iconst 1, 1) := by decide +kernel
theorem d_10_bestOrder_44 : decode prog_12_method_71_code 44 = .ok (.istore 4, 2) := by decide +kernel
theorem d_10_bestOrder_46 : decode prog_12_method_71_code 46 = .ok (.iload 4, 2) := by decide +kernel
theorem d_10_bestOrder_48 : decode prog_12_method_71_code 48 = .ok (.ifCond .eq 81, 3) := by decide +kernel
theorem d_10_bestOrder_51 : decode prog_12_method_71_code 51 = .ok (.aload_n 0, 1) := by decide +kernel
theorem d_10_bestOrder_52 : decode prog_12_method_71_code 52 = .ok (.aload_n 0, 1) := by decide +kernel
theorem d_10_bestOrder_53 : decode prog_12_method_71_code 53 = .ok (.getfield 7, 3) := by decide +kernel
theorem d_10_bestOrder_56 : decode prog_12_method_71_code 56 = .ok (.sipush 499, 3) := by decide +kernel
theorem d_10_bestOrder_59 : decode prog_12_method_71_code 59 = .ok (.iaload, 1) := by decide +kernel
theorem d_10_bestOrder_60 : decode prog_12_method_71_code 60 = .ok (.invokevirtual 195, 3) := by decide +kernel
theorem d_10_bestOrder_63 : decode prog_12_method_71_code 63 = .ok (.istore 5, 2) := by decide +kernel
theorem d_10_bestOrder_65 : decode prog_12_method_71_code 65 = .ok (.iconst 0, 1) := by decide +kernel
theorem d_10_bestOrder_66 : decode prog_12_method_71_code 66 = .ok (.istore 6, 2) := by decide +kernel
theorem d_10_bestOrder_68 : decode prog_12_method_71_code 68 = .ok (.iload 6, 2) := by decide +kernel
theorem d_10_bestOrder_70 : decode prog_12_method_71_code 70 = .ok (.aload_n 0, 1) := by decide +kernel
theorem d_10_bestOrder_71 : decode prog_12_method_71_code 71 = .ok (.getfield 7, 3) := by decide +kernel
theorem d_10_bestOrder_74 : decode prog_12_method_71_code 74 = .ok (.sipush 507, 3) := by decide +kernel
theorem d_10_bestOrder_77 : decode prog_12_method_71_code 77 = .ok (.iaload, 1) := by decide +kernel
theorem d_10_bestOrder_78 : decode prog_12_method_71_code 78 = .ok (.if_icmp .ge 29, 3) := by decide +kernel
theorem d_10_bestOrder_81 : decode prog_12_method_71_code 81 = .ok (.iload 5, 2) := by decide +kernel
theorem d_10_bestOrder_83 : decode prog_12_method_71_code 83 = .ok (.iload_n 3, 1) := by decide +kernel
theorem d_10_bestOrder_84 : decode prog_12_method_71_code 84 = .ok (.if_icmp .le 23, 3) := by decide +kernel
theorem d_10_bestOrder_87 : decode prog_12_method_71_code 87 = .ok (.aload_n 0, 1) := by decide +kernel
theorem d_10_bestOrder_88 : decode prog_12_method_71_code 88 = .ok (.getfield 22, 3) := by decide +kernel
theorem d_10_bestOrder_91 : decode prog_12_method_71_code 91 = .ok (.iload 6, 2) := by decide +kernel
theorem d_10_bestOrder_93 : decode prog_12_method_71_code 93 = .ok (.aload_n 0, 1) := by decide +kernel
theorem d_10_bestOrder_94 : decode prog_12_method_71_code 94 = .ok (.getfield 19, 3) := by decide +kernel
theorem d_10_bestOrder_97 : decode prog_12_method_71_code 97 = .ok (.iload 6, 2) := by decide +kernel
theorem d_10_bestOrder_99 : decode prog_12_method_71_code 99 = .ok (.iaload, 1) := by decide +kernel
theorem d_10_bestOrder_100 : decode prog_12_method_71_code 100 = .ok (.iastore, 1) := by decide +kernel
theorem d_10_bestOrder_101 : decode prog_12_method_71_code 101 = .ok (.iinc 6 1, 3) := by decide +kernel
theorem d_10_bestOrder_104 : decode prog_12_method_71_code 104 = .ok (.goto (-36), 3) := by decide +kernel
theorem d_10_bestOrder_107 : decode prog_12_method_71_code 107 = .ok (.iload 5, 2) := by decide +kernel
theorem d_10_bestOrder_109 : decode prog_12_method_71_code 109 = .ok (.iload_n 3, 1) := by decide +kernel
theorem d_10_bestOrder_110 : decode prog_12_method_71_code 110 = .ok (.if_icmp .le 8, 3) := by decide +kernel
theorem d_10_bestOrder_113 : decode prog_12_method_71_code 113 = .ok (.iload 5, 2) := by decide +kernel
theorem d_10_bestOrder_115 : decode prog_12_method_71_code 115 = .ok (.goto 4, 3) := by decide +kernel
theorem d_10_bestOrder_118 : decode prog_12_method_71_code 118 = .ok (.iload_n 3, 1) := by decide +kernel
theorem d_10_bestOrder_119 : decode prog_12_method_71_code 119 = .ok (.istore_n 3, 1) := by decide +kernel
theorem d_10_bestOrder_120 : decode prog_12_method_71_code 120 = .ok (.aload_n 0, 1) := by decide +kernel
theorem d_10_bestOrder_121 : decode prog_12_method_71_code 121 = .ok (.invokevirtual 201, 3) := by decide +kernel
theorem d_10_bestOrder_124 : decode prog_12_method_71_code 124 = .ok (.istore 4, 2) := by decide +kernel
theorem d_10_bestOrder_126 : decode prog_12_method_71_code 126 = .ok (.goto (-80), 3) := by decide +kernel
theorem d_10_bestOrder_129 : decode prog_12_method_71_code 129 = .ok (.iload_n 2, 1) := by decide +kernel
theorem d_10_bestOrder_130 : decode prog_12_method_71_code 130 = .ok (.ifCond .eq 7, 3) := by decide +kernel
theorem d_10_bestOrder_133 : decode prog_12_method_71_code 133 = .ok (.iload_n 3, 1) := by decide +kernel
theorem d_10_bestOrder_134 : decode prog_12_method_71_code 134 = .ok (.goto 9, 3) := by decide +kernel
theorem d_10_bestOrder_137 : decode prog_12_method_71_code 137 = .ok (.aload_n 0, 1) := by decide +kernel
theorem d_10_bestOrder_138 : decode prog_12_method_71_code 138 = .ok (.getfield 22, 3) := by decide +kernel
theorem d_10_bestOrder_141 : decode prog_12_method_71_code 141 = .ok (.iload_n 1, 1) := by decide +kernel
theorem d_10_bestOrder_142 : decode prog_12_method_71_code 142 = .ok (.iaload, 1) := by decide +kernel
theorem d_10_bestOrder_143 : decode prog_12_method_71_code 143 = .ok (.ireturn, 1) := by decide +kernel
def m_10_bestOrder_119 (r0 : Nat) (x1 : Int32) (x2 : Int32) (B46 : Int32 → Int32 → St → Prop) (Q : Int32 → St → Prop) (t0 : Int32) (σ : St) : Prop :=
  m_10_ordersNext r0 (fun (v_2 : Int32) (σ_1 : St) => B46 t0 v_2 σ_1) σ
def m_10_bestOrder_107 (r0 : Nat) (x1 : Int32) (x2 : Int32) (x3 : Int32) (x5 : Int32) (B46 : Int32 → Int32 → St → Prop) (Q : Int32 → St → Prop) (σ : St) : Prop :=
  ((x5 ≤ x3 → m_10_bestOrder_119 r0 x1 x2 B46 Q  x3 σ) ∧ (¬ x5 ≤ x3 → m_10_bestOrder_119 r0 x1 x2 B46 Q  x5 σ))
def m_10_bestOrder_68 (r0 : Nat) (x1 : Int32) (x2 : Int32) (x3 : Int32) (x5 : Int32) (B46 : Int32 → Int32 → St → Prop) (Q : Int32 → St → Prop) (B68 : Int32 → St → Prop) (x6 : Int32) (σ : St) : Prop :=
  vp_in (507 : Int32) 5640 ∧ (((σ.1 (r0 + 1) ((507 : Int32)).toNatClampNeg) ≤ x6 → m_10_bestOrder_107 r0 x1 x2 x3 x5 B46 Q   σ) ∧ (¬ (σ.1 (r0 + 1) ((507 : Int32)).toNatClampNeg) ≤ x6 → ((x5 ≤ x3 → m_10_bestOrder_107 r0 x1 x2 x3 x5 B46 Q   σ) ∧ (¬ x5 ≤ x3 → vp_in x6 10 ∧ vp_in x6 10 ∧ ∀ σ_1 : St, σ_1 = wr σ (r0 + 5) (x6).toNatClampNeg (σ.1 (r0 + 4) (x6).toNatClampNeg) → ∀ x6_2 : Int32, x6_2 = x6 + 1 → B68 x6_2 σ_1))))
def m_10_bestOrder_46 (r0 : Nat) (x1 : Int32) (x2 : Int32) (Q : Int32 → St → Prop) (B46 : Int32 → Int32 → St → Prop) (x3 : Int32) (x4 : Int32) (σ : St) : Prop :=
  ((x4 = 0 → ((x2 = 0 → vp_in x1 10 ∧ Q (σ.1 (r0 + 5) (x1).toNatClampNeg) σ) ∧ (¬ x2 = 0 → Q x3 σ))) ∧ (¬ x4 = 0 → vp_in (499 : Int32) 5640 ∧ m_10_loadWith r0 (σ.1 (r0 + 1) ((499 : Int32)).toNatClampNeg) (fun (v_2 : Int32) (σ_1 : St) => itN (m_10_bestOrder_68 r0 x1 x2 x3 v_2 B46 Q) (fun _ _ => False) FU (0 : Int32) σ_1) σ))
def m_10_bestOrder (r0 : Nat) (x1 : Int32) (x2 : Int32) (Q : Int32 → St → Prop) (σ : St) : Prop :=
  ((0 ≤ x1 → vp_in (507 : Int32) 5640 ∧ (((σ.1 (r0 + 1) ((507 : Int32)).toNatClampNeg) ≤ (6 : Int32) → vp_in (507 : Int32) 5640 ∧ ((x1 < (σ.1 (r0 + 1) ((507 : Int32)).toNatClampNeg) → m_10_laysOrder r0 (fun (σ_1 : St) => itN (m_10_bestOrder_46 r0 x1 x2 Q) (fun _ _ _ => False) FU (-1 : Int32) (1 : Int32) σ_1) σ) ∧ (¬ x1 < (σ.1 (r0 + 1) ((507 : Int32)).toNatClampNeg) → Q (-9 : Int32) σ))) ∧ (¬ (σ.1 (r0 + 1) ((507 : Int32)).toNatClampNeg) ≤ (6 : Int32) → Q (-2 : Int32) σ))) ∧ (¬ 0 ≤ x1 → Q (-1 : Int32) σ))
theorem d_10_nightsTo_0 : decode prog_12_method_72_code 0 = .ok (.iload_n 1, 1) := by decide +kernel
theorem d_10_nightsTo_1 : decode prog_12_method_72_code 1 = .ok (.iconst 1, 1) := by decide +kernel
theorem d_10_nightsTo_2 : decode prog_12_method_72_code 2 = .ok (.bipush 99, 2) := by decide +kernel
theorem d_10_nightsTo_4 : decode prog_12_method_72_code 4 = .ok (.invokestatic 40, 3) := by decide +kernel
theorem d_10_nightsTo_7 : decode prog_12_method_72_code 7 = .ok (.ifCond .ne 5, 3) := by decide +kernel
theorem d_10_nightsTo_10 : decode prog_12_method_72_code 10 = .ok (.iconst (-1), 1) := by decide +kernel
theorem d_10_nightsTo_11 : decode prog_12_method_72_code 11 = .ok (.ireturn, 1) := by decide +kernel
theorem d_10_nightsTo_12 : decode prog_12_method_72_code 12 = .ok (.bipush (-9), 2) := by decide +kernel
theorem d_10_nightsTo_14 : decode prog_12_method_72_code 14 = .ok (.istore_n 2, 1) := by decide +kernel
theorem d_10_nightsTo_15 : decode prog_12_method_72_code 15 = .ok (.iconst 0, 1) := by decide +kernel
theorem d_10_nightsTo_16 : decode prog_12_method_72_code 16 = .ok (.istore_n 3, 1) := by decide +kernel
theorem d_10_nightsTo_17 : decode prog_12_method_72_code 17 = .ok (.iload_n 3, 1) := by decide +kernel
theorem d_10_nightsTo_18 : decode prog_12_method_72_code 18 = .ok (.aload_n 0, 1) := by decide +kernel
theorem d_10_nightsTo_19 : decode prog_12_method_72_code 19 = .ok (.getfield 7, 3) := by decide +kernel
theorem d_10_nightsTo_22 : decode prog_12_method_72_code 22 = .ok (.iconst 0, 1) := by decide +kernel
theorem d_10_nightsTo_23 : decode prog_12_method_72_code 23 = .ok (.iaload, 1) := by decide +kernel
theorem d_10_nightsTo_24 : decode prog_12_method_72_code 24 = .ok (.if_icmp .ge 96, 3) := by decide +kernel
theorem d_10_nightsTo_27 : decode prog_12_method_72_code 27 = .ok (.aload_n 0, 1) := by decide +kernel
theorem d_10_nightsTo_28 : decode prog_12_method_72_code 28 = .ok (.iload_n 3, 1) := by decide +kernel
theorem d_10_nightsTo_29 : decode prog_12_method_72_code 29 = .ok (.iconst 2, 1) := by decide +kernel
theorem d_10_nightsTo_30 : decode prog_12_method_72_code 30 = .ok (.invokevirtual 37, 3) := by decide +kernel
theorem d_10_nightsTo_33 : decode prog_12_method_72_code 33 = .ok (.aload_n 0, 1) := by decide +kernel
theorem d_10_nightsTo_34 : decode prog_12_method_72_code 34 = .ok (.getfield 7, 3) := by decide +kernel
theorem d_10_nightsTo_37 : decode prog_12_method_72_code 37 = .ok (.sipush 504, 3) := by decide +kernel
theorem d_10_nightsTo_40 : decode prog_12_method_72_code 40 = .ok (.iaload, 1) := by decide +kernel
theorem d_10_nightsTo_41 : decode prog_12_method_72_code 41 = .ok (.imul, 1) := by decide +kernel
theorem d_10_nightsTo_42 : decode prog_12_method_72_code 42 = .ok (.bipush 100, 2) := by decide +kernel
theorem d_10_nightsTo_44 : decode prog_12_method_72_code 44 = .ok (.idiv, 1) := by decide +kernel
theorem d_10_nightsTo_45 : decode prog_12_method_72_code 45 = .ok (.istore 4, 2) := by decide +kernel
theorem d_10_nightsTo_47 : decode prog_12_method_72_code 47 = .ok (.aload_n 0, 1) := by decide +kernel
theorem d_10_nightsTo_48 : decode prog_12_method_72_code 48 = .ok (.iload_n 3, 1) := by decide +kernel
theorem d_10_nightsTo_49 : decode prog_12_method_72_code 49 = .ok (.invokevirtual 136, 3) := by decide +kernel
theorem d_10_nightsTo_52 : decode prog_12_method_72_code 52 = .ok (.istore 5, 2) := by decide +kernel
theorem d_10_nightsTo_54 : decode prog_12_method_72_code 54 = .ok (.iload 5, 2) := by decide +kernel
theorem d_10_nightsTo_56 : decode prog_12_method_72_code 56 = .ok (.iload_n 1, 1) := by decide +kernel
theorem d_10_nightsTo_57 : decode prog_12_method_72_code 57 = .ok (.if_icmp .lt 7, 3) := by decide +kernel
theorem d_10_nightsTo_60 : decode prog_12_method_72_code 60 = .ok (.iconst 0, 1) := by decide +kernel
theorem d_10_nightsTo_61 : decode prog_12_method_72_code 61 = .ok (.goto 25, 3) := by decide +kernel
theorem d_10_nightsTo_64 : decode prog_12_method_72_code 64 = .ok (.iload 4, 2) := by decide +kernel
theorem d_10_nightsTo_66 : decode prog_12_method_72_code 66 = .ok (.ifCond .ne 8, 3) := by decide +kernel
theorem d_10_nightsTo_69 : decode prog_12_method_72_code 69 = .ok (.bipush 101, 2) := by decide +kernel
theorem d_10_nightsTo_71 : decode prog_12_method_72_code 71 = .ok (.goto 15, 3) := by decide +kernel
theorem d_10_nightsTo_74 : decode prog_12_method_72_code 74 = .ok (.iload_n 1, 1) := by decide +kernel
theorem d_10_nightsTo_75 : decode prog_12_method_72_code 75 = .ok (.iload 5, 2) := by decide +kernel
theorem d_10_nightsTo_77 : decode prog_12_method_72_code 77 = .ok (.isub, 1) := by decide +kernel
theorem d_10_nightsTo_78 : decode prog_12_method_72_code 78 = .ok (.iload 4, 2) := by decide +kernel
theorem d_10_nightsTo_80 : decode prog_12_method_72_code 80 = .ok (.iadd, 1) := by decide +kernel
theorem d_10_nightsTo_81 : decode prog_12_method_72_code 81 = .ok (.iconst 1, 1) := by decide +kernel
theorem d_10_nightsTo_82 : decode prog_12_method_72_code 82 = .ok (.isub, 1) := by decide +kernel
theorem d_10_nightsTo_83 : decode prog_12_method_72_code 83 = .ok (.iload 4, 2) := by decide +kernel
theorem d_10_nightsTo_85 : decode prog_12_method_72_code 85 = .ok (.idiv, 1) := by decide +kernel
theorem d_10_nightsTo_86 : decode prog_12_method_72_code 86 = .ok (.istore 6, 2) := by decide +kernel
theorem d_10_nightsTo_88 : decode prog_12_method_72_code 88 = .ok (.iload 6, 2) := by decide +kernel
theorem d_10_nightsTo_90 : decode prog_12_method_72_code 90 = .ok (.bipush 100, 2) := by decide +kernel
theorem d_10_nightsTo_92 : decode prog_12_method_72_code 92 = .ok (.if_icmp .gt 20, 3) := by decide +kernel
theorem d_10_nightsTo_95 : decode prog_12_method_72_code 95 = .ok (.iload_n 2, 1) := by decide +kernel
theorem d_10_nightsTo_96 : decode prog_12_method_72_code 96 = .ok (.bipush (-9), 2) := by decide +kernel
theorem d_10_nightsTo_98 : decode prog_12_method_72_code 98 = .ok (.if_icmp .eq 9, 3) := by decide +kernel
theorem d_10_nightsTo_101 : decode prog_12_method_72_code 101 = .ok (.iload 6, 2) := by decide +kernel
theorem d_10_nightsTo_103 : decode prog_12_method_72_code 103 = .ok (.iload_n 2, 1) := by decide +kernel
theorem d_10_nightsTo_104 : decode prog_12_method_72_code 104 = .ok (.if_icmp .ge 8, 3) := by decide +kernel
theorem d_10_nightsTo_107 : decode prog_12_method_72_code 107 = .ok (.iload 6, 2) := by decide +kernel
theorem d_10_nightsTo_109 : decode prog_12_method_72_code 109 = .ok (.goto 4, 3) := by decide +kernel
theorem d_10_nightsTo_112 : decode prog_12_method_72_code 112 = .ok (.iload_n 2, 1) := by decide +kernel
theorem d_10_nightsTo_113 : decode prog_12_method_72_code 113 = .ok (.istore_n 2, 1) := by decide +kernel
theorem d_10_nightsTo_114 : decode prog_12_method_72_code 114 = .ok (.iinc 3 1, 3) := by decide +kernel
theorem d_10_nightsTo_117 : decode prog_12_method_72_code 117 = .ok (.goto (-100), 3) := by decide +kernel
theorem d_10_nightsTo_120 : decode prog_12_method_72_code 120 = .ok (.iload_n 2, 1) := by decide +kernel
theorem d_10_nightsTo_121 : decode prog_12_method_72_code 121 = .ok (.ireturn, 1) := by decide +kernel
def m_10_nightsTo_86 (r0 : Nat) (x1 : Int32) (x2 : Int32) (x3 : Int32) (B17 : Int32 → Int32 → St → Prop) (Q : Int32 → St → Prop) (t0 : Int32) (σ : St) : Prop :=
  (((100 : Int32) < t0 → ∀ x3_1 : Int32, x3_1 = x3 + 1 → B17 x2 x3_1 σ) ∧ (¬ (100 : Int32) < t0 → ((x2 = (-9 : Int32) → ∀ x3_2 : Int32, x3_2 = x3 + 1 → B17 t0 x3_2 σ) ∧ (¬ x2 = (-9 : Int32) → ((x2 ≤ t0 → ∀ x3_3 : Int32, x3_3 = x3 + 1 → B17 x2 x3_3 σ) ∧ (¬ x2 ≤ t0 → ∀ x3_4 : Int32, x3_4 = x3 + 1 → B17 t0 x3_4 σ))))))
def m_10_nightsTo_17 (r0 : Nat) (x1 : Int32) (Q : Int32 → St → Prop) (B17 : Int32 → Int32 → St → Prop) (x2 : Int32) (x3 : Int32) (σ : St) : Prop :=
  vp_in (0 : Int32) 5640 ∧ (((σ.1 (r0 + 1) ((0 : Int32)).toNatClampNeg) ≤ x3 → Q x2 σ) ∧ (¬ (σ.1 (r0 + 1) ((0 : Int32)).toNatClampNeg) ≤ x3 → m_10_of r0 x3 (2 : Int32) (fun (v_2 : Int32) (σ_1 : St) => vp_in (504 : Int32) 5640 ∧ ∀ x4_3 : Int32, x4_3 = ((v_2 * (σ_1.1 (r0 + 1) ((504 : Int32)).toNatClampNeg)) / (100 : Int32)) → m_10_greatest r0 x3 (fun (v_5 : Int32) (σ_4 : St) => ((v_5 < x1 → ((¬ x4_3 = 0 → ¬ x4_3 = 0 ∧ m_10_nightsTo_86 r0 x1 x2 x3 B17 Q  ((((x1 - v_5) + x4_3) - (1 : Int32)) / x4_3) σ_4) ∧ (x4_3 = 0 → m_10_nightsTo_86 r0 x1 x2 x3 B17 Q  (101 : Int32) σ_4))) ∧ (¬ v_5 < x1 → m_10_nightsTo_86 r0 x1 x2 x3 B17 Q  (0 : Int32) σ_4))) σ_1) σ))
def m_10_nightsTo (r0 : Nat) (x1 : Int32) (Q : Int32 → St → Prop) (σ : St) : Prop :=
  m_10_in x1 (1 : Int32) (99 : Int32) (fun (v_2 : Int32) (σ_1 : St) => ((¬ v_2 = 0 → itN (m_10_nightsTo_17 r0 x1 Q) (fun _ _ _ => False) FU (-9 : Int32) (0 : Int32) σ_1) ∧ (v_2 = 0 → Q (-1 : Int32) σ_1))) σ
theorem d_10_account_0 : decode prog_12_method_73_code 0 = .ok (.iload_n 1, 1) := by decide +kernel
theorem d_10_account_1 : decode prog_12_method_73_code 1 = .ok (.iconst 0, 1) := by decide +kernel
theorem d_10_account_2 : decode prog_12_method_73_code 2 = .ok (.bipush 6, 2) := by decide +kernel
theorem d_10_account_4 : decode prog_12_method_73_code 4 = .ok (.invokestatic 40, 3) := by decide +kernel
theorem d_10_account_7 : decode prog_12_method_73_code 7 = .ok (.ifCond .ne 5, 3) := by decide +kernel
theorem d_10_account_10 : decode prog_12_method_73_code 10 = .ok (.iconst (-1), 1) := by decide +kernel
theorem d_10_account_11 : decode prog_12_method_73_code 11 = .ok (.ireturn, 1) := by decide +kernel
theorem d_10_account_12 : decode prog_12_method_73_code 12 = .ok (.iload_n 1, 1) := by decide +kernel
theorem d_10_account_13 : decode prog_12_method_73_code 13 = .ok (.bipush 6, 2) := by decide +kernel
theorem d_10_account_15 : decode prog_12_method_73_code 15 = .ok (.if_icmp .ne 10, 3) := by decide +kernel
theorem d_10_account_18 : decode prog_12_method_73_code 18 = .ok (.aload_n 0, 1) := by decide +kernel
theorem d_10_account_19 : decode prog_12_method_73_code 19 = .ok (.invokevirtual 186, 3) := by decide +kernel
theorem d_10_account_22 : decode prog_12_method_73_code 22 = .ok (.goto 13, 3) := by decide +kernel
theorem d_10_account_25 : decode prog_12_method_73_code 25 = .ok (.aload_n 0, 1) := by decide +kernel
theorem d_10_account_26 : decode prog_12_method_73_code 26 = .ok (.getfield 7, 3) := by decide +kernel
theorem d_10_account_29 : decode prog_12_method_73_code 29 = .ok (.sipush 556, 3) := by decide +kernel
theorem d_10_account_32 : decode prog_12_method_73_code 32 = .ok (.iload_n 1, 1) := by decide +kernel
theorem d_10_account_33 : decode prog_12_method_73_code 33 = .ok (.iadd, 1) := by decide +kernel
theorem d_10_account_34 : decode prog_12_method_73_code 34 = .ok (.iaload, 1) := by decide +kernel
theorem d_10_account_35 : decode prog_12_method_73_code 35 = .ok (.ireturn, 1) := by decide +kernel
def m_10_account (r0 : Nat) (x1 : Int32) (Q : Int32 → St → Prop) (σ : St) : Prop :=
  m_10_in x1 (0 : Int32) (6 : Int32) (fun (v_2 : Int32) (σ_1 : St) => ((¬ v_2 = 0 → ((¬ x1 = (6 : Int32) → vp_in ((556 : Int32) + x1) 5640 ∧ Q (σ_1.1 (r0 + 1) (((556 : Int32) + x1)).toNatClampNeg) σ_1) ∧ (x1 = (6 : Int32) → m_10_onStreets r0 (fun (v_4 : Int32) (σ_3 : St) => Q v_4 σ_3) σ_1))) ∧ (v_2 = 0 → Q (-1 : Int32) σ_1))) σ
theorem d_10_count_0 : decode prog_12_method_74_code 0 = .ok (.iload_n 1, 1) := by decide +kernel
theorem d_10_count_1 : decode prog_12_method_74_code 1 = .ok (.tableswitch 164 0 14 #[75, 82, 91, 100, 109, 118, 118, 118, 118, 118, 131, 136, 145, 154, 159], 75) := by decide +kernel
theorem d_10_count_76 : decode prog_12_method_74_code 76 = .ok (.aload_n 0, 1) := by decide +kernel
theorem d_10_count_77 : decode prog_12_method_74_code 77 = .ok (.getfield 7, 3) := by decide +kernel
theorem d_10_count_80 : decode prog_12_method_74_code 80 = .ok (.iconst 0, 1) := by decide +kernel
theorem d_10_count_81 : decode prog_12_method_74_code 81 = .ok (.iaload, 1) := by decide +kernel
theorem d_10_count_82 : decode prog_12_method_74_code 82 = .ok (.ireturn, 1) := by decide +kernel
theorem d_10_count_83 : decode prog_12_method_74_code 83 = .ok (.aload_n 0, 1) := by decide +kernel
theorem d_10_count_84 : decode prog_12_method_74_code 84 = .ok (.getfield 7, 3) := by decide +kernel
theorem d_10_count_87 : decode prog_12_method_74_code 87 = .ok (.sipush 507, 3) := by decide +kernel
theorem d_10_count_90 : decode prog_12_method_74_code 90 = .ok (.iaload, 1) := by decide +kernel
theorem d_10_count_91 : decode prog_12_method_74_code 91 = .ok (.ireturn, 1) := by decide +kernel
theorem d_10_count_92 : decode prog_12_method_74_code 92 = .ok (.aload_n 0, 1) := by decide +kernel
theorem d_10_count_93 : decode prog_12_method_74_code 93 = .ok (.getfield 7, 3) := by decide +kernel
theorem d_10_count_96 : decode prog_12_method_74_code 96 = .ok (.sipush 499, 3) := by decide +kernel
theorem d_10_count_99 : decode prog_12_method_74_code 99 = .ok (.iaload, 1) := by decide +kernel
theorem d_10_count_100 : decode prog_12_method_74_code 100 = .ok (.ireturn, 1) := by decide +kernel
theorem d_10_count_101 : decode prog_12_method_74_code 101 = .ok (.aload_n 0, 1) := by decide +kernel
theorem d_10_count_102 : decode prog_12_method_74_code 102 = .ok (.getfield 7, 3) := by decide +kernel
theorem d_10_count_105 : decode prog_12_method_74_code 105 = .ok (.sipush 505, 3) := by decide +kernel
theorem d_10_count_108 : decode prog_12_method_74_code 108 = .ok (.iaload, 1) := by decide +kernel
theorem d_10_count_109 : decode prog_12_method_74_code 109 = .ok (.ireturn, 1) := by decide +kernel
theorem d_10_count_110 : decode prog_12_method_74_code 110 = .ok (.aload_n 0, 1) := by decide +kernel
theorem d_10_count_111 : decode prog_12_method_74_code 111 = .ok (.getfield 7, 3) := by decide +kernel
theorem d_10_count_114 : decode prog_12_method_74_code 114 = .ok (.sipush 506, 3) := by decide +kernel
theorem d_10_count_117 : decode prog_12_method_74_code 117 = .ok (.iaload, 1) := by decide +kernel
theorem d_10_count_118 : decode prog_12_method_74_code 118 = .ok (.ireturn, 1) := by decide +kernel
theorem d_10_count_119 : decode prog_12_method_74_code 119 = .ok (.aload_n 0, 1) := by decide +kernel
theorem d_10_count_120 : decode prog_12_method_74_code 120 = .ok (.getfield 7, 3) := by decide +kernel
theorem d_10_count_123 : decode prog_12_method_74_code 123 = .ok (.sipush 500, 3) := by decide +kernel
theorem d_10_count_126 : decode prog_12_method_74_code 126 = .ok (.iload_n 1, 1) := by decide +kernel
theorem d_10_count_127 : decode prog_12_method_74_code 127 = .ok (.iadd, 1) := by decide +kernel
theorem d_10_count_128 : decode prog_12_method_74_code 128 = .ok (.iconst 5, 1) := by decide +kernel
theorem d_10_count_129 : decode prog_12_method_74_code 129 = .ok (.isub, 1) := by decide +kernel
theorem d_10_count_130 : decode prog_12_method_74_code 130 = .ok (.iaload, 1) := by decide +kernel
theorem d_10_count_131 : decode prog_12_method_74_code 131 = .ok (.ireturn, 1) := by decide +kernel
theorem d_10_count_132 : decode prog_12_method_74_code 132 = .ok (.aload_n 0, 1) := by decide +kernel
theorem d_10_count_133 : decode prog_12_method_74_code 133 = .ok (.invokevirtual 120, 3) := by decide +kernel
theorem d_10_count_136 : decode prog_12_method_74_code 136 = .ok (.ireturn, 1) := by decide +kernel
theorem d_10_count_137 : decode prog_12_method_74_code 137 = .ok (.aload_n 0, 1) := by decide +kernel
theorem d_10_count_138 : decode prog_12_method_74_code 138 = .ok (.getfield 7, 3) := by decide +kernel
theorem d_10_count_141 : decode prog_12_method_74_code 141 = .ok (.sipush 562, 3) := by decide +kernel
theorem d_10_count_144 : decode prog_12_method_74_code 144 = .ok (.iaload, 1) := by decide +kernel
theorem d_10_count_145 : decode prog_12_method_74_code 145 = .ok (.ireturn, 1) := by decide +kernel
theorem d_10_count_146 : decode prog_12_method_74_code 146 = .ok (.aload_n 0, 1) := by decide +kernel
theorem d_10_count_147 : decode prog_12_method_74_code 147 = .ok (.getfield 7, 3) := by decide +kernel
theorem d_10_count_150 : decode prog_12_method_74_code 150 = .ok (.sipush 563, 3) := by decide +kernel
theorem d_10_count_153 : decode prog_12_method_74_code 153 = .ok (.iaload, 1) := by decide +kernel
theorem d_10_count_154 : decode prog_12_method_74_code 154 = .ok (.ireturn, 1) := by decide +kernel
theorem d_10_count_155 : decode prog_12_method_74_code 155 = .ok (.aload_n 0, 1) := by decide +kernel
theorem d_10_count_156 : decode prog_12_method_74_code 156 = .ok (.getfield 75, 3) := by decide +kernel
theorem d_10_count_159 : decode prog_12_method_74_code 159 = .ok (.ireturn, 1) := by decide +kernel
theorem d_10_count_160 : decode prog_12_method_74_code 160 = .ok (.aload_n 0, 1) := by decide +kernel
theorem d_10_count_161 : decode prog_12_method_74_code 161 = .ok (.getfield 25, 3) := by decide +kernel
theorem d_10_count_164 : decode prog_12_method_74_code 164 = .ok (.ireturn, 1) := by decide +kernel
theorem d_10_count_165 : decode prog_12_method_74_code 165 = .ok (.iconst (-1), 1) := by decide +kernel
theorem d_10_count_166 : decode prog_12_method_74_code 166 = .ok (.ireturn, 1) := by decide +kernel
def m_10_count_119 (r0 : Nat) (x1 : Int32) (Q : Int32 → St → Prop) (σ : St) : Prop :=
  vp_in (((500 : Int32) + x1) - (5 : Int32)) 5640 ∧ Q (σ.1 (r0 + 1) ((((500 : Int32) + x1) - (5 : Int32))).toNatClampNeg) σ
def m_10_count (r0 : Nat) (x1 : Int32) (Q : Int32 → St → Prop) (σ : St) : Prop :=
  (((x1.toInt < 0 ∨ 14 < x1.toInt) → Q (-1 : Int32) σ) ∧ (x1 = 0 → vp_in (0 : Int32) 5640 ∧ Q (σ.1 (r0 + 1) ((0 : Int32)).toNatClampNeg) σ) ∧ (x1 = 1 → vp_in (507 : Int32) 5640 ∧ Q (σ.1 (r0 + 1) ((507 : Int32)).toNatClampNeg) σ) ∧ (x1 = 2 → vp_in (499 : Int32) 5640 ∧ Q (σ.1 (r0 + 1) ((499 : Int32)).toNatClampNeg) σ) ∧ (x1 = 3 → vp_in (505 : Int32) 5640 ∧ Q (σ.1 (r0 + 1) ((505 : Int32)).toNatClampNeg) σ) ∧ (x1 = 4 → vp_in (506 : Int32) 5640 ∧ Q (σ.1 (r0 + 1) ((506 : Int32)).toNatClampNeg) σ) ∧ (x1 = 5 → m_10_count_119 r0 x1 Q   σ) ∧ (x1 = 6 → m_10_count_119 r0 x1 Q   σ) ∧ (x1 = 7 → m_10_count_119 r0 x1 Q   σ) ∧ (x1 = 8 → m_10_count_119 r0 x1 Q   σ) ∧ (x1 = 9 → m_10_count_119 r0 x1 Q   σ) ∧ (x1 = 10 → m_10_grip r0 (fun (v_3 : Int32) (σ_2 : St) => Q v_3 σ_2) σ) ∧ (x1 = 11 → vp_in (562 : Int32) 5640 ∧ Q (σ.1 (r0 + 1) ((562 : Int32)).toNatClampNeg) σ) ∧ (x1 = 12 → vp_in (563 : Int32) 5640 ∧ Q (σ.1 (r0 + 1) ((563 : Int32)).toNatClampNeg) σ) ∧ (x1 = 13 → Q (σ.1 r0 3) σ) ∧ (x1 = 14 → Q (σ.1 r0 1) σ))
section MB
variable {p : Program} {l : Launch} {e : Env} {R : Room} {s : State} {m : MethodId} {args : Array Value} {below : List Frame} {meth : Method} {c : Code} {cells slots : Nat} {QW : State → Prop}
variable {D : va_G} {ac : Nat → ClassId} {ad st : Nat → Nat} {A : Nat → Prop}
set_option maxHeartbeats 4000000 in
set_option maxRecDepth 100000 in
theorem w_10_laysOrder_2 {r0 : Nat} {Q : St → Prop} {B2 : Int32 → St → Prop} {x1 : Int32} {σ : St} {H : Heap} {locs : List Loc} {ls : Array Slot} (S : SC A D ac st p m c prog_12_method_58_code 2 s args "SweeperRoundsModel" R cells slots 0 0) (hR : RtV A D ac ad p l e R s m args below meth c prog_12_method_58_code cells slots QW Q) (hk_r0 : kd r0 = 10) (hB2 : ∀ (x1 : Int32) (σ : St) (H : Heap) (locs : List Loc) (ls : Array Slot), DG A D ac ad s σ H locs → lv_has ls 2 [(0, .ref (ad r0)), (1, .int x1)] → B2 x1 σ → W p l e R s m args below meth c H locs cells slots QW (F0 m 2 ls [])) (hG : DG A D ac ad s σ H locs) (hl : lv_has ls 2 [(0, .ref (ad r0)), (1, .int x1)]) (hf : m_10_laysOrder_2 r0 Q B2 x1 σ) : W p l e R s m args below meth c H locs cells slots QW (F0 m 2 ls []) := by
  have hx := S.1.1
  have hb := S.1.2.1
  unfold m_10_laysOrder_2 at hf
  refine lv_iload_n hx hb d_10_laysOrder_2 rfl (lv_at hl 1 rfl) ?_
  refine lv_bipush (v := (10 : Int32)) hx hb d_10_laysOrder_3 (by decide) ?_
  refine lv_icmp_ge (tgt := 21) hx hb d_10_laysOrder_5 (by decide) (fun hc => ?_) (fun hc => ?_)
  · have hf := hf.1 hc
    exact hR _ _ _ _ _ hG hf d_10_laysOrder_21
  · have hf := hf.2 hc
    refine lv_aload_n hx hb d_10_laysOrder_8 rfl (lv_at hl 0 rfl) ?_
    refine gf_10_19 S hG hk_r0 d_10_laysOrder_9 ?_
    refine lv_iload_n hx hb d_10_laysOrder_12 rfl (lv_at hl 1 rfl) ?_
    refine lv_iload_n hx hb d_10_laysOrder_13 rfl (lv_at hl 1 rfl) ?_
    refine mis S hG 33 rfl rfl (kr_10_8 hk_r0) hf.1 d_10_laysOrder_14 (fun σ_1 eσ_1 H locs hG => ?_)
    have hf := hf.2 σ_1 eσ_1
    obtain ⟨x1_2, ex1_2⟩ : ∃ y : Int32, y = x1 + 1 := ⟨_, rfl⟩
    have hf := hf x1_2 ex1_2
    refine lv_iinc (v := x1_2) (lv' := [(1, .int x1_2), (0, .ref (ad r0))]) hx hb d_10_laysOrder_15 hl (k := 1) rfl (by rw [ex1_2]; rfl) (by decide) rfl (fun ls hl => ?_)
    refine lv_goto (tgt := 2) hx hb d_10_laysOrder_18 (by decide) ?_
    exact hB2 _ _ _ _ _  hG (lv_sub hl [1, 0] rfl) hf
set_option maxHeartbeats 4000000 in
set_option maxRecDepth 100000 in
theorem lp_10_laysOrder_2 {r0 : Nat} {Q : St → Prop} (S : SC A D ac st p m c prog_12_method_58_code 2 s args "SweeperRoundsModel" R cells slots 0 0) (hR : RtV A D ac ad p l e R s m args below meth c prog_12_method_58_code cells slots QW Q) (hk_r0 : kd r0 = 10) : ∀ (n : Nat) (x1 : Int32) (σ : St) (H : Heap) (locs : List Loc) (ls : Array Slot), DG A D ac ad s σ H locs → lv_has ls 2 [(0, .ref (ad r0)), (1, .int x1)] → itN (m_10_laysOrder_2 r0 Q) (fun _ _ => False) n x1 σ → W p l e R s m args below meth c H locs cells slots QW (F0 m 2 ls []) := by
  intro n
  induction n with
  | zero =>
    intro x1 σ H locs ls  hG hl hf
    exact hf.elim
  | succ n ih =>
    intro x1 σ H locs ls  hG hl hf
    exact w_10_laysOrder_2 S hR hk_r0  ih hG hl hf
set_option maxHeartbeats 4000000 in
set_option maxRecDepth 100000 in
theorem w_10_laysOrder_0 {r0 : Nat} {Q : St → Prop} {σ : St} {H : Heap} {locs : List Loc} {ls : Array Slot} (S : SC A D ac st p m c prog_12_method_58_code 2 s args "SweeperRoundsModel" R cells slots 0 0) (hR : RtV A D ac ad p l e R s m args below meth c prog_12_method_58_code cells slots QW Q) (hk_r0 : kd r0 = 10) (hG : DG A D ac ad s σ H locs) (hl : lv_has ls 2 [(0, .ref (ad r0))]) (hf : m_10_laysOrder r0 Q σ) : W p l e R s m args below meth c H locs cells slots QW (F0 m 0 ls []) := by
  have hx := S.1.1
  have hb := S.1.2.1
  unfold m_10_laysOrder at hf
  refine lv_iconst (v := (0 : Int32)) hx hb d_10_laysOrder_0 (by decide) ?_
  refine lv_istore_n (lv' := [(1, .int (0 : Int32)), (0, .ref (ad r0))]) hx hb d_10_laysOrder_1 rfl hl (by decide) rfl (fun ls hl => ?_)
  exact lp_10_laysOrder_2 S hR hk_r0  FU _ _ _ _ _  hG (lv_sub hl [1, 0] rfl) hf
theorem c_10_laysOrder (l : Launch) {D : va_G} {ac : Nat → ClassId} {ad st : Nat → Nat} {A : Nat → Prop} {σ : St} {r0 : Nat} {Q : St → Prop} (hk_r0 : kd r0 = 10) (hf : m_10_laysOrder r0 Q σ) : Met l y_10_laysOrder (Cond.code y_10_laysOrder prog_12_method_58_code 2 none :: wA) { frames := 0, cells := 0, slots := 0, locals := 0 } (va_Pc [.ref (ad r0)] (GSt A D ac ad st σ)) (va_Qv Q (GSt A D ac ad st) A) 0 0 A :=
  mkV l (by decide +kernel) rfl [.ref (ad r0)] (Nat.le_of_ble_eq_true rfl) (fun p e s m args below meth c ls QW S hR hG hl => w_10_laysOrder_0 S hR hk_r0 hG hl hf)
set_option maxHeartbeats 4000000 in
set_option maxRecDepth 100000 in
theorem w_10_shift_0 {r0 : Nat} {Q : Int32 → St → Prop} {σ : St} {H : Heap} {locs : List Loc} {ls : Array Slot} (S : SC A D ac st p m c prog_12_method_59_code 1 s args "SweeperRoundsModel" R cells slots 5 120) (hR : RtI A D ac ad p l e R s m args below meth c prog_12_method_59_code cells slots QW Q) (hk_r0 : kd r0 = 10) (hG : DG A D ac ad s σ H locs) (hl : lv_has ls 1 [(0, .ref (ad r0))]) (hf : m_10_shift r0 Q σ) : W p l e R s m args below meth c H locs cells slots QW (F0 m 0 ls []) := by
  have hx := S.1.1
  have hb := S.1.2.1
  unfold m_10_shift at hf
  refine lv_aload_n hx hb d_10_shift_0 rfl (lv_at hl 0 rfl) ?_
  refine iv_10_56 S hl.1 hG hk_r0 (c_10_records l hk_r0 hf) ⟨Nat.le_of_ble_eq_true rfl, Nat.le_of_ble_eq_true rfl⟩ (Nat.le_of_ble_eq_true rfl) d_10_shift_1 (fun σ_1 hf H locs hG => ?_)
  refine lv_aload_n hx hb d_10_shift_4 rfl (lv_at hl 0 rfl) ?_
  refine iv_10_176 S hl.1 hG hk_r0 (c_10_laysOrder l hk_r0 hf) ⟨Nat.le_of_ble_eq_true rfl, Nat.le_of_ble_eq_true rfl⟩ (Nat.le_of_ble_eq_true rfl) d_10_shift_5 (fun σ_3 hf H locs hG => ?_)
  refine lv_aload_n hx hb d_10_shift_8 rfl (lv_at hl 0 rfl) ?_
  refine iv_10_179 S hl.1 hG hk_r0 (c_10_goesThrough l hk_r0 hf) ⟨Nat.le_of_ble_eq_true rfl, Nat.le_of_ble_eq_true rfl⟩ (Nat.le_of_ble_eq_true rfl) d_10_shift_9 (fun σ_5 hf H locs hG => ?_)
  refine lv_aload_n hx hb d_10_shift_12 rfl (lv_at hl 0 rfl) ?_
  refine lv_iconst (v := (3 : Int32)) hx hb d_10_shift_13 (by decide) ?_
  refine iv_10_148 S hl.1 hG hk_r0 (c_10_latestOf l hk_r0 hf) ⟨Nat.le_of_ble_eq_true rfl, Nat.le_of_ble_eq_true rfl⟩ (Nat.le_of_ble_eq_true rfl) d_10_shift_14 (fun v_8 σ_7 hf H locs hG => ?_)
  exact hR _ _ _ _ _ _ hG hf d_10_shift_17
theorem c_10_shift (l : Launch) {D : va_G} {ac : Nat → ClassId} {ad st : Nat → Nat} {A : Nat → Prop} {σ : St} {r0 : Nat} {Q : Int32 → St → Prop} (hk_r0 : kd r0 = 10) (hf : m_10_shift r0 Q σ) : Met l y_10_shift (Cond.code y_10_shift prog_12_method_59_code 1 (some .int) :: wA) { frames := 5, cells := 0, slots := 0, locals := 120 } (va_Pc [.ref (ad r0)] (GSt A D ac ad st σ)) (va_Qi Q (GSt A D ac ad st) A) 0 0 A :=
  mkI l (by decide +kernel) rfl [.ref (ad r0)] (Nat.le_of_ble_eq_true rfl) (fun p e s m args below meth c ls QW S hR hG hl => w_10_shift_0 S hR hk_r0 hG hl hf)
set_option maxHeartbeats 4000000 in
set_option maxRecDepth 100000 in
theorem w_10_latest_0 {r0 : Nat} {x1 : Int32} {Q : Int32 → St → Prop} {σ : St} {H : Heap} {locs : List Loc} {ls : Array Slot} (S : SC A D ac st p m c prog_12_method_60_code 2 s args "SweeperRoundsModel" R cells slots 1 22) (hR : RtI A D ac ad p l e R s m args below meth c prog_12_method_60_code cells slots QW Q) (hk_r0 : kd r0 = 10) (hG : DG A D ac ad s σ H locs) (hl : lv_has ls 2 [(0, .ref (ad r0)), (1, .int x1)]) (hf : m_10_latest r0 x1 Q σ) : W p l e R s m args below meth c H locs cells slots QW (F0 m 0 ls []) := by
  have hx := S.1.1
  have hb := S.1.2.1
  unfold m_10_latest at hf
  refine lv_iload_n hx hb d_10_latest_0 rfl (lv_at hl 1 rfl) ?_
  refine lv_iconst (v := (0 : Int32)) hx hb d_10_latest_1 (by decide) ?_
  refine lv_iconst (v := (5 : Int32)) hx hb d_10_latest_2 (by decide) ?_
  refine iv_10_40 S hl.1 hG  (c_10_in l  hf) ⟨Nat.le_of_ble_eq_true rfl, Nat.le_of_ble_eq_true rfl⟩ (Nat.le_of_ble_eq_true rfl) d_10_latest_3 (fun v_2 σ_1 hf H locs hG => ?_)
  refine lv_if_ne (tgt := 11) hx hb d_10_latest_6 (by decide) (fun hc => ?_) (fun hc => ?_)
  · have hf := hf.1 hc
    refine lv_aload_n hx hb d_10_latest_11 rfl (lv_at hl 0 rfl) ?_
    refine gf_10_7 S hG hk_r0 d_10_latest_12 ?_
    refine lv_sipush (v := (555 : Int32)) hx hb d_10_latest_15 (by decide) ?_
    refine mia S hG 30 rfl rfl (kr_10_0 hk_r0) hf.1 d_10_latest_18 ?_
    have hf := hf.2
    refine lv_if_ne (tgt := 27) hx hb d_10_latest_19 (by decide) (fun hc => ?_) (fun hc => ?_)
    · have hf := hf.1 hc
      refine lv_aload_n hx hb d_10_latest_27 rfl (lv_at hl 0 rfl) ?_
      refine lv_iload_n hx hb d_10_latest_28 rfl (lv_at hl 1 rfl) ?_
      refine iv_10_148 S hl.1 hG hk_r0 (c_10_latestOf l hk_r0 hf) ⟨Nat.le_of_ble_eq_true rfl, Nat.le_of_ble_eq_true rfl⟩ (Nat.le_of_ble_eq_true rfl) d_10_latest_29 (fun v_4 σ_3 hf H locs hG => ?_)
      exact hR _ _ _ _ _ _ hG hf d_10_latest_32
    · have hf := hf.2 hc
      refine lv_bipush (v := (-9 : Int32)) hx hb d_10_latest_22 (by decide) ?_
      refine lv_goto (tgt := 32) hx hb d_10_latest_24 (by decide) ?_
      exact hR _ _ _ _ _ _ hG hf d_10_latest_32
  · have hf := hf.2 hc
    refine lv_iconst (v := (-1 : Int32)) hx hb d_10_latest_9 (by decide) ?_
    exact hR _ _ _ _ _ _ hG hf d_10_latest_10
theorem c_10_latest (l : Launch) {D : va_G} {ac : Nat → ClassId} {ad st : Nat → Nat} {A : Nat → Prop} {σ : St} {r0 : Nat} {x1 : Int32} {Q : Int32 → St → Prop} (hk_r0 : kd r0 = 10) (hf : m_10_latest r0 x1 Q σ) : Met l y_10_latest (Cond.code y_10_latest prog_12_method_60_code 2 (some .int) :: wA) { frames := 1, cells := 0, slots := 0, locals := 22 } (va_Pc [.ref (ad r0), .int x1] (GSt A D ac ad st σ)) (va_Qi Q (GSt A D ac ad st) A) 0 0 A :=
  mkI l (by decide +kernel) rfl [.ref (ad r0), .int x1] (Nat.le_of_ble_eq_true rfl) (fun p e s m args below meth c ls QW S hR hG hl => w_10_latest_0 S hR hk_r0 hG hl hf)
set_option maxHeartbeats 4000000 in
set_option maxRecDepth 100000 in
theorem w_10_onStreets_4 {r0 : Nat} {Q : Int32 → St → Prop} {B4 : Int32 → Int32 → St → Prop} {x1 : Int32} {x2 : Int32} {σ : St} {H : Heap} {locs : List Loc} {ls : Array Slot} (S : SC A D ac st p m c prog_12_method_61_code 3 s args "SweeperRoundsModel" R cells slots 3 69) (hR : RtI A D ac ad p l e R s m args below meth c prog_12_method_61_code cells slots QW Q) (hk_r0 : kd r0 = 10) (hB4 : ∀ (x1 : Int32) (x2 : Int32) (σ : St) (H : Heap) (locs : List Loc) (ls : Array Slot), DG A D ac ad s σ H locs → lv_has ls 3 [(0, .ref (ad r0)), (1, .int x1), (2, .int x2)] → B4 x1 x2 σ → W p l e R s m args below meth c H locs cells slots QW (F0 m 4 ls [])) (hG : DG A D ac ad s σ H locs) (hl : lv_has ls 3 [(0, .ref (ad r0)), (1, .int x1), (2, .int x2)]) (hf : m_10_onStreets_4 r0 Q B4 x1 x2 σ) : W p l e R s m args below meth c H locs cells slots QW (F0 m 4 ls []) := by
  have hx := S.1.1
  have hb := S.1.2.1
  unfold m_10_onStreets_4 at hf
  refine lv_iload_n hx hb d_10_onStreets_4 rfl (lv_at hl 2 rfl) ?_
  refine lv_aload_n hx hb d_10_onStreets_5 rfl (lv_at hl 0 rfl) ?_
  refine gf_10_7 S hG hk_r0 d_10_onStreets_6 ?_
  refine lv_iconst (v := (0 : Int32)) hx hb d_10_onStreets_9 (by decide) ?_
  refine mia S hG 30 rfl rfl (kr_10_0 hk_r0) hf.1 d_10_onStreets_10 ?_
  have hf := hf.2
  refine lv_icmp_ge (tgt := 36) hx hb d_10_onStreets_11 (by decide) (fun hc => ?_) (fun hc => ?_)
  · have hf := hf.1 hc
    refine lv_iload_n hx hb d_10_onStreets_36 rfl (lv_at hl 1 rfl) ?_
    exact hR _ _ _ _ _ _ hG hf d_10_onStreets_37
  · have hf := hf.2 hc
    refine lv_iload_n hx hb d_10_onStreets_14 rfl (lv_at hl 1 rfl) ?_
    refine lv_aload_n hx hb d_10_onStreets_15 rfl (lv_at hl 0 rfl) ?_
    refine lv_iload_n hx hb d_10_onStreets_16 rfl (lv_at hl 2 rfl) ?_
    refine lv_iconst (v := (0 : Int32)) hx hb d_10_onStreets_17 (by decide) ?_
    refine iv_10_63 S hl.1 hG hk_r0 (c_10_sideSum l hk_r0 hf) ⟨Nat.le_of_ble_eq_true rfl, Nat.le_of_ble_eq_true rfl⟩ (Nat.le_of_ble_eq_true rfl) d_10_onStreets_18 (fun v_2 σ_1 hf H locs hG => ?_)
    refine lv_aload_n hx hb d_10_onStreets_21 rfl (lv_at hl 0 rfl) ?_
    refine lv_iload_n hx hb d_10_onStreets_22 rfl (lv_at hl 2 rfl) ?_
    refine lv_iconst (v := (1 : Int32)) hx hb d_10_onStreets_23 (by decide) ?_
    refine iv_10_63 S hl.1 hG hk_r0 (c_10_sideSum l hk_r0 hf) ⟨Nat.le_of_ble_eq_true rfl, Nat.le_of_ble_eq_true rfl⟩ (Nat.le_of_ble_eq_true rfl) d_10_onStreets_24 (fun v_4 σ_3 hf H locs hG => ?_)
    refine lv_iadd hx hb d_10_onStreets_27 ?_
    refine lv_iadd hx hb d_10_onStreets_28 ?_
    refine lv_topi (fun x1_5 ex1_5 => ?_)
    have hf := hf x1_5 ex1_5
    refine lv_istore_n (lv' := [(1, .int x1_5), (0, .ref (ad r0)), (2, .int x2)]) hx hb d_10_onStreets_29 rfl hl (by decide) rfl (fun ls hl => ?_)
    obtain ⟨x2_6, ex2_6⟩ : ∃ y : Int32, y = x2 + 1 := ⟨_, rfl⟩
    have hf := hf x2_6 ex2_6
    refine lv_iinc (v := x2_6) (lv' := [(2, .int x2_6), (1, .int x1_5), (0, .ref (ad r0))]) hx hb d_10_onStreets_30 hl (k := 2) rfl (by rw [ex2_6]; rfl) (by decide) rfl (fun ls hl => ?_)
    refine lv_goto (tgt := 4) hx hb d_10_onStreets_33 (by decide) ?_
    exact hB4 _ _ _ _ _ _  hG (lv_sub hl [2, 1, 0] rfl) hf
set_option maxHeartbeats 4000000 in
set_option maxRecDepth 100000 in
theorem lp_10_onStreets_4 {r0 : Nat} {Q : Int32 → St → Prop} (S : SC A D ac st p m c prog_12_method_61_code 3 s args "SweeperRoundsModel" R cells slots 3 69) (hR : RtI A D ac ad p l e R s m args below meth c prog_12_method_61_code cells slots QW Q) (hk_r0 : kd r0 = 10) : ∀ (n : Nat) (x1 : Int32) (x2 : Int32) (σ : St) (H : Heap) (locs : List Loc) (ls : Array Slot), DG A D ac ad s σ H locs → lv_has ls 3 [(0, .ref (ad r0)), (1, .int x1), (2, .int x2)] → itN (m_10_onStreets_4 r0 Q) (fun _ _ _ => False) n x1 x2 σ → W p l e R s m args below meth c H locs cells slots QW (F0 m 4 ls []) := by
  intro n
  induction n with
  | zero =>
    intro x1 x2 σ H locs ls  hG hl hf
    exact hf.elim
  | succ n ih =>
    intro x1 x2 σ H locs ls  hG hl hf
    exact w_10_onStreets_4 S hR hk_r0  ih hG hl hf
set_option maxHeartbeats 4000000 in
set_option maxRecDepth 100000 in
theorem w_10_onStreets_0 {r0 : Nat} {Q : Int32 → St → Prop} {σ : St} {H : Heap} {locs : List Loc} {ls : Array Slot} (S : SC A D ac st p m c prog_12_method_61_code 3 s args "SweeperRoundsModel" R cells slots 3 69) (hR : RtI A D ac ad p l e R s m args below meth c prog_12_method_61_code cells slots QW Q) (hk_r0 : kd r0 = 10) (hG : DG A D ac ad s σ H locs) (hl : lv_has ls 3 [(0, .ref (ad r0))]) (hf : m_10_onStreets r0 Q σ) : W p l e R s m args below meth c H locs cells slots QW (F0 m 0 ls []) := by
  have hx := S.1.1
  have hb := S.1.2.1
  unfold m_10_onStreets at hf
  refine lv_iconst (v := (0 : Int32)) hx hb d_10_onStreets_0 (by decide) ?_
  refine lv_istore_n (lv' := [(1, .int (0 : Int32)), (0, .ref (ad r0))]) hx hb d_10_onStreets_1 rfl hl (by decide) rfl (fun ls hl => ?_)
  refine lv_iconst (v := (0 : Int32)) hx hb d_10_onStreets_2 (by decide) ?_
  refine lv_istore_n (lv' := [(2, .int (0 : Int32)), (1, .int (0 : Int32)), (0, .ref (ad r0))]) hx hb d_10_onStreets_3 rfl hl (by decide) rfl (fun ls hl => ?_)
  exact lp_10_onStreets_4 S hR hk_r0  FU _ _ _ _ _ _  hG (lv_sub hl [2, 1, 0] rfl) hf
theorem c_10_onStreets (l : Launch) {D : va_G} {ac : Nat → ClassId} {ad st : Nat → Nat} {A : Nat → Prop} {σ : St} {r0 : Nat} {Q : Int32 → St → Prop} (hk_r0 : kd r0 = 10) (hf : m_10_onStreets r0 Q σ) : Met l y_10_onStreets (Cond.code y_10_onStreets prog_12_method_61_code 3 (some .int) :: wA) { frames := 3, cells := 0, slots := 0, locals := 69 } (va_Pc [.ref (ad r0)] (GSt A D ac ad st σ)) (va_Qi Q (GSt A D ac ad st) A) 0 0 A :=
  mkI l (by decide +kernel) rfl [.ref (ad r0)] (Nat.le_of_ble_eq_true rfl) (fun p e s m args below meth c ls QW S hR hG hl => w_10_onStreets_0 S hR hk_r0 hG hl hf)
set_option maxHeartbeats 4000000 in
set_option maxRecDepth 100000 in
theorem w_10_falls_72 {r0 : Nat} {x1 : Int32} {x2 : Int32} {x3 : Int32} {x4 : Int32} {B21 : Int32 → St → Prop} {Q : St → Prop} {t0 : Int32} {t1 : Int32} {t2 : Nat} {σ : St} {H : Heap} {locs : List Loc} {ls : Array Slot} (S : SC A D ac st p m c prog_12_method_62_code 5 s args "SweeperRoundsModel" R cells slots 2 45) (hR : RtV A D ac ad p l e R s m args below meth c prog_12_method_62_code cells slots QW Q) (hk_r0 : kd r0 = 10) (hk_t2 : kd t2 = 10) (hB21 : ∀ (x3 : Int32) (σ : St) (H : Heap) (locs : List Loc) (ls : Array Slot), DG A D ac ad s σ H locs → lv_has ls 5 [(0, .ref (ad r0)), (1, .int x1), (2, .int x2), (3, .int x3)] → B21 x3 σ → W p l e R s m args below meth c H locs cells slots QW (F0 m 21 ls [])) (hG : DG A D ac ad s σ H locs) (hl : lv_has ls 5 [(0, .ref (ad r0)), (1, .int x1), (2, .int x2), (3, .int x3), (4, .int x4)]) (hf : m_10_falls_72 r0 x1 x2 x3 x4 B21 Q t0 t1 t2 σ) : W p l e R s m args below meth c H locs cells slots QW (F0 m 72 ls [.int t0, .int t1, .ref (ad t2)]) := by
  have hx := S.1.1
  have hb := S.1.2.1
  unfold m_10_falls_72 at hf
  refine iv_10_66 S hl.1 hG hk_t2 (c_10_books l hk_t2 hf) ⟨Nat.le_of_ble_eq_true rfl, Nat.le_of_ble_eq_true rfl⟩ (Nat.le_of_ble_eq_true rfl) d_10_falls_72 (fun σ_1 hf H locs hG => ?_)
  refine lv_aload_n hx hb d_10_falls_75 rfl (lv_at hl 0 rfl) ?_
  refine lv_iload_n hx hb d_10_falls_76 rfl (lv_at hl 1 rfl) ?_
  refine lv_iconst (v := (3 : Int32)) hx hb d_10_falls_77 (by decide) ?_
  refine lv_iload_n hx hb d_10_falls_78 rfl (lv_at hl 3 rfl) ?_
  refine lv_iconst (v := (2 : Int32)) hx hb d_10_falls_79 (by decide) ?_
  refine lv_irem hx hb d_10_falls_80 (by decide) ?_
  refine lv_iload_n hx hb d_10_falls_81 rfl (lv_at hl 3 rfl) ?_
  refine lv_iconst (v := (2 : Int32)) hx hb d_10_falls_82 (by decide) ?_
  refine lv_idiv hx hb d_10_falls_83 (by decide) ?_
  refine iv_10_33 S hl.1 hG  (c_10_placeOf l  hf) ⟨Nat.le_of_ble_eq_true rfl, Nat.le_of_ble_eq_true rfl⟩ (Nat.le_of_ble_eq_true rfl) d_10_falls_84 (fun v_4 σ_3 hf H locs hG => ?_)
  refine lv_iadd hx hb d_10_falls_87 ?_
  refine lv_iload hx hb d_10_falls_88 (lv_at hl 4 rfl) ?_
  refine lv_bipush (v := (99 : Int32)) hx hb d_10_falls_90 (by decide) ?_
  refine iv_10_129 S hl.1 hG  (c_10_lesser l  hf) ⟨Nat.le_of_ble_eq_true rfl, Nat.le_of_ble_eq_true rfl⟩ (Nat.le_of_ble_eq_true rfl) d_10_falls_92 (fun v_6 σ_5 hf H locs hG => ?_)
  refine iv_10_52 S hl.1 hG hk_r0 (c_10_sets l hk_r0 hf) ⟨Nat.le_of_ble_eq_true rfl, Nat.le_of_ble_eq_true rfl⟩ (Nat.le_of_ble_eq_true rfl) d_10_falls_95 (fun σ_7 hf H locs hG => ?_)
  obtain ⟨x3_9, ex3_9⟩ : ∃ y : Int32, y = x3 + 1 := ⟨_, rfl⟩
  have hf := hf x3_9 ex3_9
  refine lv_iinc (v := x3_9) (lv' := [(3, .int x3_9), (0, .ref (ad r0)), (1, .int x1), (2, .int x2), (4, .int x4)]) hx hb d_10_falls_98 hl (k := 3) rfl (by rw [ex3_9]; rfl) (by decide) rfl (fun ls hl => ?_)
  refine lv_goto (tgt := 21) hx hb d_10_falls_101 (by decide) ?_
  exact hB21 _ _ _ _ _  hG (lv_sub hl [1, 2, 3, 0] rfl) hf
set_option maxHeartbeats 4000000 in
set_option maxRecDepth 100000 in
theorem w_10_falls_21 {r0 : Nat} {x1 : Int32} {x2 : Int32} {Q : St → Prop} {B21 : Int32 → St → Prop} {x3 : Int32} {σ : St} {H : Heap} {locs : List Loc} {ls : Array Slot} (S : SC A D ac st p m c prog_12_method_62_code 5 s args "SweeperRoundsModel" R cells slots 2 45) (hR : RtV A D ac ad p l e R s m args below meth c prog_12_method_62_code cells slots QW Q) (hk_r0 : kd r0 = 10) (hB21 : ∀ (x3 : Int32) (σ : St) (H : Heap) (locs : List Loc) (ls : Array Slot), DG A D ac ad s σ H locs → lv_has ls 5 [(0, .ref (ad r0)), (1, .int x1), (2, .int x2), (3, .int x3)] → B21 x3 σ → W p l e R s m args below meth c H locs cells slots QW (F0 m 21 ls [])) (hG : DG A D ac ad s σ H locs) (hl : lv_has ls 5 [(0, .ref (ad r0)), (1, .int x1), (2, .int x2), (3, .int x3)]) (hf : m_10_falls_21 r0 x1 x2 Q B21 x3 σ) : W p l e R s m args below meth c H locs cells slots QW (F0 m 21 ls []) := by
  have hx := S.1.1
  have hb := S.1.2.1
  unfold m_10_falls_21 at hf
  refine lv_iload_n hx hb d_10_falls_21 rfl (lv_at hl 3 rfl) ?_
  refine lv_iconst (v := (2 : Int32)) hx hb d_10_falls_22 (by decide) ?_
  refine lv_aload_n hx hb d_10_falls_23 rfl (lv_at hl 0 rfl) ?_
  refine lv_iload_n hx hb d_10_falls_24 rfl (lv_at hl 1 rfl) ?_
  refine lv_iconst (v := (0 : Int32)) hx hb d_10_falls_25 (by decide) ?_
  refine iv_10_37 S hl.1 hG hk_r0 (c_10_of l hk_r0 hf) ⟨Nat.le_of_ble_eq_true rfl, Nat.le_of_ble_eq_true rfl⟩ (Nat.le_of_ble_eq_true rfl) d_10_falls_26 (fun v_2 σ_1 hf H locs hG => ?_)
  refine lv_imul hx hb d_10_falls_29 ?_
  refine lv_icmp_ge (tgt := 104) hx hb d_10_falls_30 (by decide) (fun hc => ?_) (fun hc => ?_)
  · have hf := hf.1 hc
    exact hR _ _ _ _ _ hG hf d_10_falls_104
  · have hf := hf.2 hc
    refine lv_aload_n hx hb d_10_falls_33 rfl (lv_at hl 0 rfl) ?_
    refine lv_iload_n hx hb d_10_falls_34 rfl (lv_at hl 1 rfl) ?_
    refine lv_iload_n hx hb d_10_falls_35 rfl (lv_at hl 3 rfl) ?_
    refine lv_iconst (v := (2 : Int32)) hx hb d_10_falls_36 (by decide) ?_
    refine lv_irem hx hb d_10_falls_37 (by decide) ?_
    refine lv_iload_n hx hb d_10_falls_38 rfl (lv_at hl 3 rfl) ?_
    refine lv_iconst (v := (2 : Int32)) hx hb d_10_falls_39 (by decide) ?_
    refine lv_idiv hx hb d_10_falls_40 (by decide) ?_
    refine iv_10_48 S hl.1 hG hk_r0 (c_10_dirtOf l hk_r0 hf) ⟨Nat.le_of_ble_eq_true rfl, Nat.le_of_ble_eq_true rfl⟩ (Nat.le_of_ble_eq_true rfl) d_10_falls_41 (fun v_4 σ_3 hf H locs hG => ?_)
    refine lv_iload_n hx hb d_10_falls_44 rfl (lv_at hl 2 rfl) ?_
    refine lv_iadd hx hb d_10_falls_45 ?_
    refine lv_topi (fun x4_5 ex4_5 => ?_)
    have hf := hf x4_5 ex4_5
    refine lv_istore (lv' := [(4, .int x4_5), (0, .ref (ad r0)), (1, .int x1), (2, .int x2), (3, .int x3)]) hx hb d_10_falls_46 hl (by decide) rfl (fun ls hl => ?_)
    refine lv_aload_n hx hb d_10_falls_48 rfl (lv_at hl 1 rfl) ?_
    refine lv_iconst (v := (1 : Int32)) hx hb d_10_falls_49 (by decide) ?_
    refine lv_iload_n hx hb d_10_falls_50 rfl (lv_at hl 3 rfl) ?_
    refine iv_10_66 S hl.1 hG hk_r0 (c_10_books l hk_r0 hf) ⟨Nat.le_of_ble_eq_true rfl, Nat.le_of_ble_eq_true rfl⟩ (Nat.le_of_ble_eq_true rfl) d_10_falls_51 (fun σ_6 hf H locs hG => ?_)
    refine lv_aload_n hx hb d_10_falls_54 rfl (lv_at hl 1 rfl) ?_
    refine lv_iconst (v := (3 : Int32)) hx hb d_10_falls_55 (by decide) ?_
    refine lv_iload hx hb d_10_falls_56 (lv_at hl 0 rfl) ?_
    refine lv_bipush (v := (99 : Int32)) hx hb d_10_falls_58 (by decide) ?_
    refine lv_icmp_le (tgt := 71) hx hb d_10_falls_60 (by decide) (fun hc => ?_) (fun hc => ?_)
    · have hf := hf.1 hc
      refine lv_iconst (v := (0 : Int32)) hx hb d_10_falls_71 (by decide) ?_
      exact w_10_falls_72 S hR hk_r0  hk_r0 hB21 hG (lv_sub hl [1, 2, 3, 4, 0] rfl) hf
    · have hf := hf.2 hc
      refine lv_iload hx hb d_10_falls_63 (lv_at hl 0 rfl) ?_
      refine lv_bipush (v := (99 : Int32)) hx hb d_10_falls_65 (by decide) ?_
      refine lv_isub hx hb d_10_falls_67 ?_
      refine lv_goto (tgt := 72) hx hb d_10_falls_68 (by decide) ?_
      exact w_10_falls_72 S hR hk_r0  hk_r0 hB21 hG (lv_sub hl [1, 2, 3, 4, 0] rfl) hf
set_option maxHeartbeats 4000000 in
set_option maxRecDepth 100000 in
theorem lp_10_falls_21 {r0 : Nat} {x1 : Int32} {x2 : Int32} {Q : St → Prop} (S : SC A D ac st p m c prog_12_method_62_code 5 s args "SweeperRoundsModel" R cells slots 2 45) (hR : RtV A D ac ad p l e R s m args below meth c prog_12_method_62_code cells slots QW Q) (hk_r0 : kd r0 = 10) : ∀ (n : Nat) (x3 : Int32) (σ : St) (H : Heap) (locs : List Loc) (ls : Array Slot), DG A D ac ad s σ H locs → lv_has ls 5 [(0, .ref (ad r0)), (1, .int x1), (2, .int x2), (3, .int x3)] → itN (m_10_falls_21 r0 x1 x2 Q) (fun _ _ => False) n x3 σ → W p l e R s m args below meth c H locs cells slots QW (F0 m 21 ls []) := by
  intro n
  induction n with
  | zero =>
    intro x3 σ H locs ls  hG hl hf
    exact hf.elim
  | succ n ih =>
    intro x3 σ H locs ls  hG hl hf
    exact w_10_falls_21 S hR hk_r0  ih hG hl hf
set_option maxHeartbeats 4000000 in
set_option maxRecDepth 100000 in
theorem w_10_falls_0 {r0 : Nat} {x1 : Int32} {Q : St → Prop} {σ : St} {H : Heap} {locs : List Loc} {ls : Array Slot} (S : SC A D ac st p m c prog_12_method_62_code 5 s args "SweeperRoundsModel" R cells slots 2 45) (hR : RtV A D ac ad p l e R s m args below meth c prog_12_method_62_code cells slots QW Q) (hk_r0 : kd r0 = 10) (hG : DG A D ac ad s σ H locs) (hl : lv_has ls 5 [(0, .ref (ad r0)), (1, .int x1)]) (hf : m_10_falls r0 x1 Q σ) : W p l e R s m args below meth c H locs cells slots QW (F0 m 0 ls []) := by
  have hx := S.1.1
  have hb := S.1.2.1
  unfold m_10_falls at hf
  refine lv_aload_n hx hb d_10_falls_0 rfl (lv_at hl 0 rfl) ?_
  refine lv_iload_n hx hb d_10_falls_1 rfl (lv_at hl 1 rfl) ?_
  refine lv_iconst (v := (2 : Int32)) hx hb d_10_falls_2 (by decide) ?_
  refine iv_10_37 S hl.1 hG hk_r0 (c_10_of l hk_r0 hf) ⟨Nat.le_of_ble_eq_true rfl, Nat.le_of_ble_eq_true rfl⟩ (Nat.le_of_ble_eq_true rfl) d_10_falls_3 (fun v_2 σ_1 hf H locs hG => ?_)
  refine lv_aload_n hx hb d_10_falls_6 rfl (lv_at hl 0 rfl) ?_
  refine gf_10_7 S hG hk_r0 d_10_falls_7 ?_
  refine lv_sipush (v := (504 : Int32)) hx hb d_10_falls_10 (by decide) ?_
  refine mia S hG 30 rfl rfl (kr_10_0 hk_r0) hf.1 d_10_falls_13 ?_
  have hf := hf.2
  refine lv_imul hx hb d_10_falls_14 ?_
  refine lv_bipush (v := (100 : Int32)) hx hb d_10_falls_15 (by decide) ?_
  refine lv_idiv hx hb d_10_falls_17 (by decide) ?_
  refine lv_topi (fun x2_3 ex2_3 => ?_)
  have hf := hf x2_3 ex2_3
  refine lv_istore_n (lv' := [(2, .int x2_3), (0, .ref (ad r0)), (1, .int x1)]) hx hb d_10_falls_18 rfl hl (by decide) rfl (fun ls hl => ?_)
  refine lv_iconst (v := (0 : Int32)) hx hb d_10_falls_19 (by decide) ?_
  refine lv_istore_n (lv' := [(3, .int (0 : Int32)), (2, .int x2_3), (0, .ref (ad r0)), (1, .int x1)]) hx hb d_10_falls_20 rfl hl (by decide) rfl (fun ls hl => ?_)
  exact lp_10_falls_21 S hR hk_r0  FU _ _ _ _ _  hG (lv_sub hl [2, 3, 1, 0] rfl) hf
theorem c_10_falls (l : Launch) {D : va_G} {ac : Nat → ClassId} {ad st : Nat → Nat} {A : Nat → Prop} {σ : St} {r0 : Nat} {x1 : Int32} {Q : St → Prop} (hk_r0 : kd r0 = 10) (hf : m_10_falls r0 x1 Q σ) : Met l y_10_falls (Cond.code y_10_falls prog_12_method_62_code 5 none :: wA) { frames := 2, cells := 0, slots := 0, locals := 45 } (va_Pc [.ref (ad r0), .int x1] (GSt A D ac ad st σ)) (va_Qv Q (GSt A D ac ad st) A) 0 0 A :=
  mkV l (by decide +kernel) rfl [.ref (ad r0), .int x1] (Nat.le_of_ble_eq_true rfl) (fun p e s m args below meth c ls QW S hR hG hl => w_10_falls_0 S hR hk_r0 hG hl hf)
set_option maxHeartbeats 4000000 in
set_option maxRecDepth 100000 in
theorem w_10_night_25 {r0 : Nat} {x1 : Int32} {x2 : Int32} {B18 : Int32 → St → Prop} {Q : Int32 → St → Prop} {B25 : Int32 → St → Prop} {x3 : Int32} {σ : St} {H : Heap} {locs : List Loc} {ls : Array Slot} (S : SC A D ac st p m c prog_12_method_63_code 4 s args "SweeperRoundsModel" R cells slots 4 91) (hR : RtI A D ac ad p l e R s m args below meth c prog_12_method_63_code cells slots QW Q) (hk_r0 : kd r0 = 10) (hB18 : ∀ (x2 : Int32) (σ : St) (H : Heap) (locs : List Loc) (ls : Array Slot), DG A D ac ad s σ H locs → lv_has ls 4 [(0, .ref (ad r0)), (1, .int x1), (2, .int x2)] → B18 x2 σ → W p l e R s m args below meth c H locs cells slots QW (F0 m 18 ls [])) (hB25 : ∀ (x3 : Int32) (σ : St) (H : Heap) (locs : List Loc) (ls : Array Slot), DG A D ac ad s σ H locs → lv_has ls 4 [(0, .ref (ad r0)), (1, .int x1), (2, .int x2), (3, .int x3)] → B25 x3 σ → W p l e R s m args below meth c H locs cells slots QW (F0 m 25 ls [])) (hG : DG A D ac ad s σ H locs) (hl : lv_has ls 4 [(0, .ref (ad r0)), (1, .int x1), (2, .int x2), (3, .int x3)]) (hf : m_10_night_25 r0 x1 x2 B18 Q B25 x3 σ) : W p l e R s m args below meth c H locs cells slots QW (F0 m 25 ls []) := by
  have hx := S.1.1
  have hb := S.1.2.1
  unfold m_10_night_25 at hf
  refine lv_iload_n hx hb d_10_night_25 rfl (lv_at hl 3 rfl) ?_
  refine lv_aload_n hx hb d_10_night_26 rfl (lv_at hl 0 rfl) ?_
  refine gf_10_7 S hG hk_r0 d_10_night_27 ?_
  refine lv_iconst (v := (0 : Int32)) hx hb d_10_night_30 (by decide) ?_
  refine mia S hG 30 rfl rfl (kr_10_0 hk_r0) hf.1 d_10_night_31 ?_
  have hf := hf.2
  refine lv_icmp_ge (tgt := 46) hx hb d_10_night_32 (by decide) (fun hc => ?_) (fun hc => ?_)
  · have hf := hf.1 hc
    refine lv_aload_n hx hb d_10_night_46 rfl (lv_at hl 0 rfl) ?_
    refine gf_10_7 S hG hk_r0 d_10_night_47 ?_
    refine lv_sipush (v := (563 : Int32)) hx hb d_10_night_50 (by decide) ?_
    refine lv_dup2_11 hx hb d_10_night_53 rfl rfl ?_
    refine mia S hG 30 rfl rfl (kr_10_0 hk_r0) hf.1 d_10_night_54 ?_
    have hf := hf.2
    refine lv_iconst (v := (1 : Int32)) hx hb d_10_night_55 (by decide) ?_
    refine lv_iadd hx hb d_10_night_56 ?_
    refine mis S hG 30 rfl rfl (kr_10_0 hk_r0) hf.1 d_10_night_57 (fun σ_1 eσ_1 H locs hG => ?_)
    have hf := hf.2 σ_1 eσ_1
    obtain ⟨x2_2, ex2_2⟩ : ∃ y : Int32, y = x2 + 1 := ⟨_, rfl⟩
    have hf := hf x2_2 ex2_2
    refine lv_iinc (v := x2_2) (lv' := [(2, .int x2_2), (0, .ref (ad r0)), (1, .int x1), (3, .int x3)]) hx hb d_10_night_58 hl (k := 2) rfl (by rw [ex2_2]; rfl) (by decide) rfl (fun ls hl => ?_)
    refine lv_goto (tgt := 18) hx hb d_10_night_61 (by decide) ?_
    exact hB18 _ _ _ _ _  hG (lv_sub hl [1, 2, 0] rfl) hf
  · have hf := hf.2 hc
    refine lv_aload_n hx hb d_10_night_35 rfl (lv_at hl 0 rfl) ?_
    refine lv_iload_n hx hb d_10_night_36 rfl (lv_at hl 3 rfl) ?_
    refine iv_10_182 S hl.1 hG hk_r0 (c_10_falls l hk_r0 hf) ⟨Nat.le_of_ble_eq_true rfl, Nat.le_of_ble_eq_true rfl⟩ (Nat.le_of_ble_eq_true rfl) d_10_night_37 (fun σ_3 hf H locs hG => ?_)
    obtain ⟨x3_5, ex3_5⟩ : ∃ y : Int32, y = x3 + 1 := ⟨_, rfl⟩
    have hf := hf x3_5 ex3_5
    refine lv_iinc (v := x3_5) (lv' := [(3, .int x3_5), (0, .ref (ad r0)), (1, .int x1), (2, .int x2)]) hx hb d_10_night_40 hl (k := 3) rfl (by rw [ex3_5]; rfl) (by decide) rfl (fun ls hl => ?_)
    refine lv_goto (tgt := 25) hx hb d_10_night_43 (by decide) ?_
    exact hB25 _ _ _ _ _  hG (lv_sub hl [1, 2, 3, 0] rfl) hf
set_option maxHeartbeats 4000000 in
set_option maxRecDepth 100000 in
theorem lp_10_night_25 {r0 : Nat} {x1 : Int32} {x2 : Int32} {B18 : Int32 → St → Prop} {Q : Int32 → St → Prop} (S : SC A D ac st p m c prog_12_method_63_code 4 s args "SweeperRoundsModel" R cells slots 4 91) (hR : RtI A D ac ad p l e R s m args below meth c prog_12_method_63_code cells slots QW Q) (hk_r0 : kd r0 = 10) (hB18 : ∀ (x2 : Int32) (σ : St) (H : Heap) (locs : List Loc) (ls : Array Slot), DG A D ac ad s σ H locs → lv_has ls 4 [(0, .ref (ad r0)), (1, .int x1), (2, .int x2)] → B18 x2 σ → W p l e R s m args below meth c H locs cells slots QW (F0 m 18 ls [])) : ∀ (n : Nat) (x3 : Int32) (σ : St) (H : Heap) (locs : List Loc) (ls : Array Slot), DG A D ac ad s σ H locs → lv_has ls 4 [(0, .ref (ad r0)), (1, .int x1), (2, .int x2), (3, .int x3)] → itN (m_10_night_25 r0 x1 x2 B18 Q) (fun _ _ => False) n x3 σ → W p l e R s m args below meth c H locs cells slots QW (F0 m 25 ls []) := by
  intro n
  induction n with
  | zero =>
    intro x3 σ H locs ls  hG hl hf
    exact hf.elim
  | succ n ih =>
    intro x3 σ H locs ls  hG hl hf
    exact w_10_night_25 S hR hk_r0 hB18 ih hG hl hf
set_option maxHeartbeats 4000000 in
set_option maxRecDepth 100000 in
theorem w_10_night_18 {r0 : Nat} {x1 : Int32} {Q : Int32 → St → Prop} {B18 : Int32 → St → Prop} {x2 : Int32} {σ : St} {H : Heap} {locs : List Loc} {ls : Array Slot} (S : SC A D ac st p m c prog_12_method_63_code 4 s args "SweeperRoundsModel" R cells slots 4 91) (hR : RtI A D ac ad p l e R s m args below meth c prog_12_method_63_code cells slots QW Q) (hk_r0 : kd r0 = 10) (hB18 : ∀ (x2 : Int32) (σ : St) (H : Heap) (locs : List Loc) (ls : Array Slot), DG A D ac ad s σ H locs → lv_has ls 4 [(0, .ref (ad r0)), (1, .int x1), (2, .int x2)] → B18 x2 σ → W p l e R s m args below meth c H locs cells slots QW (F0 m 18 ls [])) (hG : DG A D ac ad s σ H locs) (hl : lv_has ls 4 [(0, .ref (ad r0)), (1, .int x1), (2, .int x2)]) (hf : m_10_night_18 r0 x1 Q B18 x2 σ) : W p l e R s m args below meth c H locs cells slots QW (F0 m 18 ls []) := by
  have hx := S.1.1
  have hb := S.1.2.1
  unfold m_10_night_18 at hf
  refine lv_iload_n hx hb d_10_night_18 rfl (lv_at hl 2 rfl) ?_
  refine lv_iload_n hx hb d_10_night_19 rfl (lv_at hl 1 rfl) ?_
  refine lv_icmp_ge (tgt := 64) hx hb d_10_night_20 (by decide) (fun hc => ?_) (fun hc => ?_)
  · have hf := hf.1 hc
    refine lv_aload_n hx hb d_10_night_64 rfl (lv_at hl 0 rfl) ?_
    refine iv_10_186 S hl.1 hG hk_r0 (c_10_onStreets l hk_r0 hf) ⟨Nat.le_of_ble_eq_true rfl, Nat.le_of_ble_eq_true rfl⟩ (Nat.le_of_ble_eq_true rfl) d_10_night_65 (fun v_2 σ_1 hf H locs hG => ?_)
    exact hR _ _ _ _ _ _ hG hf d_10_night_68
  · have hf := hf.2 hc
    refine lv_iconst (v := (0 : Int32)) hx hb d_10_night_23 (by decide) ?_
    refine lv_istore_n (lv' := [(3, .int (0 : Int32)), (0, .ref (ad r0)), (1, .int x1), (2, .int x2)]) hx hb d_10_night_24 rfl hl (by decide) rfl (fun ls hl => ?_)
    exact lp_10_night_25 S hR hk_r0 hB18 FU _ _ _ _ _  hG (lv_sub hl [1, 2, 3, 0] rfl) hf
set_option maxHeartbeats 4000000 in
set_option maxRecDepth 100000 in
theorem lp_10_night_18 {r0 : Nat} {x1 : Int32} {Q : Int32 → St → Prop} (S : SC A D ac st p m c prog_12_method_63_code 4 s args "SweeperRoundsModel" R cells slots 4 91) (hR : RtI A D ac ad p l e R s m args below meth c prog_12_method_63_code cells slots QW Q) (hk_r0 : kd r0 = 10) : ∀ (n : Nat) (x2 : Int32) (σ : St) (H : Heap) (locs : List Loc) (ls : Array Slot), DG A D ac ad s σ H locs → lv_has ls 4 [(0, .ref (ad r0)), (1, .int x1), (2, .int x2)] → itN (m_10_night_18 r0 x1 Q) (fun _ _ => False) n x2 σ → W p l e R s m args below meth c H locs cells slots QW (F0 m 18 ls []) := by
  intro n
  induction n with
  | zero =>
    intro x2 σ H locs ls  hG hl hf
    exact hf.elim
  | succ n ih =>
    intro x2 σ H locs ls  hG hl hf
    exact w_10_night_18 S hR hk_r0  ih hG hl hf
set_option maxHeartbeats 4000000 in
set_option maxRecDepth 100000 in
theorem w_10_night_0 {r0 : Nat} {x1 : Int32} {Q : Int32 → St → Prop} {σ : St} {H : Heap} {locs : List Loc} {ls : Array Slot} (S : SC A D ac st p m c prog_12_method_63_code 4 s args "SweeperRoundsModel" R cells slots 4 91) (hR : RtI A D ac ad p l e R s m args below meth c prog_12_method_63_code cells slots QW Q) (hk_r0 : kd r0 = 10) (hG : DG A D ac ad s σ H locs) (hl : lv_has ls 4 [(0, .ref (ad r0)), (1, .int x1)]) (hf : m_10_night r0 x1 Q σ) : W p l e R s m args below meth c H locs cells slots QW (F0 m 0 ls []) := by
  have hx := S.1.1
  have hb := S.1.2.1
  unfold m_10_night at hf
  refine lv_iload_n hx hb d_10_night_0 rfl (lv_at hl 1 rfl) ?_
  refine lv_iconst (v := (1 : Int32)) hx hb d_10_night_1 (by decide) ?_
  refine lv_bipush (v := (30 : Int32)) hx hb d_10_night_2 (by decide) ?_
  refine iv_10_40 S hl.1 hG  (c_10_in l  hf) ⟨Nat.le_of_ble_eq_true rfl, Nat.le_of_ble_eq_true rfl⟩ (Nat.le_of_ble_eq_true rfl) d_10_night_4 (fun v_2 σ_1 hf H locs hG => ?_)
  refine lv_if_ne (tgt := 12) hx hb d_10_night_7 (by decide) (fun hc => ?_) (fun hc => ?_)
  · have hf := hf.1 hc
    refine lv_aload_n hx hb d_10_night_12 rfl (lv_at hl 0 rfl) ?_
    refine iv_10_56 S hl.1 hG hk_r0 (c_10_records l hk_r0 hf) ⟨Nat.le_of_ble_eq_true rfl, Nat.le_of_ble_eq_true rfl⟩ (Nat.le_of_ble_eq_true rfl) d_10_night_13 (fun σ_3 hf H locs hG => ?_)
    refine lv_iconst (v := (0 : Int32)) hx hb d_10_night_16 (by decide) ?_
    refine lv_istore_n (lv' := [(2, .int (0 : Int32)), (0, .ref (ad r0)), (1, .int x1)]) hx hb d_10_night_17 rfl hl (by decide) rfl (fun ls hl => ?_)
    exact lp_10_night_18 S hR hk_r0  FU _ _ _ _ _  hG (lv_sub hl [1, 2, 0] rfl) hf
  · have hf := hf.2 hc
    refine lv_iconst (v := (-1 : Int32)) hx hb d_10_night_10 (by decide) ?_
    exact hR _ _ _ _ _ _ hG hf d_10_night_11
theorem c_10_night (l : Launch) {D : va_G} {ac : Nat → ClassId} {ad st : Nat → Nat} {A : Nat → Prop} {σ : St} {r0 : Nat} {x1 : Int32} {Q : Int32 → St → Prop} (hk_r0 : kd r0 = 10) (hf : m_10_night r0 x1 Q σ) : Met l y_10_night (Cond.code y_10_night prog_12_method_63_code 4 (some .int) :: wA) { frames := 4, cells := 0, slots := 0, locals := 91 } (va_Pc [.ref (ad r0), .int x1] (GSt A D ac ad st σ)) (va_Qi Q (GSt A D ac ad st) A) 0 0 A :=
  mkI l (by decide +kernel) rfl [.ref (ad r0), .int x1] (Nat.le_of_ble_eq_true rfl) (fun p e s m args below meth c ls QW S hR hG hl => w_10_night_0 S hR hk_r0 hG hl hf)
set_option maxHeartbeats 4000000 in
set_option maxRecDepth 100000 in
theorem w_10_runs_121 {r0 : Nat} {x1 : Int32} {x2 : Int32} {x3 : Int32} {x4 : Int32} {x5 : Int32} {x7 : Int32} {B14 : Int32 → St → Prop} {Q : St → Prop} {t0 : Int32} {t1 : Int32} {t2 : Nat} {σ : St} {H : Heap} {locs : List Loc} {ls : Array Slot} (S : SC A D ac st p m c prog_12_method_64_code 8 s args "SweeperRoundsModel" R cells slots 2 45) (hR : RtV A D ac ad p l e R s m args below meth c prog_12_method_64_code cells slots QW Q) (hk_r0 : kd r0 = 10) (hk_t2 : kd t2 = 10) (hB14 : ∀ (x5 : Int32) (σ : St) (H : Heap) (locs : List Loc) (ls : Array Slot), DG A D ac ad s σ H locs → lv_has ls 8 [(0, .ref (ad r0)), (1, .int x1), (2, .int x2), (3, .int x3), (4, .int x4), (5, .int x5)] → B14 x5 σ → W p l e R s m args below meth c H locs cells slots QW (F0 m 14 ls [])) (hG : DG A D ac ad s σ H locs) (hl : lv_has ls 8 [(0, .ref (ad r0)), (1, .int x1), (2, .int x2), (3, .int x3), (4, .int x4), (5, .int x5), (7, .int x7)]) (hf : m_10_runs_121 r0 x1 x2 x3 x4 x5 x7 B14 Q t0 t1 t2 σ) : W p l e R s m args below meth c H locs cells slots QW (F0 m 121 ls [.int t0, .int t1, .ref (ad t2)]) := by
  have hx := S.1.1
  have hb := S.1.2.1
  unfold m_10_runs_121 at hf
  refine iv_10_66 S hl.1 hG hk_t2 (c_10_books l hk_t2 hf) ⟨Nat.le_of_ble_eq_true rfl, Nat.le_of_ble_eq_true rfl⟩ (Nat.le_of_ble_eq_true rfl) d_10_runs_121 (fun σ_1 hf H locs hG => ?_)
  refine lv_iload hx hb d_10_runs_124 (lv_at hl 5 rfl) ?_
  refine lv_iload hx hb d_10_runs_126 (lv_at hl 4 rfl) ?_
  refine lv_icmp_ge (tgt := 153) hx hb d_10_runs_128 (by decide) (fun hc => ?_) (fun hc => ?_)
  · have hf := hf.1 hc
    obtain ⟨x5_3, ex5_3⟩ : ∃ y : Int32, y = x5 + (-1) := ⟨_, rfl⟩
    have hf := hf x5_3 ex5_3
    refine lv_iinc (v := x5_3) (lv' := [(5, .int x5_3), (0, .ref (ad r0)), (1, .int x1), (2, .int x2), (3, .int x3), (4, .int x4), (7, .int x7)]) hx hb d_10_runs_153 hl (k := 5) rfl (by rw [ex5_3]; rfl) (by decide) rfl (fun ls hl => ?_)
    refine lv_goto (tgt := 14) hx hb d_10_runs_156 (by decide) ?_
    exact hB14 _ _ _ _ _  hG (lv_sub hl [1, 2, 3, 4, 5, 0] rfl) hf
  · have hf := hf.2 hc
    refine lv_aload_n hx hb d_10_runs_131 rfl (lv_at hl 0 rfl) ?_
    refine lv_iload_n hx hb d_10_runs_132 rfl (lv_at hl 1 rfl) ?_
    refine lv_iconst (v := (3 : Int32)) hx hb d_10_runs_133 (by decide) ?_
    refine lv_iload_n hx hb d_10_runs_134 rfl (lv_at hl 2 rfl) ?_
    refine lv_iload hx hb d_10_runs_135 (lv_at hl 5 rfl) ?_
    refine lv_iconst (v := (1 : Int32)) hx hb d_10_runs_137 (by decide) ?_
    refine lv_iadd hx hb d_10_runs_138 ?_
    refine iv_10_33 S hl.1 hG  (c_10_placeOf l  hf) ⟨Nat.le_of_ble_eq_true rfl, Nat.le_of_ble_eq_true rfl⟩ (Nat.le_of_ble_eq_true rfl) d_10_runs_139 (fun v_5 σ_4 hf H locs hG => ?_)
    refine lv_iadd hx hb d_10_runs_142 ?_
    refine lv_iload hx hb d_10_runs_143 (lv_at hl 6 rfl) ?_
    refine lv_bipush (v := (99 : Int32)) hx hb d_10_runs_145 (by decide) ?_
    refine iv_10_129 S hl.1 hG  (c_10_lesser l  hf) ⟨Nat.le_of_ble_eq_true rfl, Nat.le_of_ble_eq_true rfl⟩ (Nat.le_of_ble_eq_true rfl) d_10_runs_147 (fun v_7 σ_6 hf H locs hG => ?_)
    refine iv_10_52 S hl.1 hG hk_r0 (c_10_sets l hk_r0 hf) ⟨Nat.le_of_ble_eq_true rfl, Nat.le_of_ble_eq_true rfl⟩ (Nat.le_of_ble_eq_true rfl) d_10_runs_150 (fun σ_8 hf H locs hG => ?_)
    obtain ⟨x5_10, ex5_10⟩ : ∃ y : Int32, y = x5 + (-1) := ⟨_, rfl⟩
    have hf := hf x5_10 ex5_10
    refine lv_iinc (v := x5_10) (lv' := [(5, .int x5_10), (0, .ref (ad r0)), (1, .int x1), (2, .int x2), (3, .int x3), (4, .int x4), (7, .int x7)]) hx hb d_10_runs_153 hl (k := 5) rfl (by rw [ex5_10]; rfl) (by decide) rfl (fun ls hl => ?_)
    refine lv_goto (tgt := 14) hx hb d_10_runs_156 (by decide) ?_
    exact hB14 _ _ _ _ _  hG (lv_sub hl [1, 2, 3, 4, 5, 0] rfl) hf
set_option maxHeartbeats 4000000 in
set_option maxRecDepth 100000 in
theorem w_10_runs_101 {r0 : Nat} {x1 : Int32} {x2 : Int32} {x3 : Int32} {x4 : Int32} {x5 : Int32} {B14 : Int32 → St → Prop} {Q : St → Prop} {t0 : Int32} {σ : St} {H : Heap} {locs : List Loc} {ls : Array Slot} (S : SC A D ac st p m c prog_12_method_64_code 8 s args "SweeperRoundsModel" R cells slots 2 45) (hR : RtV A D ac ad p l e R s m args below meth c prog_12_method_64_code cells slots QW Q) (hk_r0 : kd r0 = 10) (hB14 : ∀ (x5 : Int32) (σ : St) (H : Heap) (locs : List Loc) (ls : Array Slot), DG A D ac ad s σ H locs → lv_has ls 8 [(0, .ref (ad r0)), (1, .int x1), (2, .int x2), (3, .int x3), (4, .int x4), (5, .int x5)] → B14 x5 σ → W p l e R s m args below meth c H locs cells slots QW (F0 m 14 ls [])) (hG : DG A D ac ad s σ H locs) (hl : lv_has ls 8 [(0, .ref (ad r0)), (1, .int x1), (2, .int x2), (3, .int x3), (4, .int x4), (5, .int x5)]) (hf : m_10_runs_101 r0 x1 x2 x3 x4 x5 B14 Q t0 σ) : W p l e R s m args below meth c H locs cells slots QW (F0 m 101 ls [.int t0]) := by
  have hx := S.1.1
  have hb := S.1.2.1
  unfold m_10_runs_101 at hf
  refine lv_istore (lv' := [(7, .int t0), (0, .ref (ad r0)), (1, .int x1), (2, .int x2), (3, .int x3), (4, .int x4), (5, .int x5)]) hx hb d_10_runs_101 hl (by decide) rfl (fun ls hl => ?_)
  refine lv_aload_n hx hb d_10_runs_103 rfl (lv_at hl 1 rfl) ?_
  refine lv_iconst (v := (4 : Int32)) hx hb d_10_runs_104 (by decide) ?_
  refine lv_iload hx hb d_10_runs_105 (lv_at hl 0 rfl) ?_
  refine lv_bipush (v := (99 : Int32)) hx hb d_10_runs_107 (by decide) ?_
  refine lv_icmp_le (tgt := 120) hx hb d_10_runs_109 (by decide) (fun hc => ?_) (fun hc => ?_)
  · have hf := hf.1 hc
    refine lv_iconst (v := (0 : Int32)) hx hb d_10_runs_120 (by decide) ?_
    exact w_10_runs_121 S hR hk_r0  hk_r0 hB14 hG (lv_sub hl [1, 2, 3, 4, 5, 6, 0] rfl) hf
  · have hf := hf.2 hc
    refine lv_iload hx hb d_10_runs_112 (lv_at hl 0 rfl) ?_
    refine lv_bipush (v := (99 : Int32)) hx hb d_10_runs_114 (by decide) ?_
    refine lv_isub hx hb d_10_runs_116 ?_
    refine lv_goto (tgt := 121) hx hb d_10_runs_117 (by decide) ?_
    exact w_10_runs_121 S hR hk_r0  hk_r0 hB14 hG (lv_sub hl [1, 2, 3, 4, 5, 6, 0] rfl) hf
set_option maxHeartbeats 4000000 in
set_option maxRecDepth 100000 in
theorem w_10_runs_47 {r0 : Nat} {x1 : Int32} {x2 : Int32} {x3 : Int32} {x4 : Int32} {x5 : Int32} {B14 : Int32 → St → Prop} {Q : St → Prop} {t0 : Int32} {σ : St} {H : Heap} {locs : List Loc} {ls : Array Slot} (S : SC A D ac st p m c prog_12_method_64_code 8 s args "SweeperRoundsModel" R cells slots 2 45) (hR : RtV A D ac ad p l e R s m args below meth c prog_12_method_64_code cells slots QW Q) (hk_r0 : kd r0 = 10) (hB14 : ∀ (x5 : Int32) (σ : St) (H : Heap) (locs : List Loc) (ls : Array Slot), DG A D ac ad s σ H locs → lv_has ls 8 [(0, .ref (ad r0)), (1, .int x1), (2, .int x2), (3, .int x3), (4, .int x4), (5, .int x5)] → B14 x5 σ → W p l e R s m args below meth c H locs cells slots QW (F0 m 14 ls [])) (hG : DG A D ac ad s σ H locs) (hl : lv_has ls 8 [(0, .ref (ad r0)), (1, .int x1), (2, .int x2), (3, .int x3), (4, .int x4), (5, .int x5)]) (hf : m_10_runs_47 r0 x1 x2 x3 x4 x5 B14 Q t0 σ) : W p l e R s m args below meth c H locs cells slots QW (F0 m 47 ls [.int t0]) := by
  have hx := S.1.1
  have hb := S.1.2.1
  unfold m_10_runs_47 at hf
  refine lv_istore (lv' := [(6, .int t0), (0, .ref (ad r0)), (1, .int x1), (2, .int x2), (3, .int x3), (4, .int x4), (5, .int x5)]) hx hb d_10_runs_47 hl (by decide) rfl (fun ls hl => ?_)
  refine lv_aload_n hx hb d_10_runs_49 rfl (lv_at hl 1 rfl) ?_
  refine lv_iload_n hx hb d_10_runs_50 rfl (lv_at hl 2 rfl) ?_
  refine lv_iconst (v := (3 : Int32)) hx hb d_10_runs_51 (by decide) ?_
  refine lv_iload_n hx hb d_10_runs_52 rfl (lv_at hl 3 rfl) ?_
  refine lv_iload hx hb d_10_runs_53 (lv_at hl 6 rfl) ?_
  refine iv_10_33 S hl.1 hG  (c_10_placeOf l  hf) ⟨Nat.le_of_ble_eq_true rfl, Nat.le_of_ble_eq_true rfl⟩ (Nat.le_of_ble_eq_true rfl) d_10_runs_55 (fun v_2 σ_1 hf H locs hG => ?_)
  refine lv_iadd hx hb d_10_runs_58 ?_
  refine lv_aload_n hx hb d_10_runs_59 rfl (lv_at hl 1 rfl) ?_
  refine lv_iload_n hx hb d_10_runs_60 rfl (lv_at hl 2 rfl) ?_
  refine lv_iload_n hx hb d_10_runs_61 rfl (lv_at hl 3 rfl) ?_
  refine lv_iload hx hb d_10_runs_62 (lv_at hl 6 rfl) ?_
  refine iv_10_48 S hl.1 hG hk_r0 (c_10_dirtOf l hk_r0 hf) ⟨Nat.le_of_ble_eq_true rfl, Nat.le_of_ble_eq_true rfl⟩ (Nat.le_of_ble_eq_true rfl) d_10_runs_64 (fun v_4 σ_3 hf H locs hG => ?_)
  refine lv_iload hx hb d_10_runs_67 (lv_at hl 0 rfl) ?_
  refine lv_isub hx hb d_10_runs_69 ?_
  refine iv_10_52 S hl.1 hG hk_r0 (c_10_sets l hk_r0 hf) ⟨Nat.le_of_ble_eq_true rfl, Nat.le_of_ble_eq_true rfl⟩ (Nat.le_of_ble_eq_true rfl) d_10_runs_70 (fun σ_5 hf H locs hG => ?_)
  refine lv_iload hx hb d_10_runs_73 (lv_at hl 6 rfl) ?_
  refine lv_iload hx hb d_10_runs_75 (lv_at hl 5 rfl) ?_
  refine lv_icmp_ne (tgt := 88) hx hb d_10_runs_77 (by decide) (fun hc => ?_) (fun hc => ?_)
  · have hf := hf.1 hc
    refine lv_aload_n hx hb d_10_runs_88 rfl (lv_at hl 1 rfl) ?_
    refine lv_iload_n hx hb d_10_runs_89 rfl (lv_at hl 2 rfl) ?_
    refine lv_iload_n hx hb d_10_runs_90 rfl (lv_at hl 3 rfl) ?_
    refine lv_iload hx hb d_10_runs_91 (lv_at hl 6 rfl) ?_
    refine lv_iconst (v := (1 : Int32)) hx hb d_10_runs_93 (by decide) ?_
    refine lv_iadd hx hb d_10_runs_94 ?_
    refine iv_10_48 S hl.1 hG hk_r0 (c_10_dirtOf l hk_r0 hf) ⟨Nat.le_of_ble_eq_true rfl, Nat.le_of_ble_eq_true rfl⟩ (Nat.le_of_ble_eq_true rfl) d_10_runs_95 (fun v_8 σ_7 hf H locs hG => ?_)
    refine lv_iload hx hb d_10_runs_98 (lv_at hl 0 rfl) ?_
    refine lv_iadd hx hb d_10_runs_100 ?_
    exact w_10_runs_101 S hR hk_r0   hB14 hG (lv_sub hl [1, 2, 3, 4, 5, 6] rfl) hf
  · have hf := hf.2 hc
    refine lv_bipush (v := (99 : Int32)) hx hb d_10_runs_80 (by decide) ?_
    refine lv_iload hx hb d_10_runs_82 (lv_at hl 0 rfl) ?_
    refine lv_iadd hx hb d_10_runs_84 ?_
    refine lv_goto (tgt := 101) hx hb d_10_runs_85 (by decide) ?_
    exact w_10_runs_101 S hR hk_r0   hB14 hG (lv_sub hl [1, 2, 3, 4, 5, 6] rfl) hf
set_option maxHeartbeats 4000000 in
set_option maxRecDepth 100000 in
theorem w_10_runs_14 {r0 : Nat} {x1 : Int32} {x2 : Int32} {x3 : Int32} {x4 : Int32} {Q : St → Prop} {B14 : Int32 → St → Prop} {x5 : Int32} {σ : St} {H : Heap} {locs : List Loc} {ls : Array Slot} (S : SC A D ac st p m c prog_12_method_64_code 8 s args "SweeperRoundsModel" R cells slots 2 45) (hR : RtV A D ac ad p l e R s m args below meth c prog_12_method_64_code cells slots QW Q) (hk_r0 : kd r0 = 10) (hB14 : ∀ (x5 : Int32) (σ : St) (H : Heap) (locs : List Loc) (ls : Array Slot), DG A D ac ad s σ H locs → lv_has ls 8 [(0, .ref (ad r0)), (1, .int x1), (2, .int x2), (3, .int x3), (4, .int x4), (5, .int x5)] → B14 x5 σ → W p l e R s m args below meth c H locs cells slots QW (F0 m 14 ls [])) (hG : DG A D ac ad s σ H locs) (hl : lv_has ls 8 [(0, .ref (ad r0)), (1, .int x1), (2, .int x2), (3, .int x3), (4, .int x4), (5, .int x5)]) (hf : m_10_runs_14 r0 x1 x2 x3 x4 Q B14 x5 σ) : W p l e R s m args below meth c H locs cells slots QW (F0 m 14 ls []) := by
  have hx := S.1.1
  have hb := S.1.2.1
  unfold m_10_runs_14 at hf
  refine lv_iload hx hb d_10_runs_14 (lv_at hl 5 rfl) ?_
  refine lv_if_lt (tgt := 159) hx hb d_10_runs_16 (by decide) (fun hc => ?_) (fun hc => ?_)
  · have hf := hf.1 hc
    exact hR _ _ _ _ _ hG hf d_10_runs_159
  · have hf := hf.2 hc
    refine lv_aload_n hx hb d_10_runs_19 rfl (lv_at hl 0 rfl) ?_
    refine lv_iload_n hx hb d_10_runs_20 rfl (lv_at hl 1 rfl) ?_
    refine lv_iload_n hx hb d_10_runs_21 rfl (lv_at hl 2 rfl) ?_
    refine lv_iload hx hb d_10_runs_22 (lv_at hl 5 rfl) ?_
    refine iv_10_117 S hl.1 hG hk_r0 (c_10_isParked l hk_r0 hf) ⟨Nat.le_of_ble_eq_true rfl, Nat.le_of_ble_eq_true rfl⟩ (Nat.le_of_ble_eq_true rfl) d_10_runs_24 (fun v_2 σ_1 hf H locs hG => ?_)
    refine lv_if_eq (tgt := 34) hx hb d_10_runs_27 (by decide) (fun hc => ?_) (fun hc => ?_)
    · have hf := hf.1 hc
      refine lv_aload_n hx hb d_10_runs_34 rfl (lv_at hl 0 rfl) ?_
      refine lv_iload_n hx hb d_10_runs_35 rfl (lv_at hl 1 rfl) ?_
      refine lv_iload_n hx hb d_10_runs_36 rfl (lv_at hl 2 rfl) ?_
      refine lv_iload hx hb d_10_runs_37 (lv_at hl 5 rfl) ?_
      refine iv_10_48 S hl.1 hG hk_r0 (c_10_dirtOf l hk_r0 hf) ⟨Nat.le_of_ble_eq_true rfl, Nat.le_of_ble_eq_true rfl⟩ (Nat.le_of_ble_eq_true rfl) d_10_runs_39 (fun v_4 σ_3 hf H locs hG => ?_)
      refine lv_iload_n hx hb d_10_runs_42 rfl (lv_at hl 3 rfl) ?_
      refine lv_imul hx hb d_10_runs_43 ?_
      refine lv_bipush (v := (100 : Int32)) hx hb d_10_runs_44 (by decide) ?_
      refine lv_idiv hx hb d_10_runs_46 (by decide) ?_
      exact w_10_runs_47 S hR hk_r0   hB14 hG (lv_sub hl [0, 1, 2, 3, 4, 5] rfl) hf
    · have hf := hf.2 hc
      refine lv_iconst (v := (0 : Int32)) hx hb d_10_runs_30 (by decide) ?_
      refine lv_goto (tgt := 47) hx hb d_10_runs_31 (by decide) ?_
      exact w_10_runs_47 S hR hk_r0   hB14 hG (lv_sub hl [0, 1, 2, 3, 4, 5] rfl) hf
set_option maxHeartbeats 4000000 in
set_option maxRecDepth 100000 in
theorem lp_10_runs_14 {r0 : Nat} {x1 : Int32} {x2 : Int32} {x3 : Int32} {x4 : Int32} {Q : St → Prop} (S : SC A D ac st p m c prog_12_method_64_code 8 s args "SweeperRoundsModel" R cells slots 2 45) (hR : RtV A D ac ad p l e R s m args below meth c prog_12_method_64_code cells slots QW Q) (hk_r0 : kd r0 = 10) : ∀ (n : Nat) (x5 : Int32) (σ : St) (H : Heap) (locs : List Loc) (ls : Array Slot), DG A D ac ad s σ H locs → lv_has ls 8 [(0, .ref (ad r0)), (1, .int x1), (2, .int x2), (3, .int x3), (4, .int x4), (5, .int x5)] → itN (m_10_runs_14 r0 x1 x2 x3 x4 Q) (fun _ _ => False) n x5 σ → W p l e R s m args below meth c H locs cells slots QW (F0 m 14 ls []) := by
  intro n
  induction n with
  | zero =>
    intro x5 σ H locs ls  hG hl hf
    exact hf.elim
  | succ n ih =>
    intro x5 σ H locs ls  hG hl hf
    exact w_10_runs_14 S hR hk_r0  ih hG hl hf
set_option maxHeartbeats 4000000 in
set_option maxRecDepth 100000 in
theorem w_10_runs_0 {r0 : Nat} {x1 : Int32} {x2 : Int32} {x3 : Int32} {Q : St → Prop} {σ : St} {H : Heap} {locs : List Loc} {ls : Array Slot} (S : SC A D ac st p m c prog_12_method_64_code 8 s args "SweeperRoundsModel" R cells slots 2 45) (hR : RtV A D ac ad p l e R s m args below meth c prog_12_method_64_code cells slots QW Q) (hk_r0 : kd r0 = 10) (hG : DG A D ac ad s σ H locs) (hl : lv_has ls 8 [(0, .ref (ad r0)), (1, .int x1), (2, .int x2), (3, .int x3)]) (hf : m_10_runs r0 x1 x2 x3 Q σ) : W p l e R s m args below meth c H locs cells slots QW (F0 m 0 ls []) := by
  have hx := S.1.1
  have hb := S.1.2.1
  unfold m_10_runs at hf
  refine lv_aload_n hx hb d_10_runs_0 rfl (lv_at hl 0 rfl) ?_
  refine lv_iload_n hx hb d_10_runs_1 rfl (lv_at hl 1 rfl) ?_
  refine lv_iconst (v := (0 : Int32)) hx hb d_10_runs_2 (by decide) ?_
  refine iv_10_37 S hl.1 hG hk_r0 (c_10_of l hk_r0 hf) ⟨Nat.le_of_ble_eq_true rfl, Nat.le_of_ble_eq_true rfl⟩ (Nat.le_of_ble_eq_true rfl) d_10_runs_3 (fun v_2 σ_1 hf H locs hG => ?_)
  refine lv_iconst (v := (1 : Int32)) hx hb d_10_runs_6 (by decide) ?_
  refine lv_isub hx hb d_10_runs_7 ?_
  refine lv_topi (fun x4_3 ex4_3 => ?_)
  have hf := hf x4_3 ex4_3
  refine lv_istore (lv' := [(4, .int x4_3), (0, .ref (ad r0)), (1, .int x1), (2, .int x2), (3, .int x3)]) hx hb d_10_runs_8 hl (by decide) rfl (fun ls hl => ?_)
  refine lv_iload hx hb d_10_runs_10 (lv_at hl 0 rfl) ?_
  refine lv_istore (lv' := [(5, .int x4_3), (4, .int x4_3), (0, .ref (ad r0)), (1, .int x1), (2, .int x2), (3, .int x3)]) hx hb d_10_runs_12 hl (by decide) rfl (fun ls hl => ?_)
  exact lp_10_runs_14 S hR hk_r0  FU _ _ _ _ _  hG (lv_sub hl [2, 3, 4, 5, 1, 0] rfl) hf
theorem c_10_runs (l : Launch) {D : va_G} {ac : Nat → ClassId} {ad st : Nat → Nat} {A : Nat → Prop} {σ : St} {r0 : Nat} {x1 : Int32} {x2 : Int32} {x3 : Int32} {Q : St → Prop} (hk_r0 : kd r0 = 10) (hf : m_10_runs r0 x1 x2 x3 Q σ) : Met l y_10_runs (Cond.code y_10_runs prog_12_method_64_code 8 none :: wA) { frames := 2, cells := 0, slots := 0, locals := 45 } (va_Pc [.ref (ad r0), .int x1, .int x2, .int x3] (GSt A D ac ad st σ)) (va_Qv Q (GSt A D ac ad st) A) 0 0 A :=
  mkV l (by decide +kernel) rfl [.ref (ad r0), .int x1, .int x2, .int x3] (Nat.le_of_ble_eq_true rfl) (fun p e s m args below meth c ls QW S hR hG hl => w_10_runs_0 S hR hk_r0 hG hl hf)
set_option maxHeartbeats 4000000 in
set_option maxRecDepth 100000 in
theorem w_10_rain_27 {r0 : Nat} {x1 : Int32} {x2 : Int32} {Q : Int32 → St → Prop} {B27 : Int32 → St → Prop} {x3 : Int32} {σ : St} {H : Heap} {locs : List Loc} {ls : Array Slot} (S : SC A D ac st p m c prog_12_method_65_code 4 s args "SweeperRoundsModel" R cells slots 3 72) (hR : RtI A D ac ad p l e R s m args below meth c prog_12_method_65_code cells slots QW Q) (hk_r0 : kd r0 = 10) (hB27 : ∀ (x3 : Int32) (σ : St) (H : Heap) (locs : List Loc) (ls : Array Slot), DG A D ac ad s σ H locs → lv_has ls 4 [(0, .ref (ad r0)), (1, .int x1), (2, .int x2), (3, .int x3)] → B27 x3 σ → W p l e R s m args below meth c H locs cells slots QW (F0 m 27 ls [])) (hG : DG A D ac ad s σ H locs) (hl : lv_has ls 4 [(0, .ref (ad r0)), (1, .int x1), (2, .int x2), (3, .int x3)]) (hf : m_10_rain_27 r0 x1 x2 Q B27 x3 σ) : W p l e R s m args below meth c H locs cells slots QW (F0 m 27 ls []) := by
  have hx := S.1.1
  have hb := S.1.2.1
  unfold m_10_rain_27 at hf
  refine lv_iload_n hx hb d_10_rain_27 rfl (lv_at hl 3 rfl) ?_
  refine lv_aload_n hx hb d_10_rain_28 rfl (lv_at hl 0 rfl) ?_
  refine gf_10_7 S hG hk_r0 d_10_rain_29 ?_
  refine lv_iconst (v := (0 : Int32)) hx hb d_10_rain_32 (by decide) ?_
  refine mia S hG 30 rfl rfl (kr_10_0 hk_r0) hf.1 d_10_rain_33 ?_
  have hf := hf.2
  refine lv_icmp_ge (tgt := 57) hx hb d_10_rain_34 (by decide) (fun hc => ?_) (fun hc => ?_)
  · have hf := hf.1 hc
    refine lv_aload_n hx hb d_10_rain_57 rfl (lv_at hl 0 rfl) ?_
    refine gf_10_7 S hG hk_r0 d_10_rain_58 ?_
    refine lv_sipush (v := (560 : Int32)) hx hb d_10_rain_61 (by decide) ?_
    refine mia S hG 30 rfl rfl (kr_10_0 hk_r0) hf.1 d_10_rain_64 ?_
    have hf := hf.2
    refine lv_iload_n hx hb d_10_rain_65 rfl (lv_at hl 2 rfl) ?_
    refine lv_isub hx hb d_10_rain_66 ?_
    exact hR _ _ _ _ _ _ hG hf d_10_rain_67
  · have hf := hf.2 hc
    refine lv_aload_n hx hb d_10_rain_37 rfl (lv_at hl 0 rfl) ?_
    refine lv_iload_n hx hb d_10_rain_38 rfl (lv_at hl 3 rfl) ?_
    refine lv_iconst (v := (0 : Int32)) hx hb d_10_rain_39 (by decide) ?_
    refine lv_iload_n hx hb d_10_rain_40 rfl (lv_at hl 1 rfl) ?_
    refine iv_10_189 S hl.1 hG hk_r0 (c_10_runs l hk_r0 hf) ⟨Nat.le_of_ble_eq_true rfl, Nat.le_of_ble_eq_true rfl⟩ (Nat.le_of_ble_eq_true rfl) d_10_rain_41 (fun σ_1 hf H locs hG => ?_)
    refine lv_aload_n hx hb d_10_rain_44 rfl (lv_at hl 0 rfl) ?_
    refine lv_iload_n hx hb d_10_rain_45 rfl (lv_at hl 3 rfl) ?_
    refine lv_iconst (v := (1 : Int32)) hx hb d_10_rain_46 (by decide) ?_
    refine lv_iload_n hx hb d_10_rain_47 rfl (lv_at hl 1 rfl) ?_
    refine iv_10_189 S hl.1 hG hk_r0 (c_10_runs l hk_r0 hf) ⟨Nat.le_of_ble_eq_true rfl, Nat.le_of_ble_eq_true rfl⟩ (Nat.le_of_ble_eq_true rfl) d_10_rain_48 (fun σ_3 hf H locs hG => ?_)
    obtain ⟨x3_5, ex3_5⟩ : ∃ y : Int32, y = x3 + 1 := ⟨_, rfl⟩
    have hf := hf x3_5 ex3_5
    refine lv_iinc (v := x3_5) (lv' := [(3, .int x3_5), (0, .ref (ad r0)), (1, .int x1), (2, .int x2)]) hx hb d_10_rain_51 hl (k := 3) rfl (by rw [ex3_5]; rfl) (by decide) rfl (fun ls hl => ?_)
    refine lv_goto (tgt := 27) hx hb d_10_rain_54 (by decide) ?_
    exact hB27 _ _ _ _ _  hG (lv_sub hl [1, 2, 3, 0] rfl) hf
set_option maxHeartbeats 4000000 in
set_option maxRecDepth 100000 in
theorem lp_10_rain_27 {r0 : Nat} {x1 : Int32} {x2 : Int32} {Q : Int32 → St → Prop} (S : SC A D ac st p m c prog_12_method_65_code 4 s args "SweeperRoundsModel" R cells slots 3 72) (hR : RtI A D ac ad p l e R s m args below meth c prog_12_method_65_code cells slots QW Q) (hk_r0 : kd r0 = 10) : ∀ (n : Nat) (x3 : Int32) (σ : St) (H : Heap) (locs : List Loc) (ls : Array Slot), DG A D ac ad s σ H locs → lv_has ls 4 [(0, .ref (ad r0)), (1, .int x1), (2, .int x2), (3, .int x3)] → itN (m_10_rain_27 r0 x1 x2 Q) (fun _ _ => False) n x3 σ → W p l e R s m args below meth c H locs cells slots QW (F0 m 27 ls []) := by
  intro n
  induction n with
  | zero =>
    intro x3 σ H locs ls  hG hl hf
    exact hf.elim
  | succ n ih =>
    intro x3 σ H locs ls  hG hl hf
    exact w_10_rain_27 S hR hk_r0  ih hG hl hf
set_option maxHeartbeats 4000000 in
set_option maxRecDepth 100000 in
theorem w_10_rain_0 {r0 : Nat} {x1 : Int32} {Q : Int32 → St → Prop} {σ : St} {H : Heap} {locs : List Loc} {ls : Array Slot} (S : SC A D ac st p m c prog_12_method_65_code 4 s args "SweeperRoundsModel" R cells slots 3 72) (hR : RtI A D ac ad p l e R s m args below meth c prog_12_method_65_code cells slots QW Q) (hk_r0 : kd r0 = 10) (hG : DG A D ac ad s σ H locs) (hl : lv_has ls 4 [(0, .ref (ad r0)), (1, .int x1)]) (hf : m_10_rain r0 x1 Q σ) : W p l e R s m args below meth c H locs cells slots QW (F0 m 0 ls []) := by
  have hx := S.1.1
  have hb := S.1.2.1
  unfold m_10_rain at hf
  refine lv_iload_n hx hb d_10_rain_0 rfl (lv_at hl 1 rfl) ?_
  refine lv_iconst (v := (1 : Int32)) hx hb d_10_rain_1 (by decide) ?_
  refine lv_bipush (v := (100 : Int32)) hx hb d_10_rain_2 (by decide) ?_
  refine iv_10_40 S hl.1 hG  (c_10_in l  hf) ⟨Nat.le_of_ble_eq_true rfl, Nat.le_of_ble_eq_true rfl⟩ (Nat.le_of_ble_eq_true rfl) d_10_rain_4 (fun v_2 σ_1 hf H locs hG => ?_)
  refine lv_if_ne (tgt := 12) hx hb d_10_rain_7 (by decide) (fun hc => ?_) (fun hc => ?_)
  · have hf := hf.1 hc
    refine lv_aload_n hx hb d_10_rain_12 rfl (lv_at hl 0 rfl) ?_
    refine iv_10_56 S hl.1 hG hk_r0 (c_10_records l hk_r0 hf) ⟨Nat.le_of_ble_eq_true rfl, Nat.le_of_ble_eq_true rfl⟩ (Nat.le_of_ble_eq_true rfl) d_10_rain_13 (fun σ_3 hf H locs hG => ?_)
    refine lv_aload_n hx hb d_10_rain_16 rfl (lv_at hl 0 rfl) ?_
    refine gf_10_7 S hG hk_r0 d_10_rain_17 ?_
    refine lv_sipush (v := (560 : Int32)) hx hb d_10_rain_20 (by decide) ?_
    refine mia S hG 30 rfl rfl (kr_10_0 hk_r0) hf.1 d_10_rain_23 ?_
    have hf := hf.2
    refine lv_topi (fun x2_5 ex2_5 => ?_)
    have hf := hf x2_5 ex2_5
    refine lv_istore_n (lv' := [(2, .int x2_5), (0, .ref (ad r0)), (1, .int x1)]) hx hb d_10_rain_24 rfl hl (by decide) rfl (fun ls hl => ?_)
    refine lv_iconst (v := (0 : Int32)) hx hb d_10_rain_25 (by decide) ?_
    refine lv_istore_n (lv' := [(3, .int (0 : Int32)), (2, .int x2_5), (0, .ref (ad r0)), (1, .int x1)]) hx hb d_10_rain_26 rfl hl (by decide) rfl (fun ls hl => ?_)
    exact lp_10_rain_27 S hR hk_r0  FU _ _ _ _ _  hG (lv_sub hl [2, 3, 1, 0] rfl) hf
  · have hf := hf.2 hc
    refine lv_iconst (v := (-1 : Int32)) hx hb d_10_rain_10 (by decide) ?_
    exact hR _ _ _ _ _ _ hG hf d_10_rain_11
theorem c_10_rain (l : Launch) {D : va_G} {ac : Nat → ClassId} {ad st : Nat → Nat} {A : Nat → Prop} {σ : St} {r0 : Nat} {x1 : Int32} {Q : Int32 → St → Prop} (hk_r0 : kd r0 = 10) (hf : m_10_rain r0 x1 Q σ) : Met l y_10_rain (Cond.code y_10_rain prog_12_method_65_code 4 (some .int) :: wA) { frames := 3, cells := 0, slots := 0, locals := 72 } (va_Pc [.ref (ad r0), .int x1] (GSt A D ac ad st σ)) (va_Qi Q (GSt A D ac ad st) A) 0 0 A :=
  mkI l (by decide +kernel) rfl [.ref (ad r0), .int x1] (Nat.le_of_ble_eq_true rfl) (fun p e s m args below meth c ls QW S hR hG hl => w_10_rain_0 S hR hk_r0 hG hl hf)
set_option maxHeartbeats 4000000 in
set_option maxRecDepth 100000 in
theorem w_10_loadWith_0 {r0 : Nat} {x1 : Int32} {Q : Int32 → St → Prop} {σ : St} {H : Heap} {locs : List Loc} {ls : Array Slot} (S : SC A D ac st p m c prog_12_method_66_code 3 s args "SweeperRoundsModel" R cells slots 5 120) (hR : RtI A D ac ad p l e R s m args below meth c prog_12_method_66_code cells slots QW Q) (hk_r0 : kd r0 = 10) (hG : DG A D ac ad s σ H locs) (hl : lv_has ls 3 [(0, .ref (ad r0)), (1, .int x1)]) (hf : m_10_loadWith r0 x1 Q σ) : W p l e R s m args below meth c H locs cells slots QW (F0 m 0 ls []) := by
  have hx := S.1.1
  have hb := S.1.2.1
  unfold m_10_loadWith at hf
  refine lv_aload_n hx hb d_10_loadWith_0 rfl (lv_at hl 0 rfl) ?_
  refine lv_iconst (v := (0 : Int32)) hx hb d_10_loadWith_1 (by decide) ?_
  refine lv_bipush (v := (9 : Int32)) hx hb d_10_loadWith_2 (by decide) ?_
  refine iv_10_29 S hl.1 hG hk_r0 (c_10_copies l hk_r0 hf) ⟨Nat.le_of_ble_eq_true rfl, Nat.le_of_ble_eq_true rfl⟩ (Nat.le_of_ble_eq_true rfl) d_10_loadWith_4 (fun σ_1 hf H locs hG => ?_)
  refine lv_aload_n hx hb d_10_loadWith_7 rfl (lv_at hl 0 rfl) ?_
  refine gf_10_7 S hG hk_r0 d_10_loadWith_8 ?_
  refine lv_sipush (v := (499 : Int32)) hx hb d_10_loadWith_11 (by decide) ?_
  refine lv_iload_n hx hb d_10_loadWith_14 rfl (lv_at hl 1 rfl) ?_
  refine mis S hG 30 rfl rfl (kr_10_0 hk_r0) hf.1 d_10_loadWith_15 (fun σ_3 eσ_3 H locs hG => ?_)
  have hf := hf.2 σ_3 eσ_3
  refine lv_aload_n hx hb d_10_loadWith_16 rfl (lv_at hl 0 rfl) ?_
  refine iv_10_179 S hl.1 hG hk_r0 (c_10_goesThrough l hk_r0 hf) ⟨Nat.le_of_ble_eq_true rfl, Nat.le_of_ble_eq_true rfl⟩ (Nat.le_of_ble_eq_true rfl) d_10_loadWith_17 (fun σ_4 hf H locs hG => ?_)
  refine lv_aload_n hx hb d_10_loadWith_20 rfl (lv_at hl 0 rfl) ?_
  refine lv_iconst (v := (3 : Int32)) hx hb d_10_loadWith_21 (by decide) ?_
  refine iv_10_148 S hl.1 hG hk_r0 (c_10_latestOf l hk_r0 hf) ⟨Nat.le_of_ble_eq_true rfl, Nat.le_of_ble_eq_true rfl⟩ (Nat.le_of_ble_eq_true rfl) d_10_loadWith_22 (fun v_7 σ_6 hf H locs hG => ?_)
  refine lv_istore_n (lv' := [(2, .int v_7), (0, .ref (ad r0)), (1, .int x1)]) hx hb d_10_loadWith_25 rfl hl (by decide) rfl (fun ls hl => ?_)
  refine lv_aload_n hx hb d_10_loadWith_26 rfl (lv_at hl 1 rfl) ?_
  refine lv_aload_n hx hb d_10_loadWith_27 rfl (lv_at hl 1 rfl) ?_
  refine lv_iconst (v := (1 : Int32)) hx hb d_10_loadWith_28 (by decide) ?_
  refine iv_10_148 S hl.1 hG hk_r0 (c_10_latestOf l hk_r0 hf) ⟨Nat.le_of_ble_eq_true rfl, Nat.le_of_ble_eq_true rfl⟩ (Nat.le_of_ble_eq_true rfl) d_10_loadWith_29 (fun v_9 σ_8 hf H locs hG => ?_)
  refine pf_10_192 S hG hk_r0 d_10_loadWith_32 (fun σ_10 eσ_10 H locs hG => ?_)
  have hf := hf σ_10 eσ_10
  refine lv_aload_n hx hb d_10_loadWith_35 rfl (lv_at hl 1 rfl) ?_
  refine lv_bipush (v := (9 : Int32)) hx hb d_10_loadWith_36 (by decide) ?_
  refine lv_iconst (v := (0 : Int32)) hx hb d_10_loadWith_38 (by decide) ?_
  refine iv_10_29 S hl.1 hG hk_r0 (c_10_copies l hk_r0 hf) ⟨Nat.le_of_ble_eq_true rfl, Nat.le_of_ble_eq_true rfl⟩ (Nat.le_of_ble_eq_true rfl) d_10_loadWith_39 (fun σ_11 hf H locs hG => ?_)
  refine lv_iload_n hx hb d_10_loadWith_42 rfl (lv_at hl 0 rfl) ?_
  exact hR _ _ _ _ _ _ hG hf d_10_loadWith_43
theorem c_10_loadWith (l : Launch) {D : va_G} {ac : Nat → ClassId} {ad st : Nat → Nat} {A : Nat → Prop} {σ : St} {r0 : Nat} {x1 : Int32} {Q : Int32 → St → Prop} (hk_r0 : kd r0 = 10) (hf : m_10_loadWith r0 x1 Q σ) : Met l y_10_loadWith (Cond.code y_10_loadWith prog_12_method_66_code 3 (some .int) :: wA) { frames := 5, cells := 0, slots := 0, locals := 120 } (va_Pc [.ref (ad r0), .int x1] (GSt A D ac ad st σ)) (va_Qi Q (GSt A D ac ad st) A) 0 0 A :=
  mkI l (by decide +kernel) rfl [.ref (ad r0), .int x1] (Nat.le_of_ble_eq_true rfl) (fun p e s m args below meth c ls QW S hR hG hl => w_10_loadWith_0 S hR hk_r0 hG hl hf)
set_option maxHeartbeats 4000000 in
set_option maxRecDepth 100000 in
theorem w_10_ifSpeed_0 {r0 : Nat} {x1 : Int32} {Q : Int32 → St → Prop} {σ : St} {H : Heap} {locs : List Loc} {ls : Array Slot} (S : SC A D ac st p m c prog_12_method_67_code 2 s args "SweeperRoundsModel" R cells slots 6 142) (hR : RtI A D ac ad p l e R s m args below meth c prog_12_method_67_code cells slots QW Q) (hk_r0 : kd r0 = 10) (hG : DG A D ac ad s σ H locs) (hl : lv_has ls 2 [(0, .ref (ad r0)), (1, .int x1)]) (hf : m_10_ifSpeed r0 x1 Q σ) : W p l e R s m args below meth c H locs cells slots QW (F0 m 0 ls []) := by
  have hx := S.1.1
  have hb := S.1.2.1
  unfold m_10_ifSpeed at hf
  refine lv_iload_n hx hb d_10_ifSpeed_0 rfl (lv_at hl 1 rfl) ?_
  refine lv_iconst (v := (1 : Int32)) hx hb d_10_ifSpeed_1 (by decide) ?_
  refine lv_iconst (v := (4 : Int32)) hx hb d_10_ifSpeed_2 (by decide) ?_
  refine iv_10_40 S hl.1 hG  (c_10_in l  hf) ⟨Nat.le_of_ble_eq_true rfl, Nat.le_of_ble_eq_true rfl⟩ (Nat.le_of_ble_eq_true rfl) d_10_ifSpeed_3 (fun v_2 σ_1 hf H locs hG => ?_)
  refine lv_if_ne (tgt := 11) hx hb d_10_ifSpeed_6 (by decide) (fun hc => ?_) (fun hc => ?_)
  · have hf := hf.1 hc
    refine lv_aload_n hx hb d_10_ifSpeed_11 rfl (lv_at hl 0 rfl) ?_
    refine iv_10_176 S hl.1 hG hk_r0 (c_10_laysOrder l hk_r0 hf) ⟨Nat.le_of_ble_eq_true rfl, Nat.le_of_ble_eq_true rfl⟩ (Nat.le_of_ble_eq_true rfl) d_10_ifSpeed_12 (fun σ_3 hf H locs hG => ?_)
    refine lv_aload_n hx hb d_10_ifSpeed_15 rfl (lv_at hl 0 rfl) ?_
    refine lv_iload_n hx hb d_10_ifSpeed_16 rfl (lv_at hl 1 rfl) ?_
    refine iv_10_195 S hl.1 hG hk_r0 (c_10_loadWith l hk_r0 hf) ⟨Nat.le_of_ble_eq_true rfl, Nat.le_of_ble_eq_true rfl⟩ (Nat.le_of_ble_eq_true rfl) d_10_ifSpeed_17 (fun v_6 σ_5 hf H locs hG => ?_)
    exact hR _ _ _ _ _ _ hG hf d_10_ifSpeed_20
  · have hf := hf.2 hc
    refine lv_iconst (v := (-1 : Int32)) hx hb d_10_ifSpeed_9 (by decide) ?_
    exact hR _ _ _ _ _ _ hG hf d_10_ifSpeed_10
theorem c_10_ifSpeed (l : Launch) {D : va_G} {ac : Nat → ClassId} {ad st : Nat → Nat} {A : Nat → Prop} {σ : St} {r0 : Nat} {x1 : Int32} {Q : Int32 → St → Prop} (hk_r0 : kd r0 = 10) (hf : m_10_ifSpeed r0 x1 Q σ) : Met l y_10_ifSpeed (Cond.code y_10_ifSpeed prog_12_method_67_code 2 (some .int) :: wA) { frames := 6, cells := 0, slots := 0, locals := 142 } (va_Pc [.ref (ad r0), .int x1] (GSt A D ac ad st σ)) (va_Qi Q (GSt A D ac ad st) A) 0 0 A :=
  mkI l (by decide +kernel) rfl [.ref (ad r0), .int x1] (Nat.le_of_ble_eq_true rfl) (fun p e s m args below meth c ls QW S hR hG hl => w_10_ifSpeed_0 S hR hk_r0 hG hl hf)
set_option maxHeartbeats 4000000 in
set_option maxRecDepth 100000 in
theorem w_10_bestSpeed_51 {r0 : Nat} {x4 : Int32} {x5 : Int32} {B13 : Int32 → Int32 → Int32 → Int32 → St → Prop} {Q : Int32 → St → Prop} {σ : St} {H : Heap} {locs : List Loc} {ls : Array Slot} (S : SC A D ac st p m c prog_12_method_68_code 6 s args "SweeperRoundsModel" R cells slots 6 142) (hR : RtI A D ac ad p l e R s m args below meth c prog_12_method_68_code cells slots QW Q) (hk_r0 : kd r0 = 10) (hB13 : ∀ (x1 : Int32) (x2 : Int32) (x3 : Int32) (x4 : Int32) (σ : St) (H : Heap) (locs : List Loc) (ls : Array Slot), DG A D ac ad s σ H locs → lv_has ls 6 [(0, .ref (ad r0)), (1, .int x1), (2, .int x2), (3, .int x3), (4, .int x4)] → B13 x1 x2 x3 x4 σ → W p l e R s m args below meth c H locs cells slots QW (F0 m 13 ls [])) (hG : DG A D ac ad s σ H locs) (hl : lv_has ls 6 [(0, .ref (ad r0)), (4, .int x4), (5, .int x5)]) (hf : m_10_bestSpeed_51 r0 x4 x5 B13 Q σ) : W p l e R s m args below meth c H locs cells slots QW (F0 m 51 ls []) := by
  have hx := S.1.1
  have hb := S.1.2.1
  unfold m_10_bestSpeed_51 at hf
  refine lv_iload hx hb d_10_bestSpeed_51 (lv_at hl 1 rfl) ?_
  refine lv_istore_n (lv' := [(1, .int x4), (0, .ref (ad r0)), (4, .int x4), (5, .int x5)]) hx hb d_10_bestSpeed_53 rfl hl (by decide) rfl (fun ls hl => ?_)
  refine lv_iload hx hb d_10_bestSpeed_54 (lv_at hl 3 rfl) ?_
  refine lv_istore_n (lv' := [(2, .int x5), (1, .int x4), (0, .ref (ad r0)), (4, .int x4), (5, .int x5)]) hx hb d_10_bestSpeed_56 rfl hl (by decide) rfl (fun ls hl => ?_)
  refine lv_aload_n hx hb d_10_bestSpeed_57 rfl (lv_at hl 2 rfl) ?_
  refine gf_10_192 S hG hk_r0 d_10_bestSpeed_58 ?_
  refine lv_topi (fun x3_1 ex3_1 => ?_)
  have hf := hf x3_1 ex3_1
  refine lv_istore_n (lv' := [(3, .int x3_1), (2, .int x5), (1, .int x4), (0, .ref (ad r0)), (4, .int x4), (5, .int x5)]) hx hb d_10_bestSpeed_61 rfl hl (by decide) rfl (fun ls hl => ?_)
  obtain ⟨x4_2, ex4_2⟩ : ∃ y : Int32, y = x4 + 1 := ⟨_, rfl⟩
  have hf := hf x4_2 ex4_2
  refine lv_iinc (v := x4_2) (lv' := [(4, .int x4_2), (3, .int x3_1), (2, .int x5), (1, .int x4), (0, .ref (ad r0)), (5, .int x5)]) hx hb d_10_bestSpeed_62 hl (k := 4) rfl (by rw [ex4_2]; rfl) (by decide) rfl (fun ls hl => ?_)
  refine lv_goto (tgt := 13) hx hb d_10_bestSpeed_65 (by decide) ?_
  exact hB13 _ _ _ _ _ _ _ _  hG (lv_sub hl [4, 3, 2, 1, 0] rfl) hf
set_option maxHeartbeats 4000000 in
set_option maxRecDepth 100000 in
theorem w_10_bestSpeed_13 {r0 : Nat} {Q : Int32 → St → Prop} {B13 : Int32 → Int32 → Int32 → Int32 → St → Prop} {x1 : Int32} {x2 : Int32} {x3 : Int32} {x4 : Int32} {σ : St} {H : Heap} {locs : List Loc} {ls : Array Slot} (S : SC A D ac st p m c prog_12_method_68_code 6 s args "SweeperRoundsModel" R cells slots 6 142) (hR : RtI A D ac ad p l e R s m args below meth c prog_12_method_68_code cells slots QW Q) (hk_r0 : kd r0 = 10) (hB13 : ∀ (x1 : Int32) (x2 : Int32) (x3 : Int32) (x4 : Int32) (σ : St) (H : Heap) (locs : List Loc) (ls : Array Slot), DG A D ac ad s σ H locs → lv_has ls 6 [(0, .ref (ad r0)), (1, .int x1), (2, .int x2), (3, .int x3), (4, .int x4)] → B13 x1 x2 x3 x4 σ → W p l e R s m args below meth c H locs cells slots QW (F0 m 13 ls [])) (hG : DG A D ac ad s σ H locs) (hl : lv_has ls 6 [(0, .ref (ad r0)), (1, .int x1), (2, .int x2), (3, .int x3), (4, .int x4)]) (hf : m_10_bestSpeed_13 r0 Q B13 x1 x2 x3 x4 σ) : W p l e R s m args below meth c H locs cells slots QW (F0 m 13 ls []) := by
  have hx := S.1.1
  have hb := S.1.2.1
  unfold m_10_bestSpeed_13 at hf
  refine lv_iload hx hb d_10_bestSpeed_13 (lv_at hl 4 rfl) ?_
  refine lv_iconst (v := (4 : Int32)) hx hb d_10_bestSpeed_15 (by decide) ?_
  refine lv_icmp_gt (tgt := 68) hx hb d_10_bestSpeed_16 (by decide) (fun hc => ?_) (fun hc => ?_)
  · have hf := hf.1 hc
    refine lv_iload_n hx hb d_10_bestSpeed_68 rfl (lv_at hl 1 rfl) ?_
    exact hR _ _ _ _ _ _ hG hf d_10_bestSpeed_69
  · have hf := hf.2 hc
    refine lv_aload_n hx hb d_10_bestSpeed_19 rfl (lv_at hl 0 rfl) ?_
    refine lv_iload hx hb d_10_bestSpeed_20 (lv_at hl 4 rfl) ?_
    refine iv_10_195 S hl.1 hG hk_r0 (c_10_loadWith l hk_r0 hf) ⟨Nat.le_of_ble_eq_true rfl, Nat.le_of_ble_eq_true rfl⟩ (Nat.le_of_ble_eq_true rfl) d_10_bestSpeed_22 (fun v_2 σ_1 hf H locs hG => ?_)
    refine lv_istore (lv' := [(5, .int v_2), (0, .ref (ad r0)), (1, .int x1), (2, .int x2), (3, .int x3), (4, .int x4)]) hx hb d_10_bestSpeed_25 hl (by decide) rfl (fun ls hl => ?_)
    refine lv_iload_n hx hb d_10_bestSpeed_27 rfl (lv_at hl 2 rfl) ?_
    refine lv_if_eq (tgt := 51) hx hb d_10_bestSpeed_28 (by decide) (fun hc => ?_) (fun hc => ?_)
    · have hf := hf.1 hc
      exact w_10_bestSpeed_51 S hR hk_r0   hB13 hG (lv_sub hl [1, 5, 0] rfl) hf
    · have hf := hf.2 hc
      refine lv_iload hx hb d_10_bestSpeed_31 (lv_at hl 0 rfl) ?_
      refine lv_iload_n hx hb d_10_bestSpeed_33 rfl (lv_at hl 3 rfl) ?_
      refine lv_icmp_gt (tgt := 51) hx hb d_10_bestSpeed_34 (by decide) (fun hc => ?_) (fun hc => ?_)
      · have hf := hf.1 hc
        exact w_10_bestSpeed_51 S hR hk_r0   hB13 hG (lv_sub hl [1, 5, 0] rfl) hf
      · have hf := hf.2 hc
        refine lv_iload hx hb d_10_bestSpeed_37 (lv_at hl 0 rfl) ?_
        refine lv_iload_n hx hb d_10_bestSpeed_39 rfl (lv_at hl 3 rfl) ?_
        refine lv_icmp_ne (tgt := 62) hx hb d_10_bestSpeed_40 (by decide) (fun hc => ?_) (fun hc => ?_)
        · have hf := hf.1 hc
          obtain ⟨x4_3, ex4_3⟩ : ∃ y : Int32, y = x4 + 1 := ⟨_, rfl⟩
          have hf := hf x4_3 ex4_3
          refine lv_iinc (v := x4_3) (lv' := [(4, .int x4_3), (5, .int v_2), (0, .ref (ad r0)), (1, .int x1), (2, .int x2), (3, .int x3)]) hx hb d_10_bestSpeed_62 hl (k := 5) rfl (by rw [ex4_3]; rfl) (by decide) rfl (fun ls hl => ?_)
          refine lv_goto (tgt := 13) hx hb d_10_bestSpeed_65 (by decide) ?_
          exact hB13 _ _ _ _ _ _ _ _  hG (lv_sub hl [2, 3, 4, 5, 0] rfl) hf
        · have hf := hf.2 hc
          refine lv_aload_n hx hb d_10_bestSpeed_43 rfl (lv_at hl 1 rfl) ?_
          refine gf_10_192 S hG hk_r0 d_10_bestSpeed_44 ?_
          refine lv_iload_n hx hb d_10_bestSpeed_47 rfl (lv_at hl 4 rfl) ?_
          refine lv_icmp_ge (tgt := 62) hx hb d_10_bestSpeed_48 (by decide) (fun hc => ?_) (fun hc => ?_)
          · have hf := hf.1 hc
            obtain ⟨x4_4, ex4_4⟩ : ∃ y : Int32, y = x4 + 1 := ⟨_, rfl⟩
            have hf := hf x4_4 ex4_4
            refine lv_iinc (v := x4_4) (lv' := [(4, .int x4_4), (5, .int v_2), (0, .ref (ad r0)), (1, .int x1), (2, .int x2), (3, .int x3)]) hx hb d_10_bestSpeed_62 hl (k := 5) rfl (by rw [ex4_4]; rfl) (by decide) rfl (fun ls hl => ?_)
            refine lv_goto (tgt := 13) hx hb d_10_bestSpeed_65 (by decide) ?_
            exact hB13 _ _ _ _ _ _ _ _  hG (lv_sub hl [2, 3, 4, 5, 0] rfl) hf
          · have hf := hf.2 hc
            exact w_10_bestSpeed_51 S hR hk_r0   hB13 hG (lv_sub hl [1, 5, 0] rfl) hf
set_option maxHeartbeats 4000000 in
set_option maxRecDepth 100000 in
theorem lp_10_bestSpeed_13 {r0 : Nat} {Q : Int32 → St → Prop} (S : SC A D ac st p m c prog_12_method_68_code 6 s args "SweeperRoundsModel" R cells slots 6 142) (hR : RtI A D ac ad p l e R s m args below meth c prog_12_method_68_code cells slots QW Q) (hk_r0 : kd r0 = 10) : ∀ (n : Nat) (x1 : Int32) (x2 : Int32) (x3 : Int32) (x4 : Int32) (σ : St) (H : Heap) (locs : List Loc) (ls : Array Slot), DG A D ac ad s σ H locs → lv_has ls 6 [(0, .ref (ad r0)), (1, .int x1), (2, .int x2), (3, .int x3), (4, .int x4)] → itN (m_10_bestSpeed_13 r0 Q) (fun _ _ _ _ _ => False) n x1 x2 x3 x4 σ → W p l e R s m args below meth c H locs cells slots QW (F0 m 13 ls []) := by
  intro n
  induction n with
  | zero =>
    intro x1 x2 x3 x4 σ H locs ls  hG hl hf
    exact hf.elim
  | succ n ih =>
    intro x1 x2 x3 x4 σ H locs ls  hG hl hf
    exact w_10_bestSpeed_13 S hR hk_r0  ih hG hl hf
set_option maxHeartbeats 4000000 in
set_option maxRecDepth 100000 in
theorem w_10_bestSpeed_0 {r0 : Nat} {Q : Int32 → St → Prop} {σ : St} {H : Heap} {locs : List Loc} {ls : Array Slot} (S : SC A D ac st p m c prog_12_method_68_code 6 s args "SweeperRoundsModel" R cells slots 6 142) (hR : RtI A D ac ad p l e R s m args below meth c prog_12_method_68_code cells slots QW Q) (hk_r0 : kd r0 = 10) (hG : DG A D ac ad s σ H locs) (hl : lv_has ls 6 [(0, .ref (ad r0))]) (hf : m_10_bestSpeed r0 Q σ) : W p l e R s m args below meth c H locs cells slots QW (F0 m 0 ls []) := by
  have hx := S.1.1
  have hb := S.1.2.1
  unfold m_10_bestSpeed at hf
  refine lv_aload_n hx hb d_10_bestSpeed_0 rfl (lv_at hl 0 rfl) ?_
  refine iv_10_176 S hl.1 hG hk_r0 (c_10_laysOrder l hk_r0 hf) ⟨Nat.le_of_ble_eq_true rfl, Nat.le_of_ble_eq_true rfl⟩ (Nat.le_of_ble_eq_true rfl) d_10_bestSpeed_1 (fun σ_1 hf H locs hG => ?_)
  refine lv_iconst (v := (0 : Int32)) hx hb d_10_bestSpeed_4 (by decide) ?_
  refine lv_istore_n (lv' := [(1, .int (0 : Int32)), (0, .ref (ad r0))]) hx hb d_10_bestSpeed_5 rfl hl (by decide) rfl (fun ls hl => ?_)
  refine lv_iconst (v := (0 : Int32)) hx hb d_10_bestSpeed_6 (by decide) ?_
  refine lv_istore_n (lv' := [(2, .int (0 : Int32)), (1, .int (0 : Int32)), (0, .ref (ad r0))]) hx hb d_10_bestSpeed_7 rfl hl (by decide) rfl (fun ls hl => ?_)
  refine lv_iconst (v := (0 : Int32)) hx hb d_10_bestSpeed_8 (by decide) ?_
  refine lv_istore_n (lv' := [(3, .int (0 : Int32)), (2, .int (0 : Int32)), (1, .int (0 : Int32)), (0, .ref (ad r0))]) hx hb d_10_bestSpeed_9 rfl hl (by decide) rfl (fun ls hl => ?_)
  refine lv_iconst (v := (1 : Int32)) hx hb d_10_bestSpeed_10 (by decide) ?_
  refine lv_istore (lv' := [(4, .int (1 : Int32)), (3, .int (0 : Int32)), (2, .int (0 : Int32)), (1, .int (0 : Int32)), (0, .ref (ad r0))]) hx hb d_10_bestSpeed_11 hl (by decide) rfl (fun ls hl => ?_)
  exact lp_10_bestSpeed_13 S hR hk_r0  FU _ _ _ _ _ _ _ _  hG (lv_sub hl [4, 3, 2, 1, 0] rfl) hf
theorem c_10_bestSpeed (l : Launch) {D : va_G} {ac : Nat → ClassId} {ad st : Nat → Nat} {A : Nat → Prop} {σ : St} {r0 : Nat} {Q : Int32 → St → Prop} (hk_r0 : kd r0 = 10) (hf : m_10_bestSpeed r0 Q σ) : Met l y_10_bestSpeed (Cond.code y_10_bestSpeed prog_12_method_68_code 6 (some .int) :: wA) { frames := 6, cells := 0, slots := 0, locals := 142 } (va_Pc [.ref (ad r0)] (GSt A D ac ad st σ)) (va_Qi Q (GSt A D ac ad st) A) 0 0 A :=
  mkI l (by decide +kernel) rfl [.ref (ad r0)] (Nat.le_of_ble_eq_true rfl) (fun p e s m args below meth c ls QW S hR hG hl => w_10_bestSpeed_0 S hR hk_r0 hG hl hf)
set_option maxHeartbeats 4000000 in
set_option maxRecDepth 100000 in
theorem w_10_swaps_0 {r0 : Nat} {x1 : Int32} {x2 : Int32} {Q : St → Prop} {σ : St} {H : Heap} {locs : List Loc} {ls : Array Slot} (S : SC A D ac st p m c prog_12_method_69_code 4 s args "SweeperRoundsModel" R cells slots 0 0) (hR : RtV A D ac ad p l e R s m args below meth c prog_12_method_69_code cells slots QW Q) (hk_r0 : kd r0 = 10) (hG : DG A D ac ad s σ H locs) (hl : lv_has ls 4 [(0, .ref (ad r0)), (1, .int x1), (2, .int x2)]) (hf : m_10_swaps r0 x1 x2 Q σ) : W p l e R s m args below meth c H locs cells slots QW (F0 m 0 ls []) := by
  have hx := S.1.1
  have hb := S.1.2.1
  unfold m_10_swaps at hf
  refine lv_aload_n hx hb d_10_swaps_0 rfl (lv_at hl 0 rfl) ?_
  refine gf_10_19 S hG hk_r0 d_10_swaps_1 ?_
  refine lv_iload_n hx hb d_10_swaps_4 rfl (lv_at hl 1 rfl) ?_
  refine mia S hG 33 rfl rfl (kr_10_8 hk_r0) hf.1 d_10_swaps_5 ?_
  have hf := hf.2
  refine lv_topi (fun x3_1 ex3_1 => ?_)
  have hf := hf x3_1 ex3_1
  refine lv_istore_n (lv' := [(3, .int x3_1), (0, .ref (ad r0)), (1, .int x1), (2, .int x2)]) hx hb d_10_swaps_6 rfl hl (by decide) rfl (fun ls hl => ?_)
  refine lv_aload_n hx hb d_10_swaps_7 rfl (lv_at hl 1 rfl) ?_
  refine gf_10_19 S hG hk_r0 d_10_swaps_8 ?_
  refine lv_iload_n hx hb d_10_swaps_11 rfl (lv_at hl 2 rfl) ?_
  refine lv_aload_n hx hb d_10_swaps_12 rfl (lv_at hl 1 rfl) ?_
  refine gf_10_19 S hG hk_r0 d_10_swaps_13 ?_
  refine lv_iload_n hx hb d_10_swaps_16 rfl (lv_at hl 3 rfl) ?_
  refine mia S hG 33 rfl rfl (kr_10_8 hk_r0) hf.1 d_10_swaps_17 ?_
  have hf := hf.2
  refine mis S hG 33 rfl rfl (kr_10_8 hk_r0) hf.1 d_10_swaps_18 (fun σ_2 eσ_2 H locs hG => ?_)
  have hf := hf.2 σ_2 eσ_2
  refine lv_aload_n hx hb d_10_swaps_19 rfl (lv_at hl 1 rfl) ?_
  refine gf_10_19 S hG hk_r0 d_10_swaps_20 ?_
  refine lv_iload_n hx hb d_10_swaps_23 rfl (lv_at hl 3 rfl) ?_
  refine lv_iload_n hx hb d_10_swaps_24 rfl (lv_at hl 0 rfl) ?_
  refine mis S hG 33 rfl rfl (kr_10_8 hk_r0) hf.1 d_10_swaps_25 (fun σ_3 eσ_3 H locs hG => ?_)
  have hf := hf.2 σ_3 eσ_3
  exact hR _ _ _ _ _ hG hf d_10_swaps_26
theorem c_10_swaps (l : Launch) {D : va_G} {ac : Nat → ClassId} {ad st : Nat → Nat} {A : Nat → Prop} {σ : St} {r0 : Nat} {x1 : Int32} {x2 : Int32} {Q : St → Prop} (hk_r0 : kd r0 = 10) (hf : m_10_swaps r0 x1 x2 Q σ) : Met l y_10_swaps (Cond.code y_10_swaps prog_12_method_69_code 4 none :: wA) { frames := 0, cells := 0, slots := 0, locals := 0 } (va_Pc [.ref (ad r0), .int x1, .int x2] (GSt A D ac ad st σ)) (va_Qv Q (GSt A D ac ad st) A) 0 0 A :=
  mkV l (by decide +kernel) rfl [.ref (ad r0), .int x1, .int x2] (Nat.le_of_ble_eq_true rfl) (fun p e s m args below meth c ls QW S hR hG hl => w_10_swaps_0 S hR hk_r0 hG hl hf)
set_option maxHeartbeats 4000000 in
set_option maxRecDepth 100000 in
theorem w_10_ordersNext_87 {r0 : Nat} {Q : Int32 → St → Prop} {B87 : Int32 → Int32 → St → Prop} {x4 : Int32} {x5 : Int32} {σ : St} {H : Heap} {locs : List Loc} {ls : Array Slot} (S : SC A D ac st p m c prog_12_method_70_code 6 s args "SweeperRoundsModel" R cells slots 1 23) (hR : RtZ A D ac ad p l e R s m args below meth c prog_12_method_70_code cells slots QW Q) (hk_r0 : kd r0 = 10) (hB87 : ∀ (x4 : Int32) (x5 : Int32) (σ : St) (H : Heap) (locs : List Loc) (ls : Array Slot), DG A D ac ad s σ H locs → lv_has ls 6 [(0, .ref (ad r0)), (4, .int x4), (5, .int x5)] → B87 x4 x5 σ → W p l e R s m args below meth c H locs cells slots QW (F0 m 87 ls [])) (hG : DG A D ac ad s σ H locs) (hl : lv_has ls 6 [(0, .ref (ad r0)), (4, .int x4), (5, .int x5)]) (hf : m_10_ordersNext_87 r0 Q B87 x4 x5 σ) : W p l e R s m args below meth c H locs cells slots QW (F0 m 87 ls []) := by
  have hx := S.1.1
  have hb := S.1.2.1
  unfold m_10_ordersNext_87 at hf
  refine lv_iload hx hb d_10_ordersNext_87 (lv_at hl 2 rfl) ?_
  refine lv_iload hx hb d_10_ordersNext_89 (lv_at hl 1 rfl) ?_
  refine lv_icmp_ge (tgt := 111) hx hb d_10_ordersNext_91 (by decide) (fun hc => ?_) (fun hc => ?_)
  · have hf := hf.1 hc
    refine lv_iconst (v := (1 : Int32)) hx hb d_10_ordersNext_111 (by decide) ?_
    exact hR _ _ _ _ _ _ hG (by unfold isB; decide) hf d_10_ordersNext_112
  · have hf := hf.2 hc
    refine lv_aload_n hx hb d_10_ordersNext_94 rfl (lv_at hl 0 rfl) ?_
    refine lv_iload hx hb d_10_ordersNext_95 (lv_at hl 2 rfl) ?_
    refine lv_iload hx hb d_10_ordersNext_97 (lv_at hl 1 rfl) ?_
    refine iv_10_198 S hl.1 hG hk_r0 (c_10_swaps l hk_r0 hf) ⟨Nat.le_of_ble_eq_true rfl, Nat.le_of_ble_eq_true rfl⟩ (Nat.le_of_ble_eq_true rfl) d_10_ordersNext_99 (fun σ_1 hf H locs hG => ?_)
    obtain ⟨x4_3, ex4_3⟩ : ∃ y : Int32, y = x4 + (-1) := ⟨_, rfl⟩
    have hf := hf x4_3 ex4_3
    refine lv_iinc (v := x4_3) (lv' := [(4, .int x4_3), (0, .ref (ad r0)), (5, .int x5)]) hx hb d_10_ordersNext_102 hl (k := 1) rfl (by rw [ex4_3]; rfl) (by decide) rfl (fun ls hl => ?_)
    obtain ⟨x5_4, ex5_4⟩ : ∃ y : Int32, y = x5 + 1 := ⟨_, rfl⟩
    have hf := hf x5_4 ex5_4
    refine lv_iinc (v := x5_4) (lv' := [(5, .int x5_4), (4, .int x4_3), (0, .ref (ad r0))]) hx hb d_10_ordersNext_105 hl (k := 2) rfl (by rw [ex5_4]; rfl) (by decide) rfl (fun ls hl => ?_)
    refine lv_goto (tgt := 87) hx hb d_10_ordersNext_108 (by decide) ?_
    exact hB87 _ _ _ _ _ _  hG (lv_sub hl [2, 1, 0] rfl) hf
set_option maxHeartbeats 4000000 in
set_option maxRecDepth 100000 in
theorem lp_10_ordersNext_87 {r0 : Nat} {Q : Int32 → St → Prop} (S : SC A D ac st p m c prog_12_method_70_code 6 s args "SweeperRoundsModel" R cells slots 1 23) (hR : RtZ A D ac ad p l e R s m args below meth c prog_12_method_70_code cells slots QW Q) (hk_r0 : kd r0 = 10) : ∀ (n : Nat) (x4 : Int32) (x5 : Int32) (σ : St) (H : Heap) (locs : List Loc) (ls : Array Slot), DG A D ac ad s σ H locs → lv_has ls 6 [(0, .ref (ad r0)), (4, .int x4), (5, .int x5)] → itN (m_10_ordersNext_87 r0 Q) (fun _ _ _ => False) n x4 x5 σ → W p l e R s m args below meth c H locs cells slots QW (F0 m 87 ls []) := by
  intro n
  induction n with
  | zero =>
    intro x4 x5 σ H locs ls  hG hl hf
    exact hf.elim
  | succ n ih =>
    intro x4 x5 σ H locs ls  hG hl hf
    exact w_10_ordersNext_87 S hR hk_r0  ih hG hl hf
set_option maxHeartbeats 4000000 in
set_option maxRecDepth 100000 in
theorem w_10_ordersNext_50 {r0 : Nat} {x1 : Int32} {x2 : Int32} {Q : Int32 → St → Prop} {B50 : Int32 → St → Prop} {x3 : Int32} {σ : St} {H : Heap} {locs : List Loc} {ls : Array Slot} (S : SC A D ac st p m c prog_12_method_70_code 6 s args "SweeperRoundsModel" R cells slots 1 23) (hR : RtZ A D ac ad p l e R s m args below meth c prog_12_method_70_code cells slots QW Q) (hk_r0 : kd r0 = 10) (hB50 : ∀ (x3 : Int32) (σ : St) (H : Heap) (locs : List Loc) (ls : Array Slot), DG A D ac ad s σ H locs → lv_has ls 6 [(0, .ref (ad r0)), (1, .int x1), (2, .int x2), (3, .int x3)] → B50 x3 σ → W p l e R s m args below meth c H locs cells slots QW (F0 m 50 ls [])) (hG : DG A D ac ad s σ H locs) (hl : lv_has ls 6 [(0, .ref (ad r0)), (1, .int x1), (2, .int x2), (3, .int x3)]) (hf : m_10_ordersNext_50 r0 x1 x2 Q B50 x3 σ) : W p l e R s m args below meth c H locs cells slots QW (F0 m 50 ls []) := by
  have hx := S.1.1
  have hb := S.1.2.1
  unfold m_10_ordersNext_50 at hf
  refine lv_aload_n hx hb d_10_ordersNext_50 rfl (lv_at hl 0 rfl) ?_
  refine gf_10_19 S hG hk_r0 d_10_ordersNext_51 ?_
  refine lv_iload_n hx hb d_10_ordersNext_54 rfl (lv_at hl 3 rfl) ?_
  refine mia S hG 33 rfl rfl (kr_10_8 hk_r0) hf.1 d_10_ordersNext_55 ?_
  have hf := hf.2
  refine lv_aload_n hx hb d_10_ordersNext_56 rfl (lv_at hl 0 rfl) ?_
  refine gf_10_19 S hG hk_r0 d_10_ordersNext_57 ?_
  refine lv_iload_n hx hb d_10_ordersNext_60 rfl (lv_at hl 2 rfl) ?_
  refine mia S hG 33 rfl rfl (kr_10_8 hk_r0) hf.1 d_10_ordersNext_61 ?_
  have hf := hf.2
  refine lv_icmp_ge (tgt := 71) hx hb d_10_ordersNext_62 (by decide) (fun hc => ?_) (fun hc => ?_)
  · have hf := hf.1 hc
    refine lv_aload_n hx hb d_10_ordersNext_71 rfl (lv_at hl 0 rfl) ?_
    refine lv_iload_n hx hb d_10_ordersNext_72 rfl (lv_at hl 2 rfl) ?_
    refine lv_iload_n hx hb d_10_ordersNext_73 rfl (lv_at hl 3 rfl) ?_
    refine iv_10_198 S hl.1 hG hk_r0 (c_10_swaps l hk_r0 hf) ⟨Nat.le_of_ble_eq_true rfl, Nat.le_of_ble_eq_true rfl⟩ (Nat.le_of_ble_eq_true rfl) d_10_ordersNext_74 (fun σ_1 hf H locs hG => ?_)
    refine lv_iload_n hx hb d_10_ordersNext_77 rfl (lv_at hl 1 rfl) ?_
    refine lv_iconst (v := (1 : Int32)) hx hb d_10_ordersNext_78 (by decide) ?_
    refine lv_isub hx hb d_10_ordersNext_79 ?_
    refine lv_topi (fun x4_3 ex4_3 => ?_)
    have hf := hf x4_3 ex4_3
    refine lv_istore (lv' := [(4, .int x4_3), (0, .ref (ad r0)), (1, .int x1), (2, .int x2), (3, .int x3)]) hx hb d_10_ordersNext_80 hl (by decide) rfl (fun ls hl => ?_)
    refine lv_iload_n hx hb d_10_ordersNext_82 rfl (lv_at hl 3 rfl) ?_
    refine lv_iconst (v := (1 : Int32)) hx hb d_10_ordersNext_83 (by decide) ?_
    refine lv_iadd hx hb d_10_ordersNext_84 ?_
    refine lv_topi (fun x5_4 ex5_4 => ?_)
    have hf := hf x5_4 ex5_4
    refine lv_istore (lv' := [(5, .int x5_4), (4, .int x4_3), (0, .ref (ad r0)), (1, .int x1), (2, .int x2), (3, .int x3)]) hx hb d_10_ordersNext_85 hl (by decide) rfl (fun ls hl => ?_)
    exact lp_10_ordersNext_87 S hR hk_r0  FU _ _ _ _ _ _  hG (lv_sub hl [2, 1, 0] rfl) hf
  · have hf := hf.2 hc
    obtain ⟨x3_5, ex3_5⟩ : ∃ y : Int32, y = x3 + (-1) := ⟨_, rfl⟩
    have hf := hf x3_5 ex3_5
    refine lv_iinc (v := x3_5) (lv' := [(3, .int x3_5), (0, .ref (ad r0)), (1, .int x1), (2, .int x2)]) hx hb d_10_ordersNext_65 hl (k := 3) rfl (by rw [ex3_5]; rfl) (by decide) rfl (fun ls hl => ?_)
    refine lv_goto (tgt := 50) hx hb d_10_ordersNext_68 (by decide) ?_
    exact hB50 _ _ _ _ _  hG (lv_sub hl [1, 2, 3, 0] rfl) hf
set_option maxHeartbeats 4000000 in
set_option maxRecDepth 100000 in
theorem lp_10_ordersNext_50 {r0 : Nat} {x1 : Int32} {x2 : Int32} {Q : Int32 → St → Prop} (S : SC A D ac st p m c prog_12_method_70_code 6 s args "SweeperRoundsModel" R cells slots 1 23) (hR : RtZ A D ac ad p l e R s m args below meth c prog_12_method_70_code cells slots QW Q) (hk_r0 : kd r0 = 10) : ∀ (n : Nat) (x3 : Int32) (σ : St) (H : Heap) (locs : List Loc) (ls : Array Slot), DG A D ac ad s σ H locs → lv_has ls 6 [(0, .ref (ad r0)), (1, .int x1), (2, .int x2), (3, .int x3)] → itN (m_10_ordersNext_50 r0 x1 x2 Q) (fun _ _ => False) n x3 σ → W p l e R s m args below meth c H locs cells slots QW (F0 m 50 ls []) := by
  intro n
  induction n with
  | zero =>
    intro x3 σ H locs ls  hG hl hf
    exact hf.elim
  | succ n ih =>
    intro x3 σ H locs ls  hG hl hf
    exact w_10_ordersNext_50 S hR hk_r0  ih hG hl hf
set_option maxHeartbeats 4000000 in
set_option maxRecDepth 100000 in
theorem w_10_ordersNext_40 {r0 : Nat} {x1 : Int32} {x2 : Int32} {Q : Int32 → St → Prop} {σ : St} {H : Heap} {locs : List Loc} {ls : Array Slot} (S : SC A D ac st p m c prog_12_method_70_code 6 s args "SweeperRoundsModel" R cells slots 1 23) (hR : RtZ A D ac ad p l e R s m args below meth c prog_12_method_70_code cells slots QW Q) (hk_r0 : kd r0 = 10) (hG : DG A D ac ad s σ H locs) (hl : lv_has ls 6 [(0, .ref (ad r0)), (1, .int x1), (2, .int x2)]) (hf : m_10_ordersNext_40 r0 x1 x2 Q σ) : W p l e R s m args below meth c H locs cells slots QW (F0 m 40 ls []) := by
  have hx := S.1.1
  have hb := S.1.2.1
  unfold m_10_ordersNext_40 at hf
  refine lv_iload_n hx hb d_10_ordersNext_40 rfl (lv_at hl 2 rfl) ?_
  refine lv_if_ge (tgt := 46) hx hb d_10_ordersNext_41 (by decide) (fun hc => ?_) (fun hc => ?_)
  · have hf := hf.1 hc
    refine lv_iload_n hx hb d_10_ordersNext_46 rfl (lv_at hl 1 rfl) ?_
    refine lv_iconst (v := (1 : Int32)) hx hb d_10_ordersNext_47 (by decide) ?_
    refine lv_isub hx hb d_10_ordersNext_48 ?_
    refine lv_topi (fun x3_1 ex3_1 => ?_)
    have hf := hf x3_1 ex3_1
    refine lv_istore_n (lv' := [(3, .int x3_1), (0, .ref (ad r0)), (1, .int x1), (2, .int x2)]) hx hb d_10_ordersNext_49 rfl hl (by decide) rfl (fun ls hl => ?_)
    exact lp_10_ordersNext_50 S hR hk_r0  FU _ _ _ _ _  hG (lv_sub hl [1, 2, 3, 0] rfl) hf
  · have hf := hf.2 hc
    refine lv_iconst (v := (0 : Int32)) hx hb d_10_ordersNext_44 (by decide) ?_
    exact hR _ _ _ _ _ _ hG (by unfold isB; decide) hf d_10_ordersNext_45
set_option maxHeartbeats 4000000 in
set_option maxRecDepth 100000 in
theorem w_10_ordersNext_13 {r0 : Nat} {x1 : Int32} {Q : Int32 → St → Prop} {B13 : Int32 → St → Prop} {x2 : Int32} {σ : St} {H : Heap} {locs : List Loc} {ls : Array Slot} (S : SC A D ac st p m c prog_12_method_70_code 6 s args "SweeperRoundsModel" R cells slots 1 23) (hR : RtZ A D ac ad p l e R s m args below meth c prog_12_method_70_code cells slots QW Q) (hk_r0 : kd r0 = 10) (hB13 : ∀ (x2 : Int32) (σ : St) (H : Heap) (locs : List Loc) (ls : Array Slot), DG A D ac ad s σ H locs → lv_has ls 6 [(0, .ref (ad r0)), (1, .int x1), (2, .int x2)] → B13 x2 σ → W p l e R s m args below meth c H locs cells slots QW (F0 m 13 ls [])) (hG : DG A D ac ad s σ H locs) (hl : lv_has ls 6 [(0, .ref (ad r0)), (1, .int x1), (2, .int x2)]) (hf : m_10_ordersNext_13 r0 x1 Q B13 x2 σ) : W p l e R s m args below meth c H locs cells slots QW (F0 m 13 ls []) := by
  have hx := S.1.1
  have hb := S.1.2.1
  unfold m_10_ordersNext_13 at hf
  refine lv_iload_n hx hb d_10_ordersNext_13 rfl (lv_at hl 2 rfl) ?_
  refine lv_if_lt (tgt := 40) hx hb d_10_ordersNext_14 (by decide) (fun hc => ?_) (fun hc => ?_)
  · have hf := hf.1 hc
    exact w_10_ordersNext_40 S hR hk_r0    hG (lv_sub hl [0, 1, 2] rfl) hf
  · have hf := hf.2 hc
    refine lv_aload_n hx hb d_10_ordersNext_17 rfl (lv_at hl 0 rfl) ?_
    refine gf_10_19 S hG hk_r0 d_10_ordersNext_18 ?_
    refine lv_iload_n hx hb d_10_ordersNext_21 rfl (lv_at hl 2 rfl) ?_
    refine mia S hG 33 rfl rfl (kr_10_8 hk_r0) hf.1 d_10_ordersNext_22 ?_
    have hf := hf.2
    refine lv_aload_n hx hb d_10_ordersNext_23 rfl (lv_at hl 0 rfl) ?_
    refine gf_10_19 S hG hk_r0 d_10_ordersNext_24 ?_
    refine lv_iload_n hx hb d_10_ordersNext_27 rfl (lv_at hl 2 rfl) ?_
    refine lv_iconst (v := (1 : Int32)) hx hb d_10_ordersNext_28 (by decide) ?_
    refine lv_iadd hx hb d_10_ordersNext_29 ?_
    refine mia S hG 33 rfl rfl (kr_10_8 hk_r0) hf.1 d_10_ordersNext_30 ?_
    have hf := hf.2
    refine lv_icmp_le (tgt := 40) hx hb d_10_ordersNext_31 (by decide) (fun hc => ?_) (fun hc => ?_)
    · have hf := hf.1 hc
      exact w_10_ordersNext_40 S hR hk_r0    hG (lv_sub hl [0, 1, 2] rfl) hf
    · have hf := hf.2 hc
      obtain ⟨x2_1, ex2_1⟩ : ∃ y : Int32, y = x2 + (-1) := ⟨_, rfl⟩
      have hf := hf x2_1 ex2_1
      refine lv_iinc (v := x2_1) (lv' := [(2, .int x2_1), (0, .ref (ad r0)), (1, .int x1)]) hx hb d_10_ordersNext_34 hl (k := 2) rfl (by rw [ex2_1]; rfl) (by decide) rfl (fun ls hl => ?_)
      refine lv_goto (tgt := 13) hx hb d_10_ordersNext_37 (by decide) ?_
      exact hB13 _ _ _ _ _  hG (lv_sub hl [1, 2, 0] rfl) hf
set_option maxHeartbeats 4000000 in
set_option maxRecDepth 100000 in
theorem lp_10_ordersNext_13 {r0 : Nat} {x1 : Int32} {Q : Int32 → St → Prop} (S : SC A D ac st p m c prog_12_method_70_code 6 s args "SweeperRoundsModel" R cells slots 1 23) (hR : RtZ A D ac ad p l e R s m args below meth c prog_12_method_70_code cells slots QW Q) (hk_r0 : kd r0 = 10) : ∀ (n : Nat) (x2 : Int32) (σ : St) (H : Heap) (locs : List Loc) (ls : Array Slot), DG A D ac ad s σ H locs → lv_has ls 6 [(0, .ref (ad r0)), (1, .int x1), (2, .int x2)] → itN (m_10_ordersNext_13 r0 x1 Q) (fun _ _ => False) n x2 σ → W p l e R s m args below meth c H locs cells slots QW (F0 m 13 ls []) := by
  intro n
  induction n with
  | zero =>
    intro x2 σ H locs ls  hG hl hf
    exact hf.elim
  | succ n ih =>
    intro x2 σ H locs ls  hG hl hf
    exact w_10_ordersNext_13 S hR hk_r0  ih hG hl hf
set_option maxHeartbeats 4000000 in
set_option maxRecDepth 100000 in
theorem w_10_ordersNext_0 {r0 : Nat} {Q : Int32 → St → Prop} {σ : St} {H : Heap} {locs : List Loc} {ls : Array Slot} (S : SC A D ac st p m c prog_12_method_70_code 6 s args "SweeperRoundsModel" R cells slots 1 23) (hR : RtZ A D ac ad p l e R s m args below meth c prog_12_method_70_code cells slots QW Q) (hk_r0 : kd r0 = 10) (hG : DG A D ac ad s σ H locs) (hl : lv_has ls 6 [(0, .ref (ad r0))]) (hf : m_10_ordersNext r0 Q σ) : W p l e R s m args below meth c H locs cells slots QW (F0 m 0 ls []) := by
  have hx := S.1.1
  have hb := S.1.2.1
  unfold m_10_ordersNext at hf
  refine lv_aload_n hx hb d_10_ordersNext_0 rfl (lv_at hl 0 rfl) ?_
  refine gf_10_7 S hG hk_r0 d_10_ordersNext_1 ?_
  refine lv_sipush (v := (507 : Int32)) hx hb d_10_ordersNext_4 (by decide) ?_
  refine mia S hG 30 rfl rfl (kr_10_0 hk_r0) hf.1 d_10_ordersNext_7 ?_
  have hf := hf.2
  refine lv_topi (fun x1_1 ex1_1 => ?_)
  have hf := hf x1_1 ex1_1
  refine lv_istore_n (lv' := [(1, .int x1_1), (0, .ref (ad r0))]) hx hb d_10_ordersNext_8 rfl hl (by decide) rfl (fun ls hl => ?_)
  refine lv_iload_n hx hb d_10_ordersNext_9 rfl (lv_at hl 0 rfl) ?_
  refine lv_iconst (v := (2 : Int32)) hx hb d_10_ordersNext_10 (by decide) ?_
  refine lv_isub hx hb d_10_ordersNext_11 ?_
  refine lv_topi (fun x2_2 ex2_2 => ?_)
  have hf := hf x2_2 ex2_2
  refine lv_istore_n (lv' := [(2, .int x2_2), (1, .int x1_1), (0, .ref (ad r0))]) hx hb d_10_ordersNext_12 rfl hl (by decide) rfl (fun ls hl => ?_)
  exact lp_10_ordersNext_13 S hR hk_r0  FU _ _ _ _ _  hG (lv_sub hl [2, 1, 0] rfl) hf
theorem c_10_ordersNext (l : Launch) {D : va_G} {ac : Nat → ClassId} {ad st : Nat → Nat} {A : Nat → Prop} {σ : St} {r0 : Nat} {Q : Int32 → St → Prop} (hk_r0 : kd r0 = 10) (hf : m_10_ordersNext r0 Q σ) : Met l y_10_ordersNext (Cond.code y_10_ordersNext prog_12_method_70_code 6 (some .boolean) :: wA) { frames := 1, cells := 0, slots := 0, locals := 23 } (va_Pc [.ref (ad r0)] (GSt A D ac ad st σ)) (va_Qi Q (GSt A D ac ad st) A) 0 0 A :=
  mkZ l (by decide +kernel) rfl [.ref (ad r0)] (Nat.le_of_ble_eq_true rfl) (fun p e s m args below meth c ls QW S hR hG hl => w_10_ordersNext_0 S hR hk_r0 hG hl hf)
set_option maxHeartbeats 4000000 in
set_option maxRecDepth 100000 in
theorem w_10_bestOrder_119 {r0 : Nat} {x1 : Int32} {x2 : Int32} {B46 : Int32 → Int32 → St → Prop} {Q : Int32 → St → Prop} {t0 : Int32} {σ : St} {H : Heap} {locs : List Loc} {ls : Array Slot} (S : SC A D ac st p m c prog_12_method_71_code 7 s args "SweeperRoundsModel" R cells slots 6 142) (hR : RtI A D ac ad p l e R s m args below meth c prog_12_method_71_code cells slots QW Q) (hk_r0 : kd r0 = 10) (hB46 : ∀ (x3 : Int32) (x4 : Int32) (σ : St) (H : Heap) (locs : List Loc) (ls : Array Slot), DG A D ac ad s σ H locs → lv_has ls 7 [(0, .ref (ad r0)), (1, .int x1), (2, .int x2), (3, .int x3), (4, .int x4)] → B46 x3 x4 σ → W p l e R s m args below meth c H locs cells slots QW (F0 m 46 ls [])) (hG : DG A D ac ad s σ H locs) (hl : lv_has ls 7 [(0, .ref (ad r0)), (1, .int x1), (2, .int x2)]) (hf : m_10_bestOrder_119 r0 x1 x2 B46 Q t0 σ) : W p l e R s m args below meth c H locs cells slots QW (F0 m 119 ls [.int t0]) := by
  have hx := S.1.1
  have hb := S.1.2.1
  unfold m_10_bestOrder_119 at hf
  refine lv_istore_n (lv' := [(3, .int t0), (0, .ref (ad r0)), (1, .int x1), (2, .int x2)]) hx hb d_10_bestOrder_119 rfl hl (by decide) rfl (fun ls hl => ?_)
  refine lv_aload_n hx hb d_10_bestOrder_120 rfl (lv_at hl 1 rfl) ?_
  refine iv_10_201 S hl.1 hG hk_r0 (c_10_ordersNext l hk_r0 hf) ⟨Nat.le_of_ble_eq_true rfl, Nat.le_of_ble_eq_true rfl⟩ (Nat.le_of_ble_eq_true rfl) d_10_bestOrder_121 (fun v_2 σ_1 hf H locs hG => ?_)
  refine lv_istore (lv' := [(4, .int v_2), (3, .int t0), (0, .ref (ad r0)), (1, .int x1), (2, .int x2)]) hx hb d_10_bestOrder_124 hl (by decide) rfl (fun ls hl => ?_)
  refine lv_goto (tgt := 46) hx hb d_10_bestOrder_126 (by decide) ?_
  exact hB46 _ _ _ _ _ _  hG (lv_sub hl [2, 3, 4, 1, 0] rfl) hf
set_option maxHeartbeats 4000000 in
set_option maxRecDepth 100000 in
theorem w_10_bestOrder_107 {r0 : Nat} {x1 : Int32} {x2 : Int32} {x3 : Int32} {x5 : Int32} {B46 : Int32 → Int32 → St → Prop} {Q : Int32 → St → Prop} {σ : St} {H : Heap} {locs : List Loc} {ls : Array Slot} (S : SC A D ac st p m c prog_12_method_71_code 7 s args "SweeperRoundsModel" R cells slots 6 142) (hR : RtI A D ac ad p l e R s m args below meth c prog_12_method_71_code cells slots QW Q) (hk_r0 : kd r0 = 10) (hB46 : ∀ (x3 : Int32) (x4 : Int32) (σ : St) (H : Heap) (locs : List Loc) (ls : Array Slot), DG A D ac ad s σ H locs → lv_has ls 7 [(0, .ref (ad r0)), (1, .int x1), (2, .int x2), (3, .int x3), (4, .int x4)] → B46 x3 x4 σ → W p l e R s m args below meth c H locs cells slots QW (F0 m 46 ls [])) (hG : DG A D ac ad s σ H locs) (hl : lv_has ls 7 [(0, .ref (ad r0)), (1, .int x1), (2, .int x2), (3, .int x3), (5, .int x5)]) (hf : m_10_bestOrder_107 r0 x1 x2 x3 x5 B46 Q σ) : W p l e R s m args below meth c H locs cells slots QW (F0 m 107 ls []) := by
  have hx := S.1.1
  have hb := S.1.2.1
  unfold m_10_bestOrder_107 at hf
  refine lv_iload hx hb d_10_bestOrder_107 (lv_at hl 4 rfl) ?_
  refine lv_iload_n hx hb d_10_bestOrder_109 rfl (lv_at hl 3 rfl) ?_
  refine lv_icmp_le (tgt := 118) hx hb d_10_bestOrder_110 (by decide) (fun hc => ?_) (fun hc => ?_)
  · have hf := hf.1 hc
    refine lv_iload_n hx hb d_10_bestOrder_118 rfl (lv_at hl 3 rfl) ?_
    exact w_10_bestOrder_119 S hR hk_r0   hB46 hG (lv_sub hl [0, 1, 2] rfl) hf
  · have hf := hf.2 hc
    refine lv_iload hx hb d_10_bestOrder_113 (lv_at hl 4 rfl) ?_
    refine lv_goto (tgt := 119) hx hb d_10_bestOrder_115 (by decide) ?_
    exact w_10_bestOrder_119 S hR hk_r0   hB46 hG (lv_sub hl [0, 1, 2] rfl) hf
set_option maxHeartbeats 4000000 in
set_option maxRecDepth 100000 in
theorem w_10_bestOrder_68 {r0 : Nat} {x1 : Int32} {x2 : Int32} {x3 : Int32} {x5 : Int32} {B46 : Int32 → Int32 → St → Prop} {Q : Int32 → St → Prop} {B68 : Int32 → St → Prop} {x6 : Int32} {σ : St} {H : Heap} {locs : List Loc} {ls : Array Slot} (S : SC A D ac st p m c prog_12_method_71_code 7 s args "SweeperRoundsModel" R cells slots 6 142) (hR : RtI A D ac ad p l e R s m args below meth c prog_12_method_71_code cells slots QW Q) (hk_r0 : kd r0 = 10) (hB46 : ∀ (x3 : Int32) (x4 : Int32) (σ : St) (H : Heap) (locs : List Loc) (ls : Array Slot), DG A D ac ad s σ H locs → lv_has ls 7 [(0, .ref (ad r0)), (1, .int x1), (2, .int x2), (3, .int x3), (4, .int x4)] → B46 x3 x4 σ → W p l e R s m args below meth c H locs cells slots QW (F0 m 46 ls [])) (hB68 : ∀ (x6 : Int32) (σ : St) (H : Heap) (locs : List Loc) (ls : Array Slot), DG A D ac ad s σ H locs → lv_has ls 7 [(0, .ref (ad r0)), (1, .int x1), (2, .int x2), (3, .int x3), (5, .int x5), (6, .int x6)] → B68 x6 σ → W p l e R s m args below meth c H locs cells slots QW (F0 m 68 ls [])) (hG : DG A D ac ad s σ H locs) (hl : lv_has ls 7 [(0, .ref (ad r0)), (1, .int x1), (2, .int x2), (3, .int x3), (5, .int x5), (6, .int x6)]) (hf : m_10_bestOrder_68 r0 x1 x2 x3 x5 B46 Q B68 x6 σ) : W p l e R s m args below meth c H locs cells slots QW (F0 m 68 ls []) := by
  have hx := S.1.1
  have hb := S.1.2.1
  unfold m_10_bestOrder_68 at hf
  refine lv_iload hx hb d_10_bestOrder_68 (lv_at hl 5 rfl) ?_
  refine lv_aload_n hx hb d_10_bestOrder_70 rfl (lv_at hl 0 rfl) ?_
  refine gf_10_7 S hG hk_r0 d_10_bestOrder_71 ?_
  refine lv_sipush (v := (507 : Int32)) hx hb d_10_bestOrder_74 (by decide) ?_
  refine mia S hG 30 rfl rfl (kr_10_0 hk_r0) hf.1 d_10_bestOrder_77 ?_
  have hf := hf.2
  refine lv_icmp_ge (tgt := 107) hx hb d_10_bestOrder_78 (by decide) (fun hc => ?_) (fun hc => ?_)
  · have hf := hf.1 hc
    exact w_10_bestOrder_107 S hR hk_r0   hB46 hG (lv_sub hl [0, 1, 2, 3, 4] rfl) hf
  · have hf := hf.2 hc
    refine lv_iload hx hb d_10_bestOrder_81 (lv_at hl 4 rfl) ?_
    refine lv_iload_n hx hb d_10_bestOrder_83 rfl (lv_at hl 3 rfl) ?_
    refine lv_icmp_le (tgt := 107) hx hb d_10_bestOrder_84 (by decide) (fun hc => ?_) (fun hc => ?_)
    · have hf := hf.1 hc
      exact w_10_bestOrder_107 S hR hk_r0   hB46 hG (lv_sub hl [0, 1, 2, 3, 4] rfl) hf
    · have hf := hf.2 hc
      refine lv_aload_n hx hb d_10_bestOrder_87 rfl (lv_at hl 0 rfl) ?_
      refine gf_10_22 S hG hk_r0 d_10_bestOrder_88 ?_
      refine lv_iload hx hb d_10_bestOrder_91 (lv_at hl 5 rfl) ?_
      refine lv_aload_n hx hb d_10_bestOrder_93 rfl (lv_at hl 0 rfl) ?_
      refine gf_10_19 S hG hk_r0 d_10_bestOrder_94 ?_
      refine lv_iload hx hb d_10_bestOrder_97 (lv_at hl 5 rfl) ?_
      refine mia S hG 33 rfl rfl (kr_10_8 hk_r0) hf.1 d_10_bestOrder_99 ?_
      have hf := hf.2
      refine mis S hG 34 rfl rfl (kr_10_12 hk_r0) hf.1 d_10_bestOrder_100 (fun σ_1 eσ_1 H locs hG => ?_)
      have hf := hf.2 σ_1 eσ_1
      obtain ⟨x6_2, ex6_2⟩ : ∃ y : Int32, y = x6 + 1 := ⟨_, rfl⟩
      have hf := hf x6_2 ex6_2
      refine lv_iinc (v := x6_2) (lv' := [(6, .int x6_2), (0, .ref (ad r0)), (1, .int x1), (2, .int x2), (3, .int x3), (5, .int x5)]) hx hb d_10_bestOrder_101 hl (k := 5) rfl (by rw [ex6_2]; rfl) (by decide) rfl (fun ls hl => ?_)
      refine lv_goto (tgt := 68) hx hb d_10_bestOrder_104 (by decide) ?_
      exact hB68 _ _ _ _ _  hG (lv_sub hl [1, 2, 3, 4, 5, 0] rfl) hf
set_option maxHeartbeats 4000000 in
set_option maxRecDepth 100000 in
theorem lp_10_bestOrder_68 {r0 : Nat} {x1 : Int32} {x2 : Int32} {x3 : Int32} {x5 : Int32} {B46 : Int32 → Int32 → St → Prop} {Q : Int32 → St → Prop} (S : SC A D ac st p m c prog_12_method_71_code 7 s args "SweeperRoundsModel" R cells slots 6 142) (hR : RtI A D ac ad p l e R s m args below meth c prog_12_method_71_code cells slots QW Q) (hk_r0 : kd r0 = 10) (hB46 : ∀ (x3 : Int32) (x4 : Int32) (σ : St) (H : Heap) (locs : List Loc) (ls : Array Slot), DG A D ac ad s σ H locs → lv_has ls 7 [(0, .ref (ad r0)), (1, .int x1), (2, .int x2), (3, .int x3), (4, .int x4)] → B46 x3 x4 σ → W p l e R s m args below meth c H locs cells slots QW (F0 m 46 ls [])) : ∀ (n : Nat) (x6 : Int32) (σ : St) (H : Heap) (locs : List Loc) (ls : Array Slot), DG A D ac ad s σ H locs → lv_has ls 7 [(0, .ref (ad r0)), (1, .int x1), (2, .int x2), (3, .int x3), (5, .int x5), (6, .int x6)] → itN (m_10_bestOrder_68 r0 x1 x2 x3 x5 B46 Q) (fun _ _ => False) n x6 σ → W p l e R s m args below meth c H locs cells slots QW (F0 m 68 ls []) := by
  intro n
  induction n with
  | zero =>
    intro x6 σ H locs ls  hG hl hf
    exact hf.elim
  | succ n ih =>
    intro x6 σ H locs ls  hG hl hf
    exact w_10_bestOrder_68 S hR hk_r0 hB46 ih hG hl hf
set_option maxHeartbeats 4000000 in
set_option maxRecDepth 100000 in
theorem w_10_bestOrder_46 {r0 : Nat} {x1 : Int32} {x2 : Int32} {Q : Int32 → St → Prop} {B46 : Int32 → Int32 → St → Prop} {x3 : Int32} {x4 : Int32} {σ : St} {H : Heap} {locs : List Loc} {ls : Array Slot} (S : SC A D ac st p m c prog_12_method_71_code 7 s args "SweeperRoundsModel" R cells slots 6 142) (hR : RtI A D ac ad p l e R s m args below meth c prog_12_method_71_code cells slots QW Q) (hk_r0 : kd r0 = 10) (hB46 : ∀ (x3 : Int32) (x4 : Int32) (σ : St) (H : Heap) (locs : List Loc) (ls : Array Slot), DG A D ac ad s σ H locs → lv_has ls 7 [(0, .ref (ad r0)), (1, .int x1), (2, .int x2), (3, .int x3), (4, .int x4)] → B46 x3 x4 σ → W p l e R s m args below meth c H locs cells slots QW (F0 m 46 ls [])) (hG : DG A D ac ad s σ H locs) (hl : lv_has ls 7 [(0, .ref (ad r0)), (1, .int x1), (2, .int x2), (3, .int x3), (4, .int x4)]) (hf : m_10_bestOrder_46 r0 x1 x2 Q B46 x3 x4 σ) : W p l e R s m args below meth c H locs cells slots QW (F0 m 46 ls []) := by
  have hx := S.1.1
  have hb := S.1.2.1
  unfold m_10_bestOrder_46 at hf
  refine lv_iload hx hb d_10_bestOrder_46 (lv_at hl 4 rfl) ?_
  refine lv_if_eq (tgt := 129) hx hb d_10_bestOrder_48 (by decide) (fun hc => ?_) (fun hc => ?_)
  · have hf := hf.1 hc
    refine lv_iload_n hx hb d_10_bestOrder_129 rfl (lv_at hl 2 rfl) ?_
    refine lv_if_eq (tgt := 137) hx hb d_10_bestOrder_130 (by decide) (fun hc => ?_) (fun hc => ?_)
    · have hf := hf.1 hc
      refine lv_aload_n hx hb d_10_bestOrder_137 rfl (lv_at hl 0 rfl) ?_
      refine gf_10_22 S hG hk_r0 d_10_bestOrder_138 ?_
      refine lv_iload_n hx hb d_10_bestOrder_141 rfl (lv_at hl 1 rfl) ?_
      refine mia S hG 34 rfl rfl (kr_10_12 hk_r0) hf.1 d_10_bestOrder_142 ?_
      have hf := hf.2
      exact hR _ _ _ _ _ _ hG hf d_10_bestOrder_143
    · have hf := hf.2 hc
      refine lv_iload_n hx hb d_10_bestOrder_133 rfl (lv_at hl 3 rfl) ?_
      refine lv_goto (tgt := 143) hx hb d_10_bestOrder_134 (by decide) ?_
      exact hR _ _ _ _ _ _ hG hf d_10_bestOrder_143
  · have hf := hf.2 hc
    refine lv_aload_n hx hb d_10_bestOrder_51 rfl (lv_at hl 0 rfl) ?_
    refine lv_aload_n hx hb d_10_bestOrder_52 rfl (lv_at hl 0 rfl) ?_
    refine gf_10_7 S hG hk_r0 d_10_bestOrder_53 ?_
    refine lv_sipush (v := (499 : Int32)) hx hb d_10_bestOrder_56 (by decide) ?_
    refine mia S hG 30 rfl rfl (kr_10_0 hk_r0) hf.1 d_10_bestOrder_59 ?_
    have hf := hf.2
    refine iv_10_195 S hl.1 hG hk_r0 (c_10_loadWith l hk_r0 hf) ⟨Nat.le_of_ble_eq_true rfl, Nat.le_of_ble_eq_true rfl⟩ (Nat.le_of_ble_eq_true rfl) d_10_bestOrder_60 (fun v_2 σ_1 hf H locs hG => ?_)
    refine lv_istore (lv' := [(5, .int v_2), (0, .ref (ad r0)), (1, .int x1), (2, .int x2), (3, .int x3), (4, .int x4)]) hx hb d_10_bestOrder_63 hl (by decide) rfl (fun ls hl => ?_)
    refine lv_iconst (v := (0 : Int32)) hx hb d_10_bestOrder_65 (by decide) ?_
    refine lv_istore (lv' := [(6, .int (0 : Int32)), (5, .int v_2), (0, .ref (ad r0)), (1, .int x1), (2, .int x2), (3, .int x3), (4, .int x4)]) hx hb d_10_bestOrder_66 hl (by decide) rfl (fun ls hl => ?_)
    exact lp_10_bestOrder_68 S hR hk_r0 hB46 FU _ _ _ _ _  hG (lv_sub hl [2, 3, 4, 5, 1, 0] rfl) hf
set_option maxHeartbeats 4000000 in
set_option maxRecDepth 100000 in
theorem lp_10_bestOrder_46 {r0 : Nat} {x1 : Int32} {x2 : Int32} {Q : Int32 → St → Prop} (S : SC A D ac st p m c prog_12_method_71_code 7 s args "SweeperRoundsModel" R cells slots 6 142) (hR : RtI A D ac ad p l e R s m args below meth c prog_12_method_71_code cells slots QW Q) (hk_r0 : kd r0 = 10) : ∀ (n : Nat) (x3 : Int32) (x4 : Int32) (σ : St) (H : Heap) (locs : List Loc) (ls : Array Slot), DG A D ac ad s σ H locs → lv_has ls 7 [(0, .ref (ad r0)), (1, .int x1), (2, .int x2), (3, .int x3), (4, .int x4)] → itN (m_10_bestOrder_46 r0 x1 x2 Q) (fun _ _ _ => False) n x3 x4 σ → W p l e R s m args below meth c H locs cells slots QW (F0 m 46 ls []) := by
  intro n
  induction n with
  | zero =>
    intro x3 x4 σ H locs ls  hG hl hf
    exact hf.elim
  | succ n ih =>
    intro x3 x4 σ H locs ls  hG hl hf
    exact w_10_bestOrder_46 S hR hk_r0  ih hG hl hf
set_option maxHeartbeats 4000000 in
set_option maxRecDepth 100000 in
theorem w_10_bestOrder_0 {r0 : Nat} {x1 : Int32} {x2 : Int32} {Q : Int32 → St → Prop} {σ : St} {H : Heap} {locs : List Loc} {ls : Array Slot} (S : SC A D ac st p m c prog_12_method_71_code 7 s args "SweeperRoundsModel" R cells slots 6 142) (hR : RtI A D ac ad p l e R s m args below meth c prog_12_method_71_code cells slots QW Q) (hk_r0 : kd r0 = 10) (hG : DG A D ac ad s σ H locs) (hl : lv_has ls 7 [(0, .ref (ad r0)), (1, .int x1), (2, .int x2)]) (hf : m_10_bestOrder r0 x1 x2 Q σ) : W p l e R s m args below meth c H locs cells slots QW (F0 m 0 ls []) := by
  have hx := S.1.1
  have hb := S.1.2.1
  unfold m_10_bestOrder at hf
  refine lv_iload_n hx hb d_10_bestOrder_0 rfl (lv_at hl 1 rfl) ?_
  refine lv_if_ge (tgt := 6) hx hb d_10_bestOrder_1 (by decide) (fun hc => ?_) (fun hc => ?_)
  · have hf := hf.1 hc
    refine lv_aload_n hx hb d_10_bestOrder_6 rfl (lv_at hl 0 rfl) ?_
    refine gf_10_7 S hG hk_r0 d_10_bestOrder_7 ?_
    refine lv_sipush (v := (507 : Int32)) hx hb d_10_bestOrder_10 (by decide) ?_
    refine mia S hG 30 rfl rfl (kr_10_0 hk_r0) hf.1 d_10_bestOrder_13 ?_
    have hf := hf.2
    refine lv_bipush (v := (6 : Int32)) hx hb d_10_bestOrder_14 (by decide) ?_
    refine lv_icmp_le (tgt := 22) hx hb d_10_bestOrder_16 (by decide) (fun hc => ?_) (fun hc => ?_)
    · have hf := hf.1 hc
      refine lv_iload_n hx hb d_10_bestOrder_22 rfl (lv_at hl 1 rfl) ?_
      refine lv_aload_n hx hb d_10_bestOrder_23 rfl (lv_at hl 0 rfl) ?_
      refine gf_10_7 S hG hk_r0 d_10_bestOrder_24 ?_
      refine lv_sipush (v := (507 : Int32)) hx hb d_10_bestOrder_27 (by decide) ?_
      refine mia S hG 30 rfl rfl (kr_10_0 hk_r0) hf.1 d_10_bestOrder_30 ?_
      have hf := hf.2
      refine lv_icmp_lt (tgt := 37) hx hb d_10_bestOrder_31 (by decide) (fun hc => ?_) (fun hc => ?_)
      · have hf := hf.1 hc
        refine lv_aload_n hx hb d_10_bestOrder_37 rfl (lv_at hl 0 rfl) ?_
        refine iv_10_176 S hl.1 hG hk_r0 (c_10_laysOrder l hk_r0 hf) ⟨Nat.le_of_ble_eq_true rfl, Nat.le_of_ble_eq_true rfl⟩ (Nat.le_of_ble_eq_true rfl) d_10_bestOrder_38 (fun σ_1 hf H locs hG => ?_)
        refine lv_iconst (v := (-1 : Int32)) hx hb d_10_bestOrder_41 (by decide) ?_
        refine lv_istore_n (lv' := [(3, .int (-1 : Int32)), (0, .ref (ad r0)), (1, .int x1), (2, .int x2)]) hx hb d_10_bestOrder_42 rfl hl (by decide) rfl (fun ls hl => ?_)
        refine lv_iconst (v := (1 : Int32)) hx hb d_10_bestOrder_43 (by decide) ?_
        refine lv_istore (lv' := [(4, .int (1 : Int32)), (3, .int (-1 : Int32)), (0, .ref (ad r0)), (1, .int x1), (2, .int x2)]) hx hb d_10_bestOrder_44 hl (by decide) rfl (fun ls hl => ?_)
        exact lp_10_bestOrder_46 S hR hk_r0  FU _ _ _ _ _ _  hG (lv_sub hl [2, 3, 4, 1, 0] rfl) hf
      · have hf := hf.2 hc
        refine lv_bipush (v := (-9 : Int32)) hx hb d_10_bestOrder_34 (by decide) ?_
        exact hR _ _ _ _ _ _ hG hf d_10_bestOrder_36
    · have hf := hf.2 hc
      refine lv_bipush (v := (-2 : Int32)) hx hb d_10_bestOrder_19 (by decide) ?_
      exact hR _ _ _ _ _ _ hG hf d_10_bestOrder_21
  · have hf := hf.2 hc
    refine lv_iconst (v := (-1 : Int32)) hx hb d_10_bestOrder_4 (by decide) ?_
    exact hR _ _ _ _ _ _ hG hf d_10_bestOrder_5
theorem c_10_bestOrder (l : Launch) {D : va_G} {ac : Nat → ClassId} {ad st : Nat → Nat} {A : Nat → Prop} {σ : St} {r0 : Nat} {x1 : Int32} {x2 : Int32} {Q : Int32 → St → Prop} (hk_r0 : kd r0 = 10) (hf : m_10_bestOrder r0 x1 x2 Q σ) : Met l y_10_bestOrder (Cond.code y_10_bestOrder prog_12_method_71_code 7 (some .int) :: wA) { frames := 6, cells := 0, slots := 0, locals := 142 } (va_Pc [.ref (ad r0), .int x1, .int x2] (GSt A D ac ad st σ)) (va_Qi Q (GSt A D ac ad st) A) 0 0 A :=
  mkI l (by decide +kernel) rfl [.ref (ad r0), .int x1, .int x2] (Nat.le_of_ble_eq_true rfl) (fun p e s m args below meth c ls QW S hR hG hl => w_10_bestOrder_0 S hR hk_r0 hG hl hf)
set_option maxHeartbeats 4000000 in
set_option maxRecDepth 100000 in
theorem w_10_nightsTo_86 {r0 : Nat} {x1 : Int32} {x2 : Int32} {x3 : Int32} {B17 : Int32 → Int32 → St → Prop} {Q : Int32 → St → Prop} {t0 : Int32} {σ : St} {H : Heap} {locs : List Loc} {ls : Array Slot} (S : SC A D ac st p m c prog_12_method_72_code 7 s args "SweeperRoundsModel" R cells slots 3 69) (hR : RtI A D ac ad p l e R s m args below meth c prog_12_method_72_code cells slots QW Q) (hk_r0 : kd r0 = 10) (hB17 : ∀ (x2 : Int32) (x3 : Int32) (σ : St) (H : Heap) (locs : List Loc) (ls : Array Slot), DG A D ac ad s σ H locs → lv_has ls 7 [(0, .ref (ad r0)), (1, .int x1), (2, .int x2), (3, .int x3)] → B17 x2 x3 σ → W p l e R s m args below meth c H locs cells slots QW (F0 m 17 ls [])) (hG : DG A D ac ad s σ H locs) (hl : lv_has ls 7 [(0, .ref (ad r0)), (1, .int x1), (2, .int x2), (3, .int x3)]) (hf : m_10_nightsTo_86 r0 x1 x2 x3 B17 Q t0 σ) : W p l e R s m args below meth c H locs cells slots QW (F0 m 86 ls [.int t0]) := by
  have hx := S.1.1
  have hb := S.1.2.1
  unfold m_10_nightsTo_86 at hf
  refine lv_istore (lv' := [(6, .int t0), (0, .ref (ad r0)), (1, .int x1), (2, .int x2), (3, .int x3)]) hx hb d_10_nightsTo_86 hl (by decide) rfl (fun ls hl => ?_)
  refine lv_iload hx hb d_10_nightsTo_88 (lv_at hl 0 rfl) ?_
  refine lv_bipush (v := (100 : Int32)) hx hb d_10_nightsTo_90 (by decide) ?_
  refine lv_icmp_gt (tgt := 112) hx hb d_10_nightsTo_92 (by decide) (fun hc => ?_) (fun hc => ?_)
  · have hf := hf.1 hc
    refine lv_iload_n hx hb d_10_nightsTo_112 rfl (lv_at hl 3 rfl) ?_
    refine lv_istore_n (lv' := [(2, .int x2), (6, .int t0), (0, .ref (ad r0)), (1, .int x1), (3, .int x3)]) hx hb d_10_nightsTo_113 rfl hl (by decide) rfl (fun ls hl => ?_)
    obtain ⟨x3_1, ex3_1⟩ : ∃ y : Int32, y = x3 + 1 := ⟨_, rfl⟩
    have hf := hf x3_1 ex3_1
    refine lv_iinc (v := x3_1) (lv' := [(3, .int x3_1), (2, .int x2), (6, .int t0), (0, .ref (ad r0)), (1, .int x1)]) hx hb d_10_nightsTo_114 hl (k := 4) rfl (by rw [ex3_1]; rfl) (by decide) rfl (fun ls hl => ?_)
    refine lv_goto (tgt := 17) hx hb d_10_nightsTo_117 (by decide) ?_
    exact hB17 _ _ _ _ _ _  hG (lv_sub hl [3, 4, 1, 0] rfl) hf
  · have hf := hf.2 hc
    refine lv_iload_n hx hb d_10_nightsTo_95 rfl (lv_at hl 3 rfl) ?_
    refine lv_bipush (v := (-9 : Int32)) hx hb d_10_nightsTo_96 (by decide) ?_
    refine lv_icmp_eq (tgt := 107) hx hb d_10_nightsTo_98 (by decide) (fun hc => ?_) (fun hc => ?_)
    · have hf := hf.1 hc
      refine lv_iload hx hb d_10_nightsTo_107 (lv_at hl 0 rfl) ?_
      refine lv_goto (tgt := 113) hx hb d_10_nightsTo_109 (by decide) ?_
      refine lv_istore_n (lv' := [(2, .int t0), (6, .int t0), (0, .ref (ad r0)), (1, .int x1), (3, .int x3)]) hx hb d_10_nightsTo_113 rfl hl (by decide) rfl (fun ls hl => ?_)
      obtain ⟨x3_2, ex3_2⟩ : ∃ y : Int32, y = x3 + 1 := ⟨_, rfl⟩
      have hf := hf x3_2 ex3_2
      refine lv_iinc (v := x3_2) (lv' := [(3, .int x3_2), (2, .int t0), (6, .int t0), (0, .ref (ad r0)), (1, .int x1)]) hx hb d_10_nightsTo_114 hl (k := 4) rfl (by rw [ex3_2]; rfl) (by decide) rfl (fun ls hl => ?_)
      refine lv_goto (tgt := 17) hx hb d_10_nightsTo_117 (by decide) ?_
      exact hB17 _ _ _ _ _ _  hG (lv_sub hl [3, 4, 1, 0] rfl) hf
    · have hf := hf.2 hc
      refine lv_iload hx hb d_10_nightsTo_101 (lv_at hl 0 rfl) ?_
      refine lv_iload_n hx hb d_10_nightsTo_103 rfl (lv_at hl 3 rfl) ?_
      refine lv_icmp_ge (tgt := 112) hx hb d_10_nightsTo_104 (by decide) (fun hc => ?_) (fun hc => ?_)
      · have hf := hf.1 hc
        refine lv_iload_n hx hb d_10_nightsTo_112 rfl (lv_at hl 3 rfl) ?_
        refine lv_istore_n (lv' := [(2, .int x2), (6, .int t0), (0, .ref (ad r0)), (1, .int x1), (3, .int x3)]) hx hb d_10_nightsTo_113 rfl hl (by decide) rfl (fun ls hl => ?_)
        obtain ⟨x3_3, ex3_3⟩ : ∃ y : Int32, y = x3 + 1 := ⟨_, rfl⟩
        have hf := hf x3_3 ex3_3
        refine lv_iinc (v := x3_3) (lv' := [(3, .int x3_3), (2, .int x2), (6, .int t0), (0, .ref (ad r0)), (1, .int x1)]) hx hb d_10_nightsTo_114 hl (k := 4) rfl (by rw [ex3_3]; rfl) (by decide) rfl (fun ls hl => ?_)
        refine lv_goto (tgt := 17) hx hb d_10_nightsTo_117 (by decide) ?_
        exact hB17 _ _ _ _ _ _  hG (lv_sub hl [3, 4, 1, 0] rfl) hf
      · have hf := hf.2 hc
        refine lv_iload hx hb d_10_nightsTo_107 (lv_at hl 0 rfl) ?_
        refine lv_goto (tgt := 113) hx hb d_10_nightsTo_109 (by decide) ?_
        refine lv_istore_n (lv' := [(2, .int t0), (6, .int t0), (0, .ref (ad r0)), (1, .int x1), (3, .int x3)]) hx hb d_10_nightsTo_113 rfl hl (by decide) rfl (fun ls hl => ?_)
        obtain ⟨x3_4, ex3_4⟩ : ∃ y : Int32, y = x3 + 1 := ⟨_, rfl⟩
        have hf := hf x3_4 ex3_4
        refine lv_iinc (v := x3_4) (lv' := [(3, .int x3_4), (2, .int t0), (6, .int t0), (0, .ref (ad r0)), (1, .int x1)]) hx hb d_10_nightsTo_114 hl (k := 4) rfl (by rw [ex3_4]; rfl) (by decide) rfl (fun ls hl => ?_)
        refine lv_goto (tgt := 17) hx hb d_10_nightsTo_117 (by decide) ?_
        exact hB17 _ _ _ _ _ _  hG (lv_sub hl [3, 4, 1, 0] rfl) hf
set_option maxHeartbeats 4000000 in
set_option maxRecDepth 100000 in
theorem w_10_nightsTo_17 {r0 : Nat} {x1 : Int32} {Q : Int32 → St → Prop} {B17 : Int32 → Int32 → St → Prop} {x2 : Int32} {x3 : Int32} {σ : St} {H : Heap} {locs : List Loc} {ls : Array Slot} (S : SC A D ac st p m c prog_12_method_72_code 7 s args "SweeperRoundsModel" R cells slots 3 69) (hR : RtI A D ac ad p l e R s m args below meth c prog_12_method_72_code cells slots QW Q) (hk_r0 : kd r0 = 10) (hB17 : ∀ (x2 : Int32) (x3 : Int32) (σ : St) (H : Heap) (locs : List Loc) (ls : Array Slot), DG A D ac ad s σ H locs → lv_has ls 7 [(0, .ref (ad r0)), (1, .int x1), (2, .int x2), (3, .int x3)] → B17 x2 x3 σ → W p l e R s m args below meth c H locs cells slots QW (F0 m 17 ls [])) (hG : DG A D ac ad s σ H locs) (hl : lv_has ls 7 [(0, .ref (ad r0)), (1, .int x1), (2, .int x2), (3, .int x3)]) (hf : m_10_nightsTo_17 r0 x1 Q B17 x2 x3 σ) : W p l e R s m args below meth c H locs cells slots QW (F0 m 17 ls []) := by
  have hx := S.1.1
  have hb := S.1.2.1
  unfold m_10_nightsTo_17 at hf
  refine lv_iload_n hx hb d_10_nightsTo_17 rfl (lv_at hl 3 rfl) ?_
  refine lv_aload_n hx hb d_10_nightsTo_18 rfl (lv_at hl 0 rfl) ?_
  refine gf_10_7 S hG hk_r0 d_10_nightsTo_19 ?_
  refine lv_iconst (v := (0 : Int32)) hx hb d_10_nightsTo_22 (by decide) ?_
  refine mia S hG 30 rfl rfl (kr_10_0 hk_r0) hf.1 d_10_nightsTo_23 ?_
  have hf := hf.2
  refine lv_icmp_ge (tgt := 120) hx hb d_10_nightsTo_24 (by decide) (fun hc => ?_) (fun hc => ?_)
  · have hf := hf.1 hc
    refine lv_iload_n hx hb d_10_nightsTo_120 rfl (lv_at hl 2 rfl) ?_
    exact hR _ _ _ _ _ _ hG hf d_10_nightsTo_121
  · have hf := hf.2 hc
    refine lv_aload_n hx hb d_10_nightsTo_27 rfl (lv_at hl 0 rfl) ?_
    refine lv_iload_n hx hb d_10_nightsTo_28 rfl (lv_at hl 3 rfl) ?_
    refine lv_iconst (v := (2 : Int32)) hx hb d_10_nightsTo_29 (by decide) ?_
    refine iv_10_37 S hl.1 hG hk_r0 (c_10_of l hk_r0 hf) ⟨Nat.le_of_ble_eq_true rfl, Nat.le_of_ble_eq_true rfl⟩ (Nat.le_of_ble_eq_true rfl) d_10_nightsTo_30 (fun v_2 σ_1 hf H locs hG => ?_)
    refine lv_aload_n hx hb d_10_nightsTo_33 rfl (lv_at hl 0 rfl) ?_
    refine gf_10_7 S hG hk_r0 d_10_nightsTo_34 ?_
    refine lv_sipush (v := (504 : Int32)) hx hb d_10_nightsTo_37 (by decide) ?_
    refine mia S hG 30 rfl rfl (kr_10_0 hk_r0) hf.1 d_10_nightsTo_40 ?_
    have hf := hf.2
    refine lv_imul hx hb d_10_nightsTo_41 ?_
    refine lv_bipush (v := (100 : Int32)) hx hb d_10_nightsTo_42 (by decide) ?_
    refine lv_idiv hx hb d_10_nightsTo_44 (by decide) ?_
    refine lv_topi (fun x4_3 ex4_3 => ?_)
    have hf := hf x4_3 ex4_3
    refine lv_istore (lv' := [(4, .int x4_3), (0, .ref (ad r0)), (1, .int x1), (2, .int x2), (3, .int x3)]) hx hb d_10_nightsTo_45 hl (by decide) rfl (fun ls hl => ?_)
    refine lv_aload_n hx hb d_10_nightsTo_47 rfl (lv_at hl 1 rfl) ?_
    refine lv_iload_n hx hb d_10_nightsTo_48 rfl (lv_at hl 4 rfl) ?_
    refine iv_10_136 S hl.1 hG hk_r0 (c_10_greatest l hk_r0 hf) ⟨Nat.le_of_ble_eq_true rfl, Nat.le_of_ble_eq_true rfl⟩ (Nat.le_of_ble_eq_true rfl) d_10_nightsTo_49 (fun v_5 σ_4 hf H locs hG => ?_)
    refine lv_istore (lv' := [(5, .int v_5), (4, .int x4_3), (0, .ref (ad r0)), (1, .int x1), (2, .int x2), (3, .int x3)]) hx hb d_10_nightsTo_52 hl (by decide) rfl (fun ls hl => ?_)
    refine lv_iload hx hb d_10_nightsTo_54 (lv_at hl 0 rfl) ?_
    refine lv_iload_n hx hb d_10_nightsTo_56 rfl (lv_at hl 3 rfl) ?_
    refine lv_icmp_lt (tgt := 64) hx hb d_10_nightsTo_57 (by decide) (fun hc => ?_) (fun hc => ?_)
    · have hf := hf.1 hc
      refine lv_iload hx hb d_10_nightsTo_64 (lv_at hl 1 rfl) ?_
      refine lv_if_ne (tgt := 74) hx hb d_10_nightsTo_66 (by decide) (fun hc => ?_) (fun hc => ?_)
      · have hf := hf.1 hc
        refine lv_iload_n hx hb d_10_nightsTo_74 rfl (lv_at hl 3 rfl) ?_
        refine lv_iload hx hb d_10_nightsTo_75 (lv_at hl 0 rfl) ?_
        refine lv_isub hx hb d_10_nightsTo_77 ?_
        refine lv_iload hx hb d_10_nightsTo_78 (lv_at hl 1 rfl) ?_
        refine lv_iadd hx hb d_10_nightsTo_80 ?_
        refine lv_iconst (v := (1 : Int32)) hx hb d_10_nightsTo_81 (by decide) ?_
        refine lv_isub hx hb d_10_nightsTo_82 ?_
        refine lv_iload hx hb d_10_nightsTo_83 (lv_at hl 1 rfl) ?_
        refine lv_idiv hx hb d_10_nightsTo_85 hf.1 ?_
        have hf := hf.2
        exact w_10_nightsTo_86 S hR hk_r0   hB17 hG (lv_sub hl [2, 3, 4, 5] rfl) hf
      · have hf := hf.2 hc
        refine lv_bipush (v := (101 : Int32)) hx hb d_10_nightsTo_69 (by decide) ?_
        refine lv_goto (tgt := 86) hx hb d_10_nightsTo_71 (by decide) ?_
        exact w_10_nightsTo_86 S hR hk_r0   hB17 hG (lv_sub hl [2, 3, 4, 5] rfl) hf
    · have hf := hf.2 hc
      refine lv_iconst (v := (0 : Int32)) hx hb d_10_nightsTo_60 (by decide) ?_
      refine lv_goto (tgt := 86) hx hb d_10_nightsTo_61 (by decide) ?_
      exact w_10_nightsTo_86 S hR hk_r0   hB17 hG (lv_sub hl [2, 3, 4, 5] rfl) hf
set_option maxHeartbeats 4000000 in
set_option maxRecDepth 100000 in
theorem lp_10_nightsTo_17 {r0 : Nat} {x1 : Int32} {Q : Int32 → St → Prop} (S : SC A D ac st p m c prog_12_method_72_code 7 s args "SweeperRoundsModel" R cells slots 3 69) (hR : RtI A D ac ad p l e R s m args below meth c prog_12_method_72_code cells slots QW Q) (hk_r0 : kd r0 = 10) : ∀ (n : Nat) (x2 : Int32) (x3 : Int32) (σ : St) (H : Heap) (locs : List Loc) (ls : Array Slot), DG A D ac ad s σ H locs → lv_has ls 7 [(0, .ref (ad r0)), (1, .int x1), (2, .int x2), (3, .int x3)] → itN (m_10_nightsTo_17 r0 x1 Q) (fun _ _ _ => False) n x2 x3 σ → W p l e R s m args below meth c H locs cells slots QW (F0 m 17 ls []) := by
  intro n
  induction n with
  | zero =>
    intro x2 x3 σ H locs ls  hG hl hf
    exact hf.elim
  | succ n ih =>
    intro x2 x3 σ H locs ls  hG hl hf
    exact w_10_nightsTo_17 S hR hk_r0  ih hG hl hf
set_option maxHeartbeats 4000000 in
set_option maxRecDepth 100000 in
theorem w_10_nightsTo_0 {r0 : Nat} {x1 : Int32} {Q : Int32 → St → Prop} {σ : St} {H : Heap} {locs : List Loc} {ls : Array Slot} (S : SC A D ac st p m c prog_12_method_72_code 7 s args "SweeperRoundsModel" R cells slots 3 69) (hR : RtI A D ac ad p l e R s m args below meth c prog_12_method_72_code cells slots QW Q) (hk_r0 : kd r0 = 10) (hG : DG A D ac ad s σ H locs) (hl : lv_has ls 7 [(0, .ref (ad r0)), (1, .int x1)]) (hf : m_10_nightsTo r0 x1 Q σ) : W p l e R s m args below meth c H locs cells slots QW (F0 m 0 ls []) := by
  have hx := S.1.1
  have hb := S.1.2.1
  unfold m_10_nightsTo at hf
  refine lv_iload_n hx hb d_10_nightsTo_0 rfl (lv_at hl 1 rfl) ?_
  refine lv_iconst (v := (1 : Int32)) hx hb d_10_nightsTo_1 (by decide) ?_
  refine lv_bipush (v := (99 : Int32)) hx hb d_10_nightsTo_2 (by decide) ?_
  refine iv_10_40 S hl.1 hG  (c_10_in l  hf) ⟨Nat.le_of_ble_eq_true rfl, Nat.le_of_ble_eq_true rfl⟩ (Nat.le_of_ble_eq_true rfl) d_10_nightsTo_4 (fun v_2 σ_1 hf H locs hG => ?_)
  refine lv_if_ne (tgt := 12) hx hb d_10_nightsTo_7 (by decide) (fun hc => ?_) (fun hc => ?_)
  · have hf := hf.1 hc
    refine lv_bipush (v := (-9 : Int32)) hx hb d_10_nightsTo_12 (by decide) ?_
    refine lv_istore_n (lv' := [(2, .int (-9 : Int32)), (0, .ref (ad r0)), (1, .int x1)]) hx hb d_10_nightsTo_14 rfl hl (by decide) rfl (fun ls hl => ?_)
    refine lv_iconst (v := (0 : Int32)) hx hb d_10_nightsTo_15 (by decide) ?_
    refine lv_istore_n (lv' := [(3, .int (0 : Int32)), (2, .int (-9 : Int32)), (0, .ref (ad r0)), (1, .int x1)]) hx hb d_10_nightsTo_16 rfl hl (by decide) rfl (fun ls hl => ?_)
    exact lp_10_nightsTo_17 S hR hk_r0  FU _ _ _ _ _ _  hG (lv_sub hl [2, 3, 1, 0] rfl) hf
  · have hf := hf.2 hc
    refine lv_iconst (v := (-1 : Int32)) hx hb d_10_nightsTo_10 (by decide) ?_
    exact hR _ _ _ _ _ _ hG hf d_10_nightsTo_11
theorem c_10_nightsTo (l : Launch) {D : va_G} {ac : Nat → ClassId} {ad st : Nat → Nat} {A : Nat → Prop} {σ : St} {r0 : Nat} {x1 : Int32} {Q : Int32 → St → Prop} (hk_r0 : kd r0 = 10) (hf : m_10_nightsTo r0 x1 Q σ) : Met l y_10_nightsTo (Cond.code y_10_nightsTo prog_12_method_72_code 7 (some .int) :: wA) { frames := 3, cells := 0, slots := 0, locals := 69 } (va_Pc [.ref (ad r0), .int x1] (GSt A D ac ad st σ)) (va_Qi Q (GSt A D ac ad st) A) 0 0 A :=
  mkI l (by decide +kernel) rfl [.ref (ad r0), .int x1] (Nat.le_of_ble_eq_true rfl) (fun p e s m args below meth c ls QW S hR hG hl => w_10_nightsTo_0 S hR hk_r0 hG hl hf)
set_option maxHeartbeats 4000000 in
set_option maxRecDepth 100000 in
theorem w_10_account_0 {r0 : Nat} {x1 : Int32} {Q : Int32 → St → Prop} {σ : St} {H : Heap} {locs : List Loc} {ls : Array Slot} (S : SC A D ac st p m c prog_12_method_73_code 2 s args "SweeperRoundsModel" R cells slots 4 91) (hR : RtI A D ac ad p l e R s m args below meth c prog_12_method_73_code cells slots QW Q) (hk_r0 : kd r0 = 10) (hG : DG A D ac ad s σ H locs) (hl : lv_has ls 2 [(0, .ref (ad r0)), (1, .int x1)]) (hf : m_10_account r0 x1 Q σ) : W p l e R s m args below meth c H locs cells slots QW (F0 m 0 ls []) := by
  have hx := S.1.1
  have hb := S.1.2.1
  unfold m_10_account at hf
  refine lv_iload_n hx hb d_10_account_0 rfl (lv_at hl 1 rfl) ?_
  refine lv_iconst (v := (0 : Int32)) hx hb d_10_account_1 (by decide) ?_
  refine lv_bipush (v := (6 : Int32)) hx hb d_10_account_2 (by decide) ?_
  refine iv_10_40 S hl.1 hG  (c_10_in l  hf) ⟨Nat.le_of_ble_eq_true rfl, Nat.le_of_ble_eq_true rfl⟩ (Nat.le_of_ble_eq_true rfl) d_10_account_4 (fun v_2 σ_1 hf H locs hG => ?_)
  refine lv_if_ne (tgt := 12) hx hb d_10_account_7 (by decide) (fun hc => ?_) (fun hc => ?_)
  · have hf := hf.1 hc
    refine lv_iload_n hx hb d_10_account_12 rfl (lv_at hl 1 rfl) ?_
    refine lv_bipush (v := (6 : Int32)) hx hb d_10_account_13 (by decide) ?_
    refine lv_icmp_ne (tgt := 25) hx hb d_10_account_15 (by decide) (fun hc => ?_) (fun hc => ?_)
    · have hf := hf.1 hc
      refine lv_aload_n hx hb d_10_account_25 rfl (lv_at hl 0 rfl) ?_
      refine gf_10_7 S hG hk_r0 d_10_account_26 ?_
      refine lv_sipush (v := (556 : Int32)) hx hb d_10_account_29 (by decide) ?_
      refine lv_iload_n hx hb d_10_account_32 rfl (lv_at hl 1 rfl) ?_
      refine lv_iadd hx hb d_10_account_33 ?_
      refine mia S hG 30 rfl rfl (kr_10_0 hk_r0) hf.1 d_10_account_34 ?_
      have hf := hf.2
      exact hR _ _ _ _ _ _ hG hf d_10_account_35
    · have hf := hf.2 hc
      refine lv_aload_n hx hb d_10_account_18 rfl (lv_at hl 0 rfl) ?_
      refine iv_10_186 S hl.1 hG hk_r0 (c_10_onStreets l hk_r0 hf) ⟨Nat.le_of_ble_eq_true rfl, Nat.le_of_ble_eq_true rfl⟩ (Nat.le_of_ble_eq_true rfl) d_10_account_19 (fun v_4 σ_3 hf H locs hG => ?_)
      refine lv_goto (tgt := 35) hx hb d_10_account_22 (by decide) ?_
      exact hR _ _ _ _ _ _ hG hf d_10_account_35
  · have hf := hf.2 hc
    refine lv_iconst (v := (-1 : Int32)) hx hb d_10_account_10 (by decide) ?_
    exact hR _ _ _ _ _ _ hG hf d_10_account_11
theorem c_10_account (l : Launch) {D : va_G} {ac : Nat → ClassId} {ad st : Nat → Nat} {A : Nat → Prop} {σ : St} {r0 : Nat} {x1 : Int32} {Q : Int32 → St → Prop} (hk_r0 : kd r0 = 10) (hf : m_10_account r0 x1 Q σ) : Met l y_10_account (Cond.code y_10_account prog_12_method_73_code 2 (some .int) :: wA) { frames := 4, cells := 0, slots := 0, locals := 91 } (va_Pc [.ref (ad r0), .int x1] (GSt A D ac ad st σ)) (va_Qi Q (GSt A D ac ad st) A) 0 0 A :=
  mkI l (by decide +kernel) rfl [.ref (ad r0), .int x1] (Nat.le_of_ble_eq_true rfl) (fun p e s m args below meth c ls QW S hR hG hl => w_10_account_0 S hR hk_r0 hG hl hf)
set_option maxHeartbeats 4000000 in
set_option maxRecDepth 100000 in
theorem w_10_count_119 {r0 : Nat} {x1 : Int32} {Q : Int32 → St → Prop} {σ : St} {H : Heap} {locs : List Loc} {ls : Array Slot} (S : SC A D ac st p m c prog_12_method_74_code 2 s args "SweeperRoundsModel" R cells slots 1 20) (hR : RtI A D ac ad p l e R s m args below meth c prog_12_method_74_code cells slots QW Q) (hk_r0 : kd r0 = 10) (hG : DG A D ac ad s σ H locs) (hl : lv_has ls 2 [(0, .ref (ad r0)), (1, .int x1)]) (hf : m_10_count_119 r0 x1 Q σ) : W p l e R s m args below meth c H locs cells slots QW (F0 m 119 ls []) := by
  have hx := S.1.1
  have hb := S.1.2.1
  unfold m_10_count_119 at hf
  refine lv_aload_n hx hb d_10_count_119 rfl (lv_at hl 0 rfl) ?_
  refine gf_10_7 S hG hk_r0 d_10_count_120 ?_
  refine lv_sipush (v := (500 : Int32)) hx hb d_10_count_123 (by decide) ?_
  refine lv_iload_n hx hb d_10_count_126 rfl (lv_at hl 1 rfl) ?_
  refine lv_iadd hx hb d_10_count_127 ?_
  refine lv_iconst (v := (5 : Int32)) hx hb d_10_count_128 (by decide) ?_
  refine lv_isub hx hb d_10_count_129 ?_
  refine mia S hG 30 rfl rfl (kr_10_0 hk_r0) hf.1 d_10_count_130 ?_
  have hf := hf.2
  exact hR _ _ _ _ _ _ hG hf d_10_count_131
set_option maxHeartbeats 4000000 in
set_option maxRecDepth 100000 in
theorem w_10_count_0 {r0 : Nat} {x1 : Int32} {Q : Int32 → St → Prop} {σ : St} {H : Heap} {locs : List Loc} {ls : Array Slot} (S : SC A D ac st p m c prog_12_method_74_code 2 s args "SweeperRoundsModel" R cells slots 1 20) (hR : RtI A D ac ad p l e R s m args below meth c prog_12_method_74_code cells slots QW Q) (hk_r0 : kd r0 = 10) (hG : DG A D ac ad s σ H locs) (hl : lv_has ls 2 [(0, .ref (ad r0)), (1, .int x1)]) (hf : m_10_count r0 x1 Q σ) : W p l e R s m args below meth c H locs cells slots QW (F0 m 0 ls []) := by
  have hx := S.1.1
  have hb := S.1.2.1
  unfold m_10_count at hf
  refine lv_iload_n hx hb d_10_count_0 rfl (lv_at hl 1 rfl) ?_
  refine lv_topi (fun q_1 eq_1 => ?_)
  rcases sw_0_14 q_1 with hq_1 | hq_1 | hq_1 | hq_1 | hq_1 | hq_1 | hq_1 | hq_1 | hq_1 | hq_1 | hq_1 | hq_1 | hq_1 | hq_1 | hq_1 | hq_1
  · rw [eq_1] at hq_1 ⊢
    refine lv_tableOut (tgt := 165) hx hb d_10_count_1 hq_1 (by decide) ?_
    have hf := hf.1 hq_1
    refine lv_iconst (v := (-1 : Int32)) hx hb d_10_count_165 (by decide) ?_
    exact hR _ _ _ _ _ _ hG hf d_10_count_166
  · subst hq_1
    refine lv_tableIn (off := 75) (tgt := 76) hx hb d_10_count_1 (by decide) (by decide) (by decide) (by decide) ?_
    have hf := hf.2.1 eq_1.symm
    refine lv_aload_n hx hb d_10_count_76 rfl (lv_at hl 0 rfl) ?_
    refine gf_10_7 S hG hk_r0 d_10_count_77 ?_
    refine lv_iconst (v := (0 : Int32)) hx hb d_10_count_80 (by decide) ?_
    refine mia S hG 30 rfl rfl (kr_10_0 hk_r0) hf.1 d_10_count_81 ?_
    have hf := hf.2
    exact hR _ _ _ _ _ _ hG hf d_10_count_82
  · subst hq_1
    refine lv_tableIn (off := 82) (tgt := 83) hx hb d_10_count_1 (by decide) (by decide) (by decide) (by decide) ?_
    have hf := hf.2.2.1 eq_1.symm
    refine lv_aload_n hx hb d_10_count_83 rfl (lv_at hl 0 rfl) ?_
    refine gf_10_7 S hG hk_r0 d_10_count_84 ?_
    refine lv_sipush (v := (507 : Int32)) hx hb d_10_count_87 (by decide) ?_
    refine mia S hG 30 rfl rfl (kr_10_0 hk_r0) hf.1 d_10_count_90 ?_
    have hf := hf.2
    exact hR _ _ _ _ _ _ hG hf d_10_count_91
  · subst hq_1
    refine lv_tableIn (off := 91) (tgt := 92) hx hb d_10_count_1 (by decide) (by decide) (by decide) (by decide) ?_
    have hf := hf.2.2.2.1 eq_1.symm
    refine lv_aload_n hx hb d_10_count_92 rfl (lv_at hl 0 rfl) ?_
    refine gf_10_7 S hG hk_r0 d_10_count_93 ?_
    refine lv_sipush (v := (499 : Int32)) hx hb d_10_count_96 (by decide) ?_
    refine mia S hG 30 rfl rfl (kr_10_0 hk_r0) hf.1 d_10_count_99 ?_
    have hf := hf.2
    exact hR _ _ _ _ _ _ hG hf d_10_count_100
  · subst hq_1
    refine lv_tableIn (off := 100) (tgt := 101) hx hb d_10_count_1 (by decide) (by decide) (by decide) (by decide) ?_
    have hf := hf.2.2.2.2.1 eq_1.symm
    refine lv_aload_n hx hb d_10_count_101 rfl (lv_at hl 0 rfl) ?_
    refine gf_10_7 S hG hk_r0 d_10_count_102 ?_
    refine lv_sipush (v := (505 : Int32)) hx hb d_10_count_105 (by decide) ?_
    refine mia S hG 30 rfl rfl (kr_10_0 hk_r0) hf.1 d_10_count_108 ?_
    have hf := hf.2
    exact hR _ _ _ _ _ _ hG hf d_10_count_109
  · subst hq_1
    refine lv_tableIn (off := 109) (tgt := 110) hx hb d_10_count_1 (by decide) (by decide) (by decide) (by decide) ?_
    have hf := hf.2.2.2.2.2.1 eq_1.symm
    refine lv_aload_n hx hb d_10_count_110 rfl (lv_at hl 0 rfl) ?_
    refine gf_10_7 S hG hk_r0 d_10_count_111 ?_
    refine lv_sipush (v := (506 : Int32)) hx hb d_10_count_114 (by decide) ?_
    refine mia S hG 30 rfl rfl (kr_10_0 hk_r0) hf.1 d_10_count_117 ?_
    have hf := hf.2
    exact hR _ _ _ _ _ _ hG hf d_10_count_118
  · subst hq_1
    refine lv_tableIn (off := 118) (tgt := 119) hx hb d_10_count_1 (by decide) (by decide) (by decide) (by decide) ?_
    have hf := hf.2.2.2.2.2.2.1 eq_1.symm
    exact w_10_count_119 S hR hk_r0    hG (lv_sub hl [0, 1] rfl) hf
  · subst hq_1
    refine lv_tableIn (off := 118) (tgt := 119) hx hb d_10_count_1 (by decide) (by decide) (by decide) (by decide) ?_
    have hf := hf.2.2.2.2.2.2.2.1 eq_1.symm
    exact w_10_count_119 S hR hk_r0    hG (lv_sub hl [0, 1] rfl) hf
  · subst hq_1
    refine lv_tableIn (off := 118) (tgt := 119) hx hb d_10_count_1 (by decide) (by decide) (by decide) (by decide) ?_
    have hf := hf.2.2.2.2.2.2.2.2.1 eq_1.symm
    exact w_10_count_119 S hR hk_r0    hG (lv_sub hl [0, 1] rfl) hf
  · subst hq_1
    refine lv_tableIn (off := 118) (tgt := 119) hx hb d_10_count_1 (by decide) (by decide) (by decide) (by decide) ?_
    have hf := hf.2.2.2.2.2.2.2.2.2.1 eq_1.symm
    exact w_10_count_119 S hR hk_r0    hG (lv_sub hl [0, 1] rfl) hf
  · subst hq_1
    refine lv_tableIn (off := 118) (tgt := 119) hx hb d_10_count_1 (by decide) (by decide) (by decide) (by decide) ?_
    have hf := hf.2.2.2.2.2.2.2.2.2.2.1 eq_1.symm
    exact w_10_count_119 S hR hk_r0    hG (lv_sub hl [0, 1] rfl) hf
  · subst hq_1
    refine lv_tableIn (off := 131) (tgt := 132) hx hb d_10_count_1 (by decide) (by decide) (by decide) (by decide) ?_
    have hf := hf.2.2.2.2.2.2.2.2.2.2.2.1 eq_1.symm
    refine lv_aload_n hx hb d_10_count_132 rfl (lv_at hl 0 rfl) ?_
    refine iv_10_120 S hl.1 hG hk_r0 (c_10_grip l hk_r0 hf) ⟨Nat.le_of_ble_eq_true rfl, Nat.le_of_ble_eq_true rfl⟩ (Nat.le_of_ble_eq_true rfl) d_10_count_133 (fun v_3 σ_2 hf H locs hG => ?_)
    exact hR _ _ _ _ _ _ hG hf d_10_count_136
  · subst hq_1
    refine lv_tableIn (off := 136) (tgt := 137) hx hb d_10_count_1 (by decide) (by decide) (by decide) (by decide) ?_
    have hf := hf.2.2.2.2.2.2.2.2.2.2.2.2.1 eq_1.symm
    refine lv_aload_n hx hb d_10_count_137 rfl (lv_at hl 0 rfl) ?_
    refine gf_10_7 S hG hk_r0 d_10_count_138 ?_
    refine lv_sipush (v := (562 : Int32)) hx hb d_10_count_141 (by decide) ?_
    refine mia S hG 30 rfl rfl (kr_10_0 hk_r0) hf.1 d_10_count_144 ?_
    have hf := hf.2
    exact hR _ _ _ _ _ _ hG hf d_10_count_145
  · subst hq_1
    refine lv_tableIn (off := 145) (tgt := 146) hx hb d_10_count_1 (by decide) (by decide) (by decide) (by decide) ?_
    have hf := hf.2.2.2.2.2.2.2.2.2.2.2.2.2.1 eq_1.symm
    refine lv_aload_n hx hb d_10_count_146 rfl (lv_at hl 0 rfl) ?_
    refine gf_10_7 S hG hk_r0 d_10_count_147 ?_
    refine lv_sipush (v := (563 : Int32)) hx hb d_10_count_150 (by decide) ?_
    refine mia S hG 30 rfl rfl (kr_10_0 hk_r0) hf.1 d_10_count_153 ?_
    have hf := hf.2
    exact hR _ _ _ _ _ _ hG hf d_10_count_154
  · subst hq_1
    refine lv_tableIn (off := 154) (tgt := 155) hx hb d_10_count_1 (by decide) (by decide) (by decide) (by decide) ?_
    have hf := hf.2.2.2.2.2.2.2.2.2.2.2.2.2.2.1 eq_1.symm
    refine lv_aload_n hx hb d_10_count_155 rfl (lv_at hl 0 rfl) ?_
    refine gf_10_75 S hG hk_r0 d_10_count_156 ?_
    exact hR _ _ _ _ _ _ hG hf d_10_count_159
  · subst hq_1
    refine lv_tableIn (off := 159) (tgt := 160) hx hb d_10_count_1 (by decide) (by decide) (by decide) (by decide) ?_
    have hf := hf.2.2.2.2.2.2.2.2.2.2.2.2.2.2.2 eq_1.symm
    refine lv_aload_n hx hb d_10_count_160 rfl (lv_at hl 0 rfl) ?_
    refine gf_10_25 S hG hk_r0 d_10_count_161 ?_
    exact hR _ _ _ _ _ _ hG hf d_10_count_164
theorem c_10_count (l : Launch) {D : va_G} {ac : Nat → ClassId} {ad st : Nat → Nat} {A : Nat → Prop} {σ : St} {r0 : Nat} {x1 : Int32} {Q : Int32 → St → Prop} (hk_r0 : kd r0 = 10) (hf : m_10_count r0 x1 Q σ) : Met l y_10_count (Cond.code y_10_count prog_12_method_74_code 2 (some .int) :: wA) { frames := 1, cells := 0, slots := 0, locals := 20 } (va_Pc [.ref (ad r0), .int x1] (GSt A D ac ad st σ)) (va_Qi Q (GSt A D ac ad st) A) 0 0 A :=
  mkI l (by decide +kernel) rfl [.ref (ad r0), .int x1] (Nat.le_of_ble_eq_true rfl) (fun p e s m args below meth c ls QW S hR hG hl => w_10_count_0 S hR hk_r0 hG hl hf)
end MB
