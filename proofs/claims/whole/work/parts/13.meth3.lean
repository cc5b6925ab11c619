theorem d_8_dirtOnStreets_0 : decode prog_10_method_6_code 0 = .ok (.iconst 0, 1) := by decide +kernel
theorem d_8_dirtOnStreets_1 : decode prog_10_method_6_code 1 = .ok (.istore_n 1, 1) := by decide +kernel
theorem d_8_dirtOnStreets_2 : decode prog_10_method_6_code 2 = .ok (.iconst 0, 1) := by decide +kernel
theorem d_8_dirtOnStreets_3 : decode prog_10_method_6_code 3 = .ok (.istore_n 2, 1) := by decide +kernel
theorem d_8_dirtOnStreets_4 : decode prog_10_method_6_code 4 = .ok (.iload_n 2, 1) := by decide +kernel
theorem d_8_dirtOnStreets_5 : decode prog_10_method_6_code 5 = .ok (.aload_n 0, 1) := by decide +kernel
theorem d_8_dirtOnStreets_6 : decode prog_10_method_6_code 6 = .ok (.getfield 52, 3) := by decide +kernel
theorem d_8_dirtOnStreets_9 : decode prog_10_method_6_code 9 = .ok (.if_icmp .ge 21, 3) := by decide +kernel
theorem d_8_dirtOnStreets_12 : decode prog_10_method_6_code 12 = .ok (.iload_n 1, 1) := by decide +kernel
theorem d_8_dirtOnStreets_13 : decode prog_10_method_6_code 13 = .ok (.aload_n 0, 1) := by decide +kernel
theorem d_8_dirtOnStreets_14 : decode prog_10_method_6_code 14 = .ok (.getfield 11, 3) := by decide +kernel
theorem d_8_dirtOnStreets_17 : decode prog_10_method_6_code 17 = .ok (.iload_n 2, 1) := by decide +kernel
theorem d_8_dirtOnStreets_18 : decode prog_10_method_6_code 18 = .ok (.aaload, 1) := by decide +kernel
theorem d_8_dirtOnStreets_19 : decode prog_10_method_6_code 19 = .ok (.invokevirtual 88, 3) := by decide +kernel
theorem d_8_dirtOnStreets_22 : decode prog_10_method_6_code 22 = .ok (.iadd, 1) := by decide +kernel
theorem d_8_dirtOnStreets_23 : decode prog_10_method_6_code 23 = .ok (.istore_n 1, 1) := by decide +kernel
theorem d_8_dirtOnStreets_24 : decode prog_10_method_6_code 24 = .ok (.iinc 2 1, 3) := by decide +kernel
theorem d_8_dirtOnStreets_27 : decode prog_10_method_6_code 27 = .ok (.goto (-23), 3) := by decide +kernel
theorem d_8_dirtOnStreets_30 : decode prog_10_method_6_code 30 = .ok (.iload_n 1, 1) := by decide +kernel
theorem d_8_dirtOnStreets_31 : decode prog_10_method_6_code 31 = .ok (.ireturn, 1) := by decide +kernel
def m_8_dirtOnStreets_4 (r0 : Nat) (Q : Int32 → St → Prop) (B4 : Int32 → Int32 → St → Prop) (x1 : Int32) (x2 : Int32) (σ : St) : Prop :=
  (((σ.1 r0 1) ≤ x2 → Q x1 σ) ∧ (¬ (σ.1 r0 1) ≤ x2 → vp_in x2 6 ∧ m_6_allDirt ((r0 + 1) + 5 + 3 * (x2).toNatClampNeg) (fun (v_3 : Int32) (σ_2 : St) => ∀ x1_4 : Int32, x1_4 = (x1 + v_3) → ∀ x2_5 : Int32, x2_5 = x2 + 1 → B4 x1_4 x2_5 σ_2) σ))
def m_8_dirtOnStreets (r0 : Nat) (Q : Int32 → St → Prop) (σ : St) : Prop :=
  itN (m_8_dirtOnStreets_4 r0 Q) (fun _ _ _ => False) FU (0 : Int32) (0 : Int32) σ
theorem d_9_night_0 : decode prog_1_method_17_code 0 = .ok (.iload_n 1, 1) := by decide +kernel
theorem d_9_night_1 : decode prog_1_method_17_code 1 = .ok (.iconst 1, 1) := by decide +kernel
theorem d_9_night_2 : decode prog_1_method_17_code 2 = .ok (.if_icmp .lt 9, 3) := by decide +kernel
theorem d_9_night_5 : decode prog_1_method_17_code 5 = .ok (.iload_n 1, 1) := by decide +kernel
theorem d_9_night_6 : decode prog_1_method_17_code 6 = .ok (.bipush 30, 2) := by decide +kernel
theorem d_9_night_8 : decode prog_1_method_17_code 8 = .ok (.if_icmp .le 5, 3) := by decide +kernel
theorem d_9_night_11 : decode prog_1_method_17_code 11 = .ok (.iconst (-1), 1) := by decide +kernel
theorem d_9_night_12 : decode prog_1_method_17_code 12 = .ok (.ireturn, 1) := by decide +kernel
theorem d_9_night_13 : decode prog_1_method_17_code 13 = .ok (.aload_n 0, 1) := by decide +kernel
theorem d_9_night_14 : decode prog_1_method_17_code 14 = .ok (.getfield 42, 3) := by decide +kernel
theorem d_9_night_17 : decode prog_1_method_17_code 17 = .ok (.aload_n 0, 1) := by decide +kernel
theorem d_9_night_18 : decode prog_1_method_17_code 18 = .ok (.getfield 26, 3) := by decide +kernel
theorem d_9_night_21 : decode prog_1_method_17_code 21 = .ok (.invokevirtual 80, 3) := by decide +kernel
theorem d_9_night_24 : decode prog_1_method_17_code 24 = .ok (.aload_n 0, 1) := by decide +kernel
theorem d_9_night_25 : decode prog_1_method_17_code 25 = .ok (.getfield 26, 3) := by decide +kernel
theorem d_9_night_28 : decode prog_1_method_17_code 28 = .ok (.iload_n 1, 1) := by decide +kernel
theorem d_9_night_29 : decode prog_1_method_17_code 29 = .ok (.invokevirtual 218, 3) := by decide +kernel
theorem d_9_night_32 : decode prog_1_method_17_code 32 = .ok (.aload_n 0, 1) := by decide +kernel
theorem d_9_night_33 : decode prog_1_method_17_code 33 = .ok (.getfield 26, 3) := by decide +kernel
theorem d_9_night_36 : decode prog_1_method_17_code 36 = .ok (.invokevirtual 221, 3) := by decide +kernel
theorem d_9_night_39 : decode prog_1_method_17_code 39 = .ok (.ireturn, 1) := by decide +kernel
def m_9_night (r0 : Nat) (x1 : Int32) (Q : Int32 → St → Prop) (σ : St) : Prop :=
  ((x1 < (1 : Int32) → Q (-1 : Int32) σ) ∧ (¬ x1 < (1 : Int32) → ((x1 ≤ (30 : Int32) → m_0_remember (r0 + 42) (r0 + 7) (fun (σ_1 : St) => m_8_passNights (r0 + 7) x1 (fun (σ_3 : St) => m_8_dirtOnStreets (r0 + 7) (fun (v_6 : Int32) (σ_5 : St) => Q v_6 σ_5) σ_3) σ_1) σ) ∧ (¬ x1 ≤ (30 : Int32) → Q (-1 : Int32) σ))))
theorem d_6_washSide_0 : decode prog_8_method_10_code 0 = .ok (.iconst 0, 1) := by decide +kernel
theorem d_6_washSide_1 : decode prog_8_method_10_code 1 = .ok (.istore_n 3, 1) := by decide +kernel
theorem d_6_washSide_2 : decode prog_8_method_10_code 2 = .ok (.aload_n 0, 1) := by decide +kernel
theorem d_6_washSide_3 : decode prog_8_method_10_code 3 = .ok (.getfield 19, 3) := by decide +kernel
theorem d_6_washSide_6 : decode prog_8_method_10_code 6 = .ok (.iconst 1, 1) := by decide +kernel
theorem d_6_washSide_7 : decode prog_8_method_10_code 7 = .ok (.isub, 1) := by decide +kernel
theorem d_6_washSide_8 : decode prog_8_method_10_code 8 = .ok (.istore 4, 2) := by decide +kernel
theorem d_6_washSide_10 : decode prog_8_method_10_code 10 = .ok (.iload 4, 2) := by decide +kernel
theorem d_6_washSide_12 : decode prog_8_method_10_code 12 = .ok (.ifCond .lt 86, 3) := by decide +kernel
theorem d_6_washSide_15 : decode prog_8_method_10_code 15 = .ok (.iload_n 1, 1) := by decide +kernel
theorem d_6_washSide_16 : decode prog_8_method_10_code 16 = .ok (.iload 4, 2) := by decide +kernel
theorem d_6_washSide_18 : decode prog_8_method_10_code 18 = .ok (.invokestatic 29, 3) := by decide +kernel
theorem d_6_washSide_21 : decode prog_8_method_10_code 21 = .ok (.istore 5, 2) := by decide +kernel
theorem d_6_washSide_23 : decode prog_8_method_10_code 23 = .ok (.aload_n 0, 1) := by decide +kernel
theorem d_6_washSide_24 : decode prog_8_method_10_code 24 = .ok (.getfield 15, 3) := by decide +kernel
theorem d_6_washSide_27 : decode prog_8_method_10_code 27 = .ok (.iload 5, 2) := by decide +kernel
theorem d_6_washSide_29 : decode prog_8_method_10_code 29 = .ok (.baload, 1) := by decide +kernel
theorem d_6_washSide_30 : decode prog_8_method_10_code 30 = .ok (.ifCond .eq 7, 3) := by decide +kernel
theorem d_6_washSide_33 : decode prog_8_method_10_code 33 = .ok (.iconst 0, 1) := by decide +kernel
theorem d_6_washSide_34 : decode prog_8_method_10_code 34 = .ok (.goto 15, 3) := by decide +kernel
theorem d_6_washSide_37 : decode prog_8_method_10_code 37 = .ok (.aload_n 0, 1) := by decide +kernel
theorem d_6_washSide_38 : decode prog_8_method_10_code 38 = .ok (.getfield 9, 3) := by decide +kernel
theorem d_6_washSide_41 : decode prog_8_method_10_code 41 = .ok (.iload 5, 2) := by decide +kernel
theorem d_6_washSide_43 : decode prog_8_method_10_code 43 = .ok (.iaload, 1) := by decide +kernel
theorem d_6_washSide_44 : decode prog_8_method_10_code 44 = .ok (.iload_n 2, 1) := by decide +kernel
theorem d_6_washSide_45 : decode prog_8_method_10_code 45 = .ok (.imul, 1) := by decide +kernel
theorem d_6_washSide_46 : decode prog_8_method_10_code 46 = .ok (.bipush 100, 2) := by decide +kernel
theorem d_6_washSide_48 : decode prog_8_method_10_code 48 = .ok (.idiv, 1) := by decide +kernel
theorem d_6_washSide_49 : decode prog_8_method_10_code 49 = .ok (.istore 6, 2) := by decide +kernel
theorem d_6_washSide_51 : decode prog_8_method_10_code 51 = .ok (.aload_n 0, 1) := by decide +kernel
theorem d_6_washSide_52 : decode prog_8_method_10_code 52 = .ok (.getfield 9, 3) := by decide +kernel
theorem d_6_washSide_55 : decode prog_8_method_10_code 55 = .ok (.iload 5, 2) := by decide +kernel
theorem d_6_washSide_57 : decode prog_8_method_10_code 57 = .ok (.dup2, 1) := by decide +kernel
theorem d_6_washSide_58 : decode prog_8_method_10_code 58 = .ok (.iaload, 1) := by decide +kernel
theorem d_6_washSide_59 : decode prog_8_method_10_code 59 = .ok (.iload 6, 2) := by decide +kernel
theorem d_6_washSide_61 : decode prog_8_method_10_code 61 = .ok (.isub, 1) := by decide +kernel
theorem d_6_washSide_62 : decode prog_8_method_10_code 62 = .ok (.iastore, 1) := by decide +kernel
theorem d_6_washSide_63 : decode prog_8_method_10_code 63 = .ok (.iload_n 3, 1) := by decide +kernel
theorem d_6_washSide_64 : decode prog_8_method_10_code 64 = .ok (.iload 4, 2) := by decide +kernel
theorem d_6_washSide_66 : decode prog_8_method_10_code 66 = .ok (.aload_n 0, 1) := by decide +kernel
theorem d_6_washSide_67 : decode prog_8_method_10_code 67 = .ok (.getfield 19, 3) := by decide +kernel
theorem d_6_washSide_70 : decode prog_8_method_10_code 70 = .ok (.iconst 1, 1) := by decide +kernel
theorem d_6_washSide_71 : decode prog_8_method_10_code 71 = .ok (.isub, 1) := by decide +kernel
theorem d_6_washSide_72 : decode prog_8_method_10_code 72 = .ok (.if_icmp .ne 8, 3) := by decide +kernel
theorem d_6_washSide_75 : decode prog_8_method_10_code 75 = .ok (.iload 6, 2) := by decide +kernel
theorem d_6_washSide_77 : decode prog_8_method_10_code 77 = .ok (.goto 13, 3) := by decide +kernel
theorem d_6_washSide_80 : decode prog_8_method_10_code 80 = .ok (.aload_n 0, 1) := by decide +kernel
theorem d_6_washSide_81 : decode prog_8_method_10_code 81 = .ok (.iload 5, 2) := by decide +kernel
theorem d_6_washSide_83 : decode prog_8_method_10_code 83 = .ok (.iconst 1, 1) := by decide +kernel
theorem d_6_washSide_84 : decode prog_8_method_10_code 84 = .ok (.iadd, 1) := by decide +kernel
theorem d_6_washSide_85 : decode prog_8_method_10_code 85 = .ok (.iload 6, 2) := by decide +kernel
theorem d_6_washSide_87 : decode prog_8_method_10_code 87 = .ok (.invokevirtual 45, 3) := by decide +kernel
theorem d_6_washSide_90 : decode prog_8_method_10_code 90 = .ok (.iadd, 1) := by decide +kernel
theorem d_6_washSide_91 : decode prog_8_method_10_code 91 = .ok (.istore_n 3, 1) := by decide +kernel
theorem d_6_washSide_92 : decode prog_8_method_10_code 92 = .ok (.iinc 4 (-1), 3) := by decide +kernel
theorem d_6_washSide_95 : decode prog_8_method_10_code 95 = .ok (.goto (-85), 3) := by decide +kernel
theorem d_6_washSide_98 : decode prog_8_method_10_code 98 = .ok (.iload_n 3, 1) := by decide +kernel
theorem d_6_washSide_99 : decode prog_8_method_10_code 99 = .ok (.ireturn, 1) := by decide +kernel
def m_6_washSide_49 (r0 : Nat) (x1 : Int32) (x2 : Int32) (x3 : Int32) (x4 : Int32) (x5 : Int32) (B10 : Int32 → Int32 → St → Prop) (Q : Int32 → St → Prop) (t0 : Int32) (σ : St) : Prop :=
  vp_in x5 40 ∧ vp_in x5 40 ∧ ∀ σ_1 : St, σ_1 = wr σ (r0 + 1) (x5).toNatClampNeg ((σ.1 (r0 + 1) (x5).toNatClampNeg) - t0) → ((¬ x4 = ((σ_1.1 r0 0) - (1 : Int32)) → m_6_putDirt r0 (x5 + (1 : Int32)) t0 (fun (v_3 : Int32) (σ_2 : St) => ∀ x3_4 : Int32, x3_4 = (x3 + v_3) → ∀ x4_5 : Int32, x4_5 = x4 + (-1) → B10 x3_4 x4_5 σ_2) σ_1) ∧ (x4 = ((σ_1.1 r0 0) - (1 : Int32)) → ∀ x3_6 : Int32, x3_6 = (x3 + t0) → ∀ x4_7 : Int32, x4_7 = x4 + (-1) → B10 x3_6 x4_7 σ_1))
def m_6_washSide_10 (r0 : Nat) (x1 : Int32) (x2 : Int32) (Q : Int32 → St → Prop) (B10 : Int32 → Int32 → St → Prop) (x3 : Int32) (x4 : Int32) (σ : St) : Prop :=
  ((x4 < 0 → Q x3 σ) ∧ (¬ x4 < 0 → m_9_placeOf x1 x4 (fun (v_2 : Int32) (σ_1 : St) => vp_in v_2 40 ∧ (((σ_1.1 (r0 + 2) (v_2).toNatClampNeg) = 0 → vp_in v_2 40 ∧ m_6_washSide_49 r0 x1 x2 x3 x4 v_2 B10 Q  (((σ_1.1 (r0 + 1) (v_2).toNatClampNeg) * x2) / (100 : Int32)) σ_1) ∧ (¬ (σ_1.1 (r0 + 2) (v_2).toNatClampNeg) = 0 → m_6_washSide_49 r0 x1 x2 x3 x4 v_2 B10 Q  (0 : Int32) σ_1))) σ))
def m_6_washSide (r0 : Nat) (x1 : Int32) (x2 : Int32) (Q : Int32 → St → Prop) (σ : St) : Prop :=
  ∀ x4_1 : Int32, x4_1 = ((σ.1 r0 0) - (1 : Int32)) → itN (m_6_washSide_10 r0 x1 x2 Q) (fun _ _ _ => False) FU (0 : Int32) x4_1 σ
theorem d_8_washStreets_0 : decode prog_10_method_21_code 0 = .ok (.iconst 0, 1) := by decide +kernel
theorem d_8_washStreets_1 : decode prog_10_method_21_code 1 = .ok (.istore_n 2, 1) := by decide +kernel
theorem d_8_washStreets_2 : decode prog_10_method_21_code 2 = .ok (.iconst 0, 1) := by decide +kernel
theorem d_8_washStreets_3 : decode prog_10_method_21_code 3 = .ok (.istore_n 3, 1) := by decide +kernel
theorem d_8_washStreets_4 : decode prog_10_method_21_code 4 = .ok (.iload_n 3, 1) := by decide +kernel
theorem d_8_washStreets_5 : decode prog_10_method_21_code 5 = .ok (.aload_n 0, 1) := by decide +kernel
theorem d_8_washStreets_6 : decode prog_10_method_21_code 6 = .ok (.getfield 52, 3) := by decide +kernel
theorem d_8_washStreets_9 : decode prog_10_method_21_code 9 = .ok (.if_icmp .ge 35, 3) := by decide +kernel
theorem d_8_washStreets_12 : decode prog_10_method_21_code 12 = .ok (.iload_n 2, 1) := by decide +kernel
theorem d_8_washStreets_13 : decode prog_10_method_21_code 13 = .ok (.aload_n 0, 1) := by decide +kernel
theorem d_8_washStreets_14 : decode prog_10_method_21_code 14 = .ok (.getfield 11, 3) := by decide +kernel
theorem d_8_washStreets_17 : decode prog_10_method_21_code 17 = .ok (.iload_n 3, 1) := by decide +kernel
theorem d_8_washStreets_18 : decode prog_10_method_21_code 18 = .ok (.aaload, 1) := by decide +kernel
theorem d_8_washStreets_19 : decode prog_10_method_21_code 19 = .ok (.iconst 0, 1) := by decide +kernel
theorem d_8_washStreets_20 : decode prog_10_method_21_code 20 = .ok (.iload_n 1, 1) := by decide +kernel
theorem d_8_washStreets_21 : decode prog_10_method_21_code 21 = .ok (.invokevirtual 133, 3) := by decide +kernel
theorem d_8_washStreets_24 : decode prog_10_method_21_code 24 = .ok (.aload_n 0, 1) := by decide +kernel
theorem d_8_washStreets_25 : decode prog_10_method_21_code 25 = .ok (.getfield 11, 3) := by decide +kernel
theorem d_8_washStreets_28 : decode prog_10_method_21_code 28 = .ok (.iload_n 3, 1) := by decide +kernel
theorem d_8_washStreets_29 : decode prog_10_method_21_code 29 = .ok (.aaload, 1) := by decide +kernel
theorem d_8_washStreets_30 : decode prog_10_method_21_code 30 = .ok (.iconst 1, 1) := by decide +kernel
theorem d_8_washStreets_31 : decode prog_10_method_21_code 31 = .ok (.iload_n 1, 1) := by decide +kernel
theorem d_8_washStreets_32 : decode prog_10_method_21_code 32 = .ok (.invokevirtual 133, 3) := by decide +kernel
theorem d_8_washStreets_35 : decode prog_10_method_21_code 35 = .ok (.iadd, 1) := by decide +kernel
theorem d_8_washStreets_36 : decode prog_10_method_21_code 36 = .ok (.iadd, 1) := by decide +kernel
theorem d_8_washStreets_37 : decode prog_10_method_21_code 37 = .ok (.istore_n 2, 1) := by decide +kernel
theorem d_8_washStreets_38 : decode prog_10_method_21_code 38 = .ok (.iinc 3 1, 3) := by decide +kernel
theorem d_8_washStreets_41 : decode prog_10_method_21_code 41 = .ok (.goto (-37), 3) := by decide +kernel
theorem d_8_washStreets_44 : decode prog_10_method_21_code 44 = .ok (.aload_n 0, 1) := by decide +kernel
theorem d_8_washStreets_45 : decode prog_10_method_21_code 45 = .ok (.getfield 27, 3) := by decide +kernel
theorem d_8_washStreets_48 : decode prog_10_method_21_code 48 = .ok (.iconst 4, 1) := by decide +kernel
theorem d_8_washStreets_49 : decode prog_10_method_21_code 49 = .ok (.dup2, 1) := by decide +kernel
theorem d_8_washStreets_50 : decode prog_10_method_21_code 50 = .ok (.iaload, 1) := by decide +kernel
theorem d_8_washStreets_51 : decode prog_10_method_21_code 51 = .ok (.iload_n 2, 1) := by decide +kernel
theorem d_8_washStreets_52 : decode prog_10_method_21_code 52 = .ok (.iadd, 1) := by decide +kernel
theorem d_8_washStreets_53 : decode prog_10_method_21_code 53 = .ok (.iastore, 1) := by decide +kernel
theorem d_8_washStreets_54 : decode prog_10_method_21_code 54 = .ok (.iload_n 2, 1) := by decide +kernel
theorem d_8_washStreets_55 : decode prog_10_method_21_code 55 = .ok (.ireturn, 1) := by decide +kernel
def m_8_washStreets_4 (r0 : Nat) (x1 : Int32) (Q : Int32 → St → Prop) (B4 : Int32 → Int32 → St → Prop) (x2 : Int32) (x3 : Int32) (σ : St) : Prop :=
  (((σ.1 r0 1) ≤ x3 → vp_in (4 : Int32) 6 ∧ vp_in (4 : Int32) 6 ∧ ∀ σ_1 : St, σ_1 = wr σ (r0 + 4) ((4 : Int32)).toNatClampNeg ((σ.1 (r0 + 4) ((4 : Int32)).toNatClampNeg) + x2) → Q x2 σ_1) ∧ (¬ (σ.1 r0 1) ≤ x3 → vp_in x3 6 ∧ m_6_washSide ((r0 + 1) + 5 + 3 * (x3).toNatClampNeg) (0 : Int32) x1 (fun (v_4 : Int32) (σ_3 : St) => vp_in x3 6 ∧ m_6_washSide ((r0 + 1) + 5 + 3 * (x3).toNatClampNeg) (1 : Int32) x1 (fun (v_7 : Int32) (σ_6 : St) => ∀ x2_8 : Int32, x2_8 = (x2 + (v_4 + v_7)) → ∀ x3_9 : Int32, x3_9 = x3 + 1 → B4 x2_8 x3_9 σ_6) σ_3) σ))
def m_8_washStreets (r0 : Nat) (x1 : Int32) (Q : Int32 → St → Prop) (σ : St) : Prop :=
  itN (m_8_washStreets_4 r0 x1 Q) (fun _ _ _ => False) FU (0 : Int32) (0 : Int32) σ
theorem d_9_rain_0 : decode prog_1_method_18_code 0 = .ok (.iload_n 1, 1) := by decide +kernel
theorem d_9_rain_1 : decode prog_1_method_18_code 1 = .ok (.iconst 1, 1) := by decide +kernel
theorem d_9_rain_2 : decode prog_1_method_18_code 2 = .ok (.if_icmp .lt 9, 3) := by decide +kernel
theorem d_9_rain_5 : decode prog_1_method_18_code 5 = .ok (.iload_n 1, 1) := by decide +kernel
theorem d_9_rain_6 : decode prog_1_method_18_code 6 = .ok (.bipush 100, 2) := by decide +kernel
theorem d_9_rain_8 : decode prog_1_method_18_code 8 = .ok (.if_icmp .le 5, 3) := by decide +kernel
theorem d_9_rain_11 : decode prog_1_method_18_code 11 = .ok (.iconst (-1), 1) := by decide +kernel
theorem d_9_rain_12 : decode prog_1_method_18_code 12 = .ok (.ireturn, 1) := by decide +kernel
theorem d_9_rain_13 : decode prog_1_method_18_code 13 = .ok (.aload_n 0, 1) := by decide +kernel
theorem d_9_rain_14 : decode prog_1_method_18_code 14 = .ok (.getfield 42, 3) := by decide +kernel
theorem d_9_rain_17 : decode prog_1_method_18_code 17 = .ok (.aload_n 0, 1) := by decide +kernel
theorem d_9_rain_18 : decode prog_1_method_18_code 18 = .ok (.getfield 26, 3) := by decide +kernel
theorem d_9_rain_21 : decode prog_1_method_18_code 21 = .ok (.invokevirtual 80, 3) := by decide +kernel
theorem d_9_rain_24 : decode prog_1_method_18_code 24 = .ok (.aload_n 0, 1) := by decide +kernel
theorem d_9_rain_25 : decode prog_1_method_18_code 25 = .ok (.getfield 26, 3) := by decide +kernel
theorem d_9_rain_28 : decode prog_1_method_18_code 28 = .ok (.iload_n 1, 1) := by decide +kernel
theorem d_9_rain_29 : decode prog_1_method_18_code 29 = .ok (.invokevirtual 224, 3) := by decide +kernel
theorem d_9_rain_32 : decode prog_1_method_18_code 32 = .ok (.ireturn, 1) := by decide +kernel
def m_9_rain (r0 : Nat) (x1 : Int32) (Q : Int32 → St → Prop) (σ : St) : Prop :=
  ((x1 < (1 : Int32) → Q (-1 : Int32) σ) ∧ (¬ x1 < (1 : Int32) → ((x1 ≤ (100 : Int32) → m_0_remember (r0 + 42) (r0 + 7) (fun (σ_1 : St) => m_8_washStreets (r0 + 7) x1 (fun (v_4 : Int32) (σ_3 : St) => Q v_4 σ_3) σ_1) σ) ∧ (¬ x1 ≤ (100 : Int32) → Q (-1 : Int32) σ))))
theorem d_9_latest_0 : decode prog_1_method_19_code 0 = .ok (.iload_n 1, 1) := by decide +kernel
theorem d_9_latest_1 : decode prog_1_method_19_code 1 = .ok (.ifCond .lt 8, 3) := by decide +kernel
theorem d_9_latest_4 : decode prog_1_method_19_code 4 = .ok (.iload_n 1, 1) := by decide +kernel
theorem d_9_latest_5 : decode prog_1_method_19_code 5 = .ok (.iconst 5, 1) := by decide +kernel
theorem d_9_latest_6 : decode prog_1_method_19_code 6 = .ok (.if_icmp .le 5, 3) := by decide +kernel
theorem d_9_latest_9 : decode prog_1_method_19_code 9 = .ok (.iconst (-1), 1) := by decide +kernel
theorem d_9_latest_10 : decode prog_1_method_19_code 10 = .ok (.ireturn, 1) := by decide +kernel
theorem d_9_latest_11 : decode prog_1_method_19_code 11 = .ok (.aload_n 0, 1) := by decide +kernel
theorem d_9_latest_12 : decode prog_1_method_19_code 12 = .ok (.getfield 26, 3) := by decide +kernel
theorem d_9_latest_15 : decode prog_1_method_19_code 15 = .ok (.getfield 227, 3) := by decide +kernel
theorem d_9_latest_18 : decode prog_1_method_19_code 18 = .ok (.ifCond .ne 6, 3) := by decide +kernel
theorem d_9_latest_21 : decode prog_1_method_19_code 21 = .ok (.bipush (-9), 2) := by decide +kernel
theorem d_9_latest_23 : decode prog_1_method_19_code 23 = .ok (.ireturn, 1) := by decide +kernel
theorem d_9_latest_24 : decode prog_1_method_19_code 24 = .ok (.iload_n 1, 1) := by decide +kernel
theorem d_9_latest_25 : decode prog_1_method_19_code 25 = .ok (.tableswitch 90 0 4 #[35, 46, 57, 68, 79], 35) := by decide +kernel
theorem d_9_latest_60 : decode prog_1_method_19_code 60 = .ok (.aload_n 0, 1) := by decide +kernel
theorem d_9_latest_61 : decode prog_1_method_19_code 61 = .ok (.getfield 26, 3) := by decide +kernel
theorem d_9_latest_64 : decode prog_1_method_19_code 64 = .ok (.getfield 211, 3) := by decide +kernel
theorem d_9_latest_67 : decode prog_1_method_19_code 67 = .ok (.getfield 230, 3) := by decide +kernel
theorem d_9_latest_70 : decode prog_1_method_19_code 70 = .ok (.ireturn, 1) := by decide +kernel
theorem d_9_latest_71 : decode prog_1_method_19_code 71 = .ok (.aload_n 0, 1) := by decide +kernel
theorem d_9_latest_72 : decode prog_1_method_19_code 72 = .ok (.getfield 26, 3) := by decide +kernel
theorem d_9_latest_75 : decode prog_1_method_19_code 75 = .ok (.getfield 211, 3) := by decide +kernel
theorem d_9_latest_78 : decode prog_1_method_19_code 78 = .ok (.getfield 233, 3) := by decide +kernel
theorem d_9_latest_81 : decode prog_1_method_19_code 81 = .ok (.ireturn, 1) := by decide +kernel
theorem d_9_latest_82 : decode prog_1_method_19_code 82 = .ok (.aload_n 0, 1) := by decide +kernel
theorem d_9_latest_83 : decode prog_1_method_19_code 83 = .ok (.getfield 26, 3) := by decide +kernel
theorem d_9_latest_86 : decode prog_1_method_19_code 86 = .ok (.getfield 211, 3) := by decide +kernel
theorem d_9_latest_89 : decode prog_1_method_19_code 89 = .ok (.getfield 236, 3) := by decide +kernel
theorem d_9_latest_92 : decode prog_1_method_19_code 92 = .ok (.ireturn, 1) := by decide +kernel
theorem d_9_latest_93 : decode prog_1_method_19_code 93 = .ok (.aload_n 0, 1) := by decide +kernel
theorem d_9_latest_94 : decode prog_1_method_19_code 94 = .ok (.getfield 26, 3) := by decide +kernel
theorem d_9_latest_97 : decode prog_1_method_19_code 97 = .ok (.getfield 211, 3) := by decide +kernel
theorem d_9_latest_100 : decode prog_1_method_19_code 100 = .ok (.getfield 215, 3) := by decide +kernel
theorem d_9_latest_103 : decode prog_1_method_19_code 103 = .ok (.ireturn, 1) := by decide +kernel
theorem d_9_latest_104 : decode prog_1_method_19_code 104 = .ok (.aload_n 0, 1) := by decide +kernel
theorem d_9_latest_105 : decode prog_1_method_19_code 105 = .ok (.getfield 26, 3) := by decide +kernel
theorem d_9_latest_108 : decode prog_1_method_19_code 108 = .ok (.getfield 211, 3) := by decide +kernel
theorem d_9_latest_111 : decode prog_1_method_19_code 111 = .ok (.getfield 239, 3) := by decide +kernel
theorem d_9_latest_114 : decode prog_1_method_19_code 114 = .ok (.ireturn, 1) := by decide +kernel
theorem d_9_latest_115 : decode prog_1_method_19_code 115 = .ok (.aload_n 0, 1) := by decide +kernel
theorem d_9_latest_116 : decode prog_1_method_19_code 116 = .ok (.getfield 26, 3) := by decide +kernel
theorem d_9_latest_119 : decode prog_1_method_19_code 119 = .ok (.getfield 211, 3) := by decide +kernel
theorem d_9_latest_122 : decode prog_1_method_19_code 122 = .ok (.getfield 242, 3) := by decide +kernel
theorem d_9_latest_125 : decode prog_1_method_19_code 125 = .ok (.ireturn, 1) := by decide +kernel
def m_9_latest (r0 : Nat) (x1 : Int32) (Q : Int32 → St → Prop) (σ : St) : Prop :=
  ((x1 < 0 → Q (-1 : Int32) σ) ∧ (¬ x1 < 0 → ((x1 ≤ (5 : Int32) → ((¬ (σ.1 (r0 + 7) 10) = 0 → (((x1.toInt < 0 ∨ 4 < x1.toInt) → Q (σ.1 ((r0 + 7) + 5) 5) σ) ∧ (x1 = 0 → Q (σ.1 ((r0 + 7) + 5) 0) σ) ∧ (x1 = 1 → Q (σ.1 ((r0 + 7) + 5) 1) σ) ∧ (x1 = 2 → Q (σ.1 ((r0 + 7) + 5) 2) σ) ∧ (x1 = 3 → Q (σ.1 ((r0 + 7) + 5) 3) σ) ∧ (x1 = 4 → Q (σ.1 ((r0 + 7) + 5) 4) σ))) ∧ ((σ.1 (r0 + 7) 10) = 0 → Q (-9 : Int32) σ))) ∧ (¬ x1 ≤ (5 : Int32) → Q (-1 : Int32) σ))))
theorem d_9_trySpeed_0 : decode prog_1_method_30_code 0 = .ok (.aload_n 0, 1) := by decide +kernel
theorem d_9_trySpeed_1 : decode prog_1_method_30_code 1 = .ok (.getfield 46, 3) := by decide +kernel
theorem d_9_trySpeed_4 : decode prog_1_method_30_code 4 = .ok (.aload_n 0, 1) := by decide +kernel
theorem d_9_trySpeed_5 : decode prog_1_method_30_code 5 = .ok (.getfield 26, 3) := by decide +kernel
theorem d_9_trySpeed_8 : decode prog_1_method_30_code 8 = .ok (.invokevirtual 317, 3) := by decide +kernel
theorem d_9_trySpeed_11 : decode prog_1_method_30_code 11 = .ok (.aload_n 0, 1) := by decide +kernel
theorem d_9_trySpeed_12 : decode prog_1_method_30_code 12 = .ok (.getfield 46, 3) := by decide +kernel
theorem d_9_trySpeed_15 : decode prog_1_method_30_code 15 = .ok (.getfield 174, 3) := by decide +kernel
theorem d_9_trySpeed_18 : decode prog_1_method_30_code 18 = .ok (.iconst 0, 1) := by decide +kernel
theorem d_9_trySpeed_19 : decode prog_1_method_30_code 19 = .ok (.iload_n 1, 1) := by decide +kernel
theorem d_9_trySpeed_20 : decode prog_1_method_30_code 20 = .ok (.iastore, 1) := by decide +kernel
theorem d_9_trySpeed_21 : decode prog_1_method_30_code 21 = .ok (.aload_n 0, 1) := by decide +kernel
theorem d_9_trySpeed_22 : decode prog_1_method_30_code 22 = .ok (.getfield 49, 3) := by decide +kernel
theorem d_9_trySpeed_25 : decode prog_1_method_30_code 25 = .ok (.invokevirtual 208, 3) := by decide +kernel
theorem d_9_trySpeed_28 : decode prog_1_method_30_code 28 = .ok (.return_, 1) := by decide +kernel
def m_9_trySpeed (r0 : Nat) (x1 : Int32) (Q : St → Prop) (σ : St) : Prop :=
  m_8_copyFrom (r0 + 316) (r0 + 7) (fun (σ_1 : St) => vp_in (0 : Int32) 6 ∧ ∀ σ_3 : St, σ_3 = wr σ_1 ((r0 + 316) + 3) ((0 : Int32)).toNatClampNeg x1 → m_5_carryOut (r0 + 350) (fun (σ_4 : St) => Q σ_4) σ_3) σ
theorem d_9_ifSpeed_0 : decode prog_1_method_20_code 0 = .ok (.iload_n 1, 1) := by decide +kernel
theorem d_9_ifSpeed_1 : decode prog_1_method_20_code 1 = .ok (.iconst 1, 1) := by decide +kernel
theorem d_9_ifSpeed_2 : decode prog_1_method_20_code 2 = .ok (.if_icmp .lt 8, 3) := by decide +kernel
theorem d_9_ifSpeed_5 : decode prog_1_method_20_code 5 = .ok (.iload_n 1, 1) := by decide +kernel
theorem d_9_ifSpeed_6 : decode prog_1_method_20_code 6 = .ok (.iconst 4, 1) := by decide +kernel
theorem d_9_ifSpeed_7 : decode prog_1_method_20_code 7 = .ok (.if_icmp .le 5, 3) := by decide +kernel
theorem d_9_ifSpeed_10 : decode prog_1_method_20_code 10 = .ok (.iconst (-1), 1) := by decide +kernel
theorem d_9_ifSpeed_11 : decode prog_1_method_20_code 11 = .ok (.ireturn, 1) := by decide +kernel
theorem d_9_ifSpeed_12 : decode prog_1_method_20_code 12 = .ok (.aload_n 0, 1) := by decide +kernel
theorem d_9_ifSpeed_13 : decode prog_1_method_20_code 13 = .ok (.iload_n 1, 1) := by decide +kernel
theorem d_9_ifSpeed_14 : decode prog_1_method_20_code 14 = .ok (.invokevirtual 245, 3) := by decide +kernel
theorem d_9_ifSpeed_17 : decode prog_1_method_20_code 17 = .ok (.aload_n 0, 1) := by decide +kernel
theorem d_9_ifSpeed_18 : decode prog_1_method_20_code 18 = .ok (.getfield 46, 3) := by decide +kernel
theorem d_9_ifSpeed_21 : decode prog_1_method_20_code 21 = .ok (.getfield 211, 3) := by decide +kernel
theorem d_9_ifSpeed_24 : decode prog_1_method_20_code 24 = .ok (.getfield 215, 3) := by decide +kernel
theorem d_9_ifSpeed_27 : decode prog_1_method_20_code 27 = .ok (.ireturn, 1) := by decide +kernel
def m_9_ifSpeed (r0 : Nat) (x1 : Int32) (Q : Int32 → St → Prop) (σ : St) : Prop :=
  ((x1 < (1 : Int32) → Q (-1 : Int32) σ) ∧ (¬ x1 < (1 : Int32) → ((x1 ≤ (4 : Int32) → m_9_trySpeed r0 x1 (fun (σ_1 : St) => Q (σ_1.1 ((r0 + 316) + 5) 3) σ_1) σ) ∧ (¬ x1 ≤ (4 : Int32) → Q (-1 : Int32) σ))))
theorem d_9_bestSpeed_0 : decode prog_1_method_21_code 0 = .ok (.iconst 1, 1) := by decide +kernel
theorem d_9_bestSpeed_1 : decode prog_1_method_21_code 1 = .ok (.istore_n 1, 1) := by decide +kernel
theorem d_9_bestSpeed_2 : decode prog_1_method_21_code 2 = .ok (.iconst (-1), 1) := by decide +kernel
theorem d_9_bestSpeed_3 : decode prog_1_method_21_code 3 = .ok (.istore_n 2, 1) := by decide +kernel
theorem d_9_bestSpeed_4 : decode prog_1_method_21_code 4 = .ok (.iconst 0, 1) := by decide +kernel
theorem d_9_bestSpeed_5 : decode prog_1_method_21_code 5 = .ok (.istore_n 3, 1) := by decide +kernel
theorem d_9_bestSpeed_6 : decode prog_1_method_21_code 6 = .ok (.iconst 1, 1) := by decide +kernel
theorem d_9_bestSpeed_7 : decode prog_1_method_21_code 7 = .ok (.istore 4, 2) := by decide +kernel
theorem d_9_bestSpeed_9 : decode prog_1_method_21_code 9 = .ok (.iload 4, 2) := by decide +kernel
theorem d_9_bestSpeed_11 : decode prog_1_method_21_code 11 = .ok (.iconst 4, 1) := by decide +kernel
theorem d_9_bestSpeed_12 : decode prog_1_method_21_code 12 = .ok (.if_icmp .gt 66, 3) := by decide +kernel
theorem d_9_bestSpeed_15 : decode prog_1_method_21_code 15 = .ok (.aload_n 0, 1) := by decide +kernel
theorem d_9_bestSpeed_16 : decode prog_1_method_21_code 16 = .ok (.iload 4, 2) := by decide +kernel
theorem d_9_bestSpeed_18 : decode prog_1_method_21_code 18 = .ok (.invokevirtual 245, 3) := by decide +kernel
theorem d_9_bestSpeed_21 : decode prog_1_method_21_code 21 = .ok (.aload_n 0, 1) := by decide +kernel
theorem d_9_bestSpeed_22 : decode prog_1_method_21_code 22 = .ok (.getfield 46, 3) := by decide +kernel
theorem d_9_bestSpeed_25 : decode prog_1_method_21_code 25 = .ok (.getfield 211, 3) := by decide +kernel
theorem d_9_bestSpeed_28 : decode prog_1_method_21_code 28 = .ok (.getfield 215, 3) := by decide +kernel
theorem d_9_bestSpeed_31 : decode prog_1_method_21_code 31 = .ok (.istore 5, 2) := by decide +kernel
theorem d_9_bestSpeed_33 : decode prog_1_method_21_code 33 = .ok (.aload_n 0, 1) := by decide +kernel
theorem d_9_bestSpeed_34 : decode prog_1_method_21_code 34 = .ok (.getfield 46, 3) := by decide +kernel
theorem d_9_bestSpeed_37 : decode prog_1_method_21_code 37 = .ok (.getfield 211, 3) := by decide +kernel
theorem d_9_bestSpeed_40 : decode prog_1_method_21_code 40 = .ok (.getfield 233, 3) := by decide +kernel
theorem d_9_bestSpeed_43 : decode prog_1_method_21_code 43 = .ok (.istore 6, 2) := by decide +kernel
theorem d_9_bestSpeed_45 : decode prog_1_method_21_code 45 = .ok (.iload 5, 2) := by decide +kernel
theorem d_9_bestSpeed_47 : decode prog_1_method_21_code 47 = .ok (.iload_n 2, 1) := by decide +kernel
theorem d_9_bestSpeed_48 : decode prog_1_method_21_code 48 = .ok (.if_icmp .gt 15, 3) := by decide +kernel
theorem d_9_bestSpeed_51 : decode prog_1_method_21_code 51 = .ok (.iload 5, 2) := by decide +kernel
theorem d_9_bestSpeed_53 : decode prog_1_method_21_code 53 = .ok (.iload_n 2, 1) := by decide +kernel
theorem d_9_bestSpeed_54 : decode prog_1_method_21_code 54 = .ok (.if_icmp .ne 18, 3) := by decide +kernel
theorem d_9_bestSpeed_57 : decode prog_1_method_21_code 57 = .ok (.iload 6, 2) := by decide +kernel
theorem d_9_bestSpeed_59 : decode prog_1_method_21_code 59 = .ok (.iload_n 3, 1) := by decide +kernel
theorem d_9_bestSpeed_60 : decode prog_1_method_21_code 60 = .ok (.if_icmp .ge 12, 3) := by decide +kernel
theorem d_9_bestSpeed_63 : decode prog_1_method_21_code 63 = .ok (.iload 4, 2) := by decide +kernel
theorem d_9_bestSpeed_65 : decode prog_1_method_21_code 65 = .ok (.istore_n 1, 1) := by decide +kernel
theorem d_9_bestSpeed_66 : decode prog_1_method_21_code 66 = .ok (.iload 5, 2) := by decide +kernel
theorem d_9_bestSpeed_68 : decode prog_1_method_21_code 68 = .ok (.istore_n 2, 1) := by decide +kernel
theorem d_9_bestSpeed_69 : decode prog_1_method_21_code 69 = .ok (.iload 6, 2) := by decide +kernel
theorem d_9_bestSpeed_71 : decode prog_1_method_21_code 71 = .ok (.istore_n 3, 1) := by decide +kernel
theorem d_9_bestSpeed_72 : decode prog_1_method_21_code 72 = .ok (.iinc 4 1, 3) := by decide +kernel
theorem d_9_bestSpeed_75 : decode prog_1_method_21_code 75 = .ok (.goto (-66), 3) := by decide +kernel
theorem d_9_bestSpeed_78 : decode prog_1_method_21_code 78 = .ok (.iload_n 1, 1) := by decide +kernel
theorem d_9_bestSpeed_79 : decode prog_1_method_21_code 79 = .ok (.ireturn, 1) := by decide +kernel
def m_9_bestSpeed_63 (r0 : Nat) (x4 : Int32) (x5 : Int32) (x6 : Int32) (B9 : Int32 → Int32 → Int32 → Int32 → St → Prop) (Q : Int32 → St → Prop) (σ : St) : Prop :=
  ∀ x4_1 : Int32, x4_1 = x4 + 1 → B9 x4 x5 x6 x4_1 σ
def m_9_bestSpeed_9 (r0 : Nat) (Q : Int32 → St → Prop) (B9 : Int32 → Int32 → Int32 → Int32 → St → Prop) (x1 : Int32) (x2 : Int32) (x3 : Int32) (x4 : Int32) (σ : St) : Prop :=
  (((4 : Int32) < x4 → Q x1 σ) ∧ (¬ (4 : Int32) < x4 → m_9_trySpeed r0 x4 (fun (σ_1 : St) => ∀ x5_3 : Int32, x5_3 = (σ_1.1 ((r0 + 316) + 5) 3) → ∀ x6_4 : Int32, x6_4 = (σ_1.1 ((r0 + 316) + 5) 1) → ((x2 < x5_3 → m_9_bestSpeed_63 r0 x4 x5_3 x6_4 B9 Q   σ_1) ∧ (¬ x2 < x5_3 → ((¬ x5_3 = x2 → ∀ x4_5 : Int32, x4_5 = x4 + 1 → B9 x1 x2 x3 x4_5 σ_1) ∧ (x5_3 = x2 → ((x3 ≤ x6_4 → ∀ x4_6 : Int32, x4_6 = x4 + 1 → B9 x1 x2 x3 x4_6 σ_1) ∧ (¬ x3 ≤ x6_4 → m_9_bestSpeed_63 r0 x4 x5_3 x6_4 B9 Q   σ_1))))))) σ))
def m_9_bestSpeed (r0 : Nat) (Q : Int32 → St → Prop) (σ : St) : Prop :=
  itN (m_9_bestSpeed_9 r0 Q) (fun _ _ _ _ _ => False) FU (1 : Int32) (-1 : Int32) (0 : Int32) (1 : Int32) σ
theorem d_2_swap_0 : decode prog_4_method_4_code 0 = .ok (.aload_n 0, 1) := by decide +kernel
theorem d_2_swap_1 : decode prog_4_method_4_code 1 = .ok (.getfield 15, 3) := by decide +kernel
theorem d_2_swap_4 : decode prog_4_method_4_code 4 = .ok (.iload_n 1, 1) := by decide +kernel
theorem d_2_swap_5 : decode prog_4_method_4_code 5 = .ok (.iaload, 1) := by decide +kernel
theorem d_2_swap_6 : decode prog_4_method_4_code 6 = .ok (.istore_n 3, 1) := by decide +kernel
theorem d_2_swap_7 : decode prog_4_method_4_code 7 = .ok (.aload_n 0, 1) := by decide +kernel
theorem d_2_swap_8 : decode prog_4_method_4_code 8 = .ok (.getfield 15, 3) := by decide +kernel
theorem d_2_swap_11 : decode prog_4_method_4_code 11 = .ok (.iload_n 1, 1) := by decide +kernel
theorem d_2_swap_12 : decode prog_4_method_4_code 12 = .ok (.aload_n 0, 1) := by decide +kernel
theorem d_2_swap_13 : decode prog_4_method_4_code 13 = .ok (.getfield 15, 3) := by decide +kernel
theorem d_2_swap_16 : decode prog_4_method_4_code 16 = .ok (.iload_n 2, 1) := by decide +kernel
theorem d_2_swap_17 : decode prog_4_method_4_code 17 = .ok (.iaload, 1) := by decide +kernel
theorem d_2_swap_18 : decode prog_4_method_4_code 18 = .ok (.iastore, 1) := by decide +kernel
theorem d_2_swap_19 : decode prog_4_method_4_code 19 = .ok (.aload_n 0, 1) := by decide +kernel
theorem d_2_swap_20 : decode prog_4_method_4_code 20 = .ok (.getfield 15, 3) := by decide +kernel
theorem d_2_swap_23 : decode prog_4_method_4_code 23 = .ok (.iload_n 2, 1) := by decide +kernel
theorem d_2_swap_24 : decode prog_4_method_4_code 24 = .ok (.iload_n 3, 1) := by decide +kernel
theorem d_2_swap_25 : decode prog_4_method_4_code 25 = .ok (.iastore, 1) := by decide +kernel
theorem d_2_swap_26 : decode prog_4_method_4_code 26 = .ok (.return_, 1) := by decide +kernel
def m_2_swap (r0 : Nat) (x1 : Int32) (x2 : Int32) (Q : St → Prop) (σ : St) : Prop :=
  vp_in x1 6 ∧ ∀ x3_1 : Int32, x3_1 = (σ.1 (r0 + 2) (x1).toNatClampNeg) → vp_in x2 6 ∧ vp_in x1 6 ∧ ∀ σ_2 : St, σ_2 = wr σ (r0 + 2) (x1).toNatClampNeg (σ.1 (r0 + 2) (x2).toNatClampNeg) → vp_in x2 6 ∧ ∀ σ_3 : St, σ_3 = wr σ_2 (r0 + 2) (x2).toNatClampNeg x3_1 → Q σ_3
theorem d_2_stepOrder_0 : decode prog_4_method_3_code 0 = .ok (.aload_n 0, 1) := by decide +kernel
theorem d_2_stepOrder_1 : decode prog_4_method_3_code 1 = .ok (.getfield 30, 3) := by decide +kernel
theorem d_2_stepOrder_4 : decode prog_4_method_3_code 4 = .ok (.iconst 2, 1) := by decide +kernel
theorem d_2_stepOrder_5 : decode prog_4_method_3_code 5 = .ok (.isub, 1) := by decide +kernel
theorem d_2_stepOrder_6 : decode prog_4_method_3_code 6 = .ok (.istore_n 1, 1) := by decide +kernel
theorem d_2_stepOrder_7 : decode prog_4_method_3_code 7 = .ok (.iload_n 1, 1) := by decide +kernel
theorem d_2_stepOrder_8 : decode prog_4_method_3_code 8 = .ok (.ifCond .lt 26, 3) := by decide +kernel
theorem d_2_stepOrder_11 : decode prog_4_method_3_code 11 = .ok (.aload_n 0, 1) := by decide +kernel
theorem d_2_stepOrder_12 : decode prog_4_method_3_code 12 = .ok (.getfield 15, 3) := by decide +kernel
theorem d_2_stepOrder_15 : decode prog_4_method_3_code 15 = .ok (.iload_n 1, 1) := by decide +kernel
theorem d_2_stepOrder_16 : decode prog_4_method_3_code 16 = .ok (.iaload, 1) := by decide +kernel
theorem d_2_stepOrder_17 : decode prog_4_method_3_code 17 = .ok (.aload_n 0, 1) := by decide +kernel
theorem d_2_stepOrder_18 : decode prog_4_method_3_code 18 = .ok (.getfield 15, 3) := by decide +kernel
theorem d_2_stepOrder_21 : decode prog_4_method_3_code 21 = .ok (.iload_n 1, 1) := by decide +kernel
theorem d_2_stepOrder_22 : decode prog_4_method_3_code 22 = .ok (.iconst 1, 1) := by decide +kernel
theorem d_2_stepOrder_23 : decode prog_4_method_3_code 23 = .ok (.iadd, 1) := by decide +kernel
theorem d_2_stepOrder_24 : decode prog_4_method_3_code 24 = .ok (.iaload, 1) := by decide +kernel
theorem d_2_stepOrder_25 : decode prog_4_method_3_code 25 = .ok (.if_icmp .le 9, 3) := by decide +kernel
theorem d_2_stepOrder_28 : decode prog_4_method_3_code 28 = .ok (.iinc 1 (-1), 3) := by decide +kernel
theorem d_2_stepOrder_31 : decode prog_4_method_3_code 31 = .ok (.goto (-24), 3) := by decide +kernel
theorem d_2_stepOrder_34 : decode prog_4_method_3_code 34 = .ok (.iload_n 1, 1) := by decide +kernel
theorem d_2_stepOrder_35 : decode prog_4_method_3_code 35 = .ok (.ifCond .ge 5, 3) := by decide +kernel
theorem d_2_stepOrder_38 : decode prog_4_method_3_code 38 = .ok (.iconst 0, 1) := by decide +kernel
theorem d_2_stepOrder_39 : decode prog_4_method_3_code 39 = .ok (.ireturn, 1) := by decide +kernel
theorem d_2_stepOrder_40 : decode prog_4_method_3_code 40 = .ok (.aload_n 0, 1) := by decide +kernel
theorem d_2_stepOrder_41 : decode prog_4_method_3_code 41 = .ok (.getfield 30, 3) := by decide +kernel
theorem d_2_stepOrder_44 : decode prog_4_method_3_code 44 = .ok (.iconst 1, 1) := by decide +kernel
theorem d_2_stepOrder_45 : decode prog_4_method_3_code 45 = .ok (.isub, 1) := by decide +kernel
theorem d_2_stepOrder_46 : decode prog_4_method_3_code 46 = .ok (.istore_n 2, 1) := by decide +kernel
theorem d_2_stepOrder_47 : decode prog_4_method_3_code 47 = .ok (.iload_n 2, 1) := by decide +kernel
theorem d_2_stepOrder_48 : decode prog_4_method_3_code 48 = .ok (.iload_n 1, 1) := by decide +kernel
theorem d_2_stepOrder_49 : decode prog_4_method_3_code 49 = .ok (.if_icmp .le 24, 3) := by decide +kernel
theorem d_2_stepOrder_52 : decode prog_4_method_3_code 52 = .ok (.aload_n 0, 1) := by decide +kernel
theorem d_2_stepOrder_53 : decode prog_4_method_3_code 53 = .ok (.getfield 15, 3) := by decide +kernel
theorem d_2_stepOrder_56 : decode prog_4_method_3_code 56 = .ok (.iload_n 2, 1) := by decide +kernel
theorem d_2_stepOrder_57 : decode prog_4_method_3_code 57 = .ok (.iaload, 1) := by decide +kernel
theorem d_2_stepOrder_58 : decode prog_4_method_3_code 58 = .ok (.aload_n 0, 1) := by decide +kernel
theorem d_2_stepOrder_59 : decode prog_4_method_3_code 59 = .ok (.getfield 15, 3) := by decide +kernel
theorem d_2_stepOrder_62 : decode prog_4_method_3_code 62 = .ok (.iload_n 1, 1) := by decide +kernel
theorem d_2_stepOrder_63 : decode prog_4_method_3_code 63 = .ok (.iaload, 1) := by decide +kernel
theorem d_2_stepOrder_64 : decode prog_4_method_3_code 64 = .ok (.if_icmp .ge 9, 3) := by decide +kernel
theorem d_2_stepOrder_67 : decode prog_4_method_3_code 67 = .ok (.iinc 2 (-1), 3) := by decide +kernel
theorem d_2_stepOrder_70 : decode prog_4_method_3_code 70 = .ok (.goto (-23), 3) := by decide +kernel
theorem d_2_stepOrder_73 : decode prog_4_method_3_code 73 = .ok (.aload_n 0, 1) := by decide +kernel
theorem d_2_stepOrder_74 : decode prog_4_method_3_code 74 = .ok (.iload_n 1, 1) := by decide +kernel
theorem d_2_stepOrder_75 : decode prog_4_method_3_code 75 = .ok (.iload_n 2, 1) := by decide +kernel
theorem d_2_stepOrder_76 : decode prog_4_method_3_code 76 = .ok (.invokevirtual 73, 3) := by decide +kernel
theorem d_2_stepOrder_79 : decode prog_4_method_3_code 79 = .ok (.iload_n 1, 1) := by decide +kernel
theorem d_2_stepOrder_80 : decode prog_4_method_3_code 80 = .ok (.iconst 1, 1) := by decide +kernel
theorem d_2_stepOrder_81 : decode prog_4_method_3_code 81 = .ok (.iadd, 1) := by decide +kernel
theorem d_2_stepOrder_82 : decode prog_4_method_3_code 82 = .ok (.istore_n 3, 1) := by decide +kernel
theorem d_2_stepOrder_83 : decode prog_4_method_3_code 83 = .ok (.aload_n 0, 1) := by decide +kernel
theorem d_2_stepOrder_84 : decode prog_4_method_3_code 84 = .ok (.getfield 30, 3) := by decide +kernel
theorem d_2_stepOrder_87 : decode prog_4_method_3_code 87 = .ok (.iconst 1, 1) := by decide +kernel
theorem d_2_stepOrder_88 : decode prog_4_method_3_code 88 = .ok (.isub, 1) := by decide +kernel
theorem d_2_stepOrder_89 : decode prog_4_method_3_code 89 = .ok (.istore 4, 2) := by decide +kernel
theorem d_2_stepOrder_91 : decode prog_4_method_3_code 91 = .ok (.iload_n 3, 1) := by decide +kernel
theorem d_2_stepOrder_92 : decode prog_4_method_3_code 92 = .ok (.iload 4, 2) := by decide +kernel
theorem d_2_stepOrder_94 : decode prog_4_method_3_code 94 = .ok (.if_icmp .ge 19, 3) := by decide +kernel
theorem d_2_stepOrder_97 : decode prog_4_method_3_code 97 = .ok (.aload_n 0, 1) := by decide +kernel
theorem d_2_stepOrder_98 : decode prog_4_method_3_code 98 = .ok (.iload_n 3, 1) := by decide +kernel
theorem d_2_stepOrder_99 : decode prog_4_method_3_code 99 = .ok (.iload 4, 2) := by decide +kernel
theorem d_2_stepOrder_101 : decode prog_4_method_3_code 101 = .ok (.invokevirtual 73, 3) := by decide +kernel
theorem d_2_stepOrder_104 : decode prog_4_method_3_code 104 = .ok (.iinc 3 1, 3) := by decide +kernel
theorem d_2_stepOrder_107 : decode prog_4_method_3_code 107 = .ok (.iinc 4 (-1), 3) := by decide +kernel
theorem d_2_stepOrder_110 : decode prog_4_method_3_code 110 = .ok (.goto (-19), 3) := by decide +kernel
theorem d_2_stepOrder_113 : decode prog_4_method_3_code 113 = .ok (.iconst 1, 1) := by decide +kernel
theorem d_2_stepOrder_114 : decode prog_4_method_3_code 114 = .ok (.ireturn, 1) := by decide +kernel
def m_2_stepOrder_91 (r0 : Nat) (Q : Int32 → St → Prop) (B91 : Int32 → Int32 → St → Prop) (x3 : Int32) (x4 : Int32) (σ : St) : Prop :=
  ((x4 ≤ x3 → Q (1 : Int32) σ) ∧ (¬ x4 ≤ x3 → m_2_swap r0 x3 x4 (fun (σ_1 : St) => ∀ x3_3 : Int32, x3_3 = x3 + 1 → ∀ x4_4 : Int32, x4_4 = x4 + (-1) → B91 x3_3 x4_4 σ_1) σ))
def m_2_stepOrder_73 (r0 : Nat) (x1 : Int32) (x2 : Int32) (Q : Int32 → St → Prop) (σ : St) : Prop :=
  m_2_swap r0 x1 x2 (fun (σ_1 : St) => ∀ x3_3 : Int32, x3_3 = (x1 + (1 : Int32)) → ∀ x4_4 : Int32, x4_4 = ((σ_1.1 r0 3) - (1 : Int32)) → itN (m_2_stepOrder_91 r0 Q) (fun _ _ _ => False) FU x3_3 x4_4 σ_1) σ
def m_2_stepOrder_47 (r0 : Nat) (x1 : Int32) (Q : Int32 → St → Prop) (B47 : Int32 → St → Prop) (x2 : Int32) (σ : St) : Prop :=
  ((x2 ≤ x1 → m_2_stepOrder_73 r0 x1 x2 Q   σ) ∧ (¬ x2 ≤ x1 → vp_in x2 6 ∧ vp_in x1 6 ∧ (((σ.1 (r0 + 2) (x1).toNatClampNeg) ≤ (σ.1 (r0 + 2) (x2).toNatClampNeg) → m_2_stepOrder_73 r0 x1 x2 Q   σ) ∧ (¬ (σ.1 (r0 + 2) (x1).toNatClampNeg) ≤ (σ.1 (r0 + 2) (x2).toNatClampNeg) → ∀ x2_1 : Int32, x2_1 = x2 + (-1) → B47 x2_1 σ))))
def m_2_stepOrder_34 (r0 : Nat) (x1 : Int32) (Q : Int32 → St → Prop) (σ : St) : Prop :=
  ((0 ≤ x1 → ∀ x2_1 : Int32, x2_1 = ((σ.1 r0 3) - (1 : Int32)) → itN (m_2_stepOrder_47 r0 x1 Q) (fun _ _ => False) FU x2_1 σ) ∧ (¬ 0 ≤ x1 → Q (0 : Int32) σ))
def m_2_stepOrder_7 (r0 : Nat) (Q : Int32 → St → Prop) (B7 : Int32 → St → Prop) (x1 : Int32) (σ : St) : Prop :=
  ((x1 < 0 → m_2_stepOrder_34 r0 x1 Q   σ) ∧ (¬ x1 < 0 → vp_in x1 6 ∧ vp_in (x1 + (1 : Int32)) 6 ∧ (((σ.1 (r0 + 2) (x1).toNatClampNeg) ≤ (σ.1 (r0 + 2) ((x1 + (1 : Int32))).toNatClampNeg) → m_2_stepOrder_34 r0 x1 Q   σ) ∧ (¬ (σ.1 (r0 + 2) (x1).toNatClampNeg) ≤ (σ.1 (r0 + 2) ((x1 + (1 : Int32))).toNatClampNeg) → ∀ x1_1 : Int32, x1_1 = x1 + (-1) → B7 x1_1 σ))))
def m_2_stepOrder (r0 : Nat) (Q : Int32 → St → Prop) (σ : St) : Prop :=
  ∀ x1_1 : Int32, x1_1 = ((σ.1 r0 3) - (2 : Int32)) → itN (m_2_stepOrder_7 r0 Q) (fun _ _ => False) FU x1_1 σ
theorem d_2_search_0 : decode prog_4_method_2_code 0 = .ok (.aload_n 0, 1) := by decide +kernel
theorem d_2_search_1 : decode prog_4_method_2_code 1 = .ok (.aload_n 1, 1) := by decide +kernel
theorem d_2_search_2 : decode prog_4_method_2_code 2 = .ok (.getfield 18, 3) := by decide +kernel
theorem d_2_search_5 : decode prog_4_method_2_code 5 = .ok (.bipush 6, 2) := by decide +kernel
theorem d_2_search_7 : decode prog_4_method_2_code 7 = .ok (.invokestatic 24, 3) := by decide +kernel
theorem d_2_search_10 : decode prog_4_method_2_code 10 = .ok (.putfield 30, 3) := by decide +kernel
theorem d_2_search_13 : decode prog_4_method_2_code 13 = .ok (.iconst 0, 1) := by decide +kernel
theorem d_2_search_14 : decode prog_4_method_2_code 14 = .ok (.istore 4, 2) := by decide +kernel
theorem d_2_search_16 : decode prog_4_method_2_code 16 = .ok (.iload 4, 2) := by decide +kernel
theorem d_2_search_18 : decode prog_4_method_2_code 18 = .ok (.aload_n 0, 1) := by decide +kernel
theorem d_2_search_19 : decode prog_4_method_2_code 19 = .ok (.getfield 30, 3) := by decide +kernel
theorem d_2_search_22 : decode prog_4_method_2_code 22 = .ok (.if_icmp .ge 18, 3) := by decide +kernel
theorem d_2_search_25 : decode prog_4_method_2_code 25 = .ok (.aload_n 0, 1) := by decide +kernel
theorem d_2_search_26 : decode prog_4_method_2_code 26 = .ok (.getfield 15, 3) := by decide +kernel
theorem d_2_search_29 : decode prog_4_method_2_code 29 = .ok (.iload 4, 2) := by decide +kernel
theorem d_2_search_31 : decode prog_4_method_2_code 31 = .ok (.iload 4, 2) := by decide +kernel
theorem d_2_search_33 : decode prog_4_method_2_code 33 = .ok (.iastore, 1) := by decide +kernel
theorem d_2_search_34 : decode prog_4_method_2_code 34 = .ok (.iinc 4 1, 3) := by decide +kernel
theorem d_2_search_37 : decode prog_4_method_2_code 37 = .ok (.goto (-21), 3) := by decide +kernel
theorem d_2_search_40 : decode prog_4_method_2_code 40 = .ok (.aload_n 0, 1) := by decide +kernel
theorem d_2_search_41 : decode prog_4_method_2_code 41 = .ok (.iconst (-1), 1) := by decide +kernel
theorem d_2_search_42 : decode prog_4_method_2_code 42 = .ok (.putfield 33, 3) := by decide +kernel
theorem d_2_search_45 : decode prog_4_method_2_code 45 = .ok (.iconst 1, 1) := by decide +kernel
theorem d_2_search_46 : decode prog_4_method_2_code 46 = .ok (.istore 4, 2) := by decide +kernel
theorem d_2_search_48 : decode prog_4_method_2_code 48 = .ok (.iconst 0, 1) := by decide +kernel
theorem d_2_search_49 : decode prog_4_method_2_code 49 = .ok (.istore 5, 2) := by decide +kernel
theorem d_2_search_51 : decode prog_4_method_2_code 51 = .ok (.iload 5, 2) := by decide +kernel
theorem d_2_search_53 : decode prog_4_method_2_code 53 = .ok (.sipush 720, 3) := by decide +kernel
theorem d_2_search_56 : decode prog_4_method_2_code 56 = .ok (.if_icmp .ge 111, 3) := by decide +kernel
theorem d_2_search_59 : decode prog_4_method_2_code 59 = .ok (.iload 4, 2) := by decide +kernel
theorem d_2_search_61 : decode prog_4_method_2_code 61 = .ok (.ifCond .eq 106, 3) := by decide +kernel
theorem d_2_search_64 : decode prog_4_method_2_code 64 = .ok (.aload_n 2, 1) := by decide +kernel
theorem d_2_search_65 : decode prog_4_method_2_code 65 = .ok (.aload_n 1, 1) := by decide +kernel
theorem d_2_search_66 : decode prog_4_method_2_code 66 = .ok (.invokevirtual 36, 3) := by decide +kernel
theorem d_2_search_69 : decode prog_4_method_2_code 69 = .ok (.iconst 0, 1) := by decide +kernel
theorem d_2_search_70 : decode prog_4_method_2_code 70 = .ok (.istore 6, 2) := by decide +kernel
theorem d_2_search_72 : decode prog_4_method_2_code 72 = .ok (.iload 6, 2) := by decide +kernel
theorem d_2_search_74 : decode prog_4_method_2_code 74 = .ok (.aload_n 0, 1) := by decide +kernel
theorem d_2_search_75 : decode prog_4_method_2_code 75 = .ok (.getfield 30, 3) := by decide +kernel
theorem d_2_search_78 : decode prog_4_method_2_code 78 = .ok (.if_icmp .ge 31, 3) := by decide +kernel
theorem d_2_search_81 : decode prog_4_method_2_code 81 = .ok (.aload_n 2, 1) := by decide +kernel
theorem d_2_search_82 : decode prog_4_method_2_code 82 = .ok (.getfield 40, 3) := by decide +kernel
theorem d_2_search_85 : decode prog_4_method_2_code 85 = .ok (.iload 6, 2) := by decide +kernel
theorem d_2_search_87 : decode prog_4_method_2_code 87 = .ok (.aaload, 1) := by decide +kernel
theorem d_2_search_88 : decode prog_4_method_2_code 88 = .ok (.aload_n 1, 1) := by decide +kernel
theorem d_2_search_89 : decode prog_4_method_2_code 89 = .ok (.getfield 40, 3) := by decide +kernel
theorem d_2_search_92 : decode prog_4_method_2_code 92 = .ok (.aload_n 0, 1) := by decide +kernel
theorem d_2_search_93 : decode prog_4_method_2_code 93 = .ok (.getfield 15, 3) := by decide +kernel
theorem d_2_search_96 : decode prog_4_method_2_code 96 = .ok (.iload 6, 2) := by decide +kernel
theorem d_2_search_98 : decode prog_4_method_2_code 98 = .ok (.iaload, 1) := by decide +kernel
theorem d_2_search_99 : decode prog_4_method_2_code 99 = .ok (.aaload, 1) := by decide +kernel
theorem d_2_search_100 : decode prog_4_method_2_code 100 = .ok (.invokevirtual 44, 3) := by decide +kernel
theorem d_2_search_103 : decode prog_4_method_2_code 103 = .ok (.iinc 6 1, 3) := by decide +kernel
theorem d_2_search_106 : decode prog_4_method_2_code 106 = .ok (.goto (-34), 3) := by decide +kernel
theorem d_2_search_109 : decode prog_4_method_2_code 109 = .ok (.aload_n 3, 1) := by decide +kernel
theorem d_2_search_110 : decode prog_4_method_2_code 110 = .ok (.invokevirtual 49, 3) := by decide +kernel
theorem d_2_search_113 : decode prog_4_method_2_code 113 = .ok (.aload_n 2, 1) := by decide +kernel
theorem d_2_search_114 : decode prog_4_method_2_code 114 = .ok (.getfield 54, 3) := by decide +kernel
theorem d_2_search_117 : decode prog_4_method_2_code 117 = .ok (.getfield 58, 3) := by decide +kernel
theorem d_2_search_120 : decode prog_4_method_2_code 120 = .ok (.aload_n 0, 1) := by decide +kernel
theorem d_2_search_121 : decode prog_4_method_2_code 121 = .ok (.getfield 33, 3) := by decide +kernel
theorem d_2_search_124 : decode prog_4_method_2_code 124 = .ok (.if_icmp .le 31, 3) := by decide +kernel
theorem d_2_search_127 : decode prog_4_method_2_code 127 = .ok (.aload_n 0, 1) := by decide +kernel
theorem d_2_search_128 : decode prog_4_method_2_code 128 = .ok (.aload_n 2, 1) := by decide +kernel
theorem d_2_search_129 : decode prog_4_method_2_code 129 = .ok (.getfield 54, 3) := by decide +kernel
theorem d_2_search_132 : decode prog_4_method_2_code 132 = .ok (.getfield 58, 3) := by decide +kernel
theorem d_2_search_135 : decode prog_4_method_2_code 135 = .ok (.putfield 33, 3) := by decide +kernel
theorem d_2_search_138 : decode prog_4_method_2_code 138 = .ok (.aload_n 0, 1) := by decide +kernel
theorem d_2_search_139 : decode prog_4_method_2_code 139 = .ok (.getfield 15, 3) := by decide +kernel
theorem d_2_search_142 : decode prog_4_method_2_code 142 = .ok (.iconst 0, 1) := by decide +kernel
theorem d_2_search_143 : decode prog_4_method_2_code 143 = .ok (.aload_n 0, 1) := by decide +kernel
theorem d_2_search_144 : decode prog_4_method_2_code 144 = .ok (.getfield 9, 3) := by decide +kernel
theorem d_2_search_147 : decode prog_4_method_2_code 147 = .ok (.iconst 0, 1) := by decide +kernel
theorem d_2_search_148 : decode prog_4_method_2_code 148 = .ok (.aload_n 0, 1) := by decide +kernel
theorem d_2_search_149 : decode prog_4_method_2_code 149 = .ok (.getfield 30, 3) := by decide +kernel
theorem d_2_search_152 : decode prog_4_method_2_code 152 = .ok (.invokestatic 63, 3) := by decide +kernel
theorem d_2_search_155 : decode prog_4_method_2_code 155 = .ok (.aload_n 0, 1) := by decide +kernel
theorem d_2_search_156 : decode prog_4_method_2_code 156 = .ok (.invokevirtual 69, 3) := by decide +kernel
theorem d_2_search_159 : decode prog_4_method_2_code 159 = .ok (.istore 4, 2) := by decide +kernel
theorem d_2_search_161 : decode prog_4_method_2_code 161 = .ok (.iinc 5 1, 3) := by decide +kernel
theorem d_2_search_164 : decode prog_4_method_2_code 164 = .ok (.goto (-113), 3) := by decide +kernel
theorem d_2_search_167 : decode prog_4_method_2_code 167 = .ok (.return_, 1) := by decide +kernel
def m_2_search_155 (r0 : Nat) (r1 : Nat) (r2 : Nat) (r3 : Nat) (x5 : Int32) (B51 : Int32 → Int32 → St → Prop) (Q : St → Prop) (σ : St) : Prop :=
  m_2_stepOrder r0 (fun (v_2 : Int32) (σ_1 : St) => ∀ x5_3 : Int32, x5_3 = x5 + 1 → B51 v_2 x5_3 σ_1) σ
def m_2_search_72 (r0 : Nat) (r1 : Nat) (r2 : Nat) (r3 : Nat) (x5 : Int32) (B51 : Int32 → Int32 → St → Prop) (Q : St → Prop) (B72 : Int32 → St → Prop) (x6 : Int32) (σ : St) : Prop :=
  (((σ.1 r0 3) ≤ x6 → m_5_carryOut r3 (fun (σ_1 : St) => (((σ_1.1 (r2 + 5) 3) ≤ (σ_1.1 r0 1) → m_2_search_155 r0 r1 r2 r3 x5 B51 Q   σ_1) ∧ (¬ (σ_1.1 (r2 + 5) 3) ≤ (σ_1.1 r0 1) → ∀ σ_3 : St, σ_3 = wr σ_1 r0 1 (σ_1.1 (r2 + 5) 3) → ¬ (σ_3.1 r0 3) < 0 ∧ ((σ_3.1 r0 3)).toNatClampNeg ≤ 6 ∧ ((σ_3.1 r0 3)).toNatClampNeg ≤ 6 ∧ ∀ σ_4 : St, σ_4 = wrA σ_3 (r0 + 1) (va_cpy (σ_3.1 (r0 + 2)) (σ_3.1 (r0 + 1)) 0 0 ((σ_3.1 r0 3)).toNatClampNeg) → m_2_search_155 r0 r1 r2 r3 x5 B51 Q   σ_4))) σ) ∧ (¬ (σ.1 r0 3) ≤ x6 → vp_in x6 10 ∧ vp_in x6 6 ∧ vp_in (σ.1 (r0 + 2) (x6).toNatClampNeg) 10 ∧ m_1_copyFrom ((r2 + 2) + 22 + (x6).toNatClampNeg) ((r1 + 2) + 22 + ((σ.1 (r0 + 2) (x6).toNatClampNeg)).toNatClampNeg) (fun (σ_7 : St) => ∀ x6_9 : Int32, x6_9 = x6 + 1 → B72 x6_9 σ_7) σ))
def m_2_search_51 (r0 : Nat) (r1 : Nat) (r2 : Nat) (r3 : Nat) (Q : St → Prop) (B51 : Int32 → Int32 → St → Prop) (x4 : Int32) (x5 : Int32) (σ : St) : Prop :=
  (((720 : Int32) ≤ x5 → Q σ) ∧ (¬ (720 : Int32) ≤ x5 → ((x4 = 0 → Q σ) ∧ (¬ x4 = 0 → m_8_copyFrom r2 r1 (fun (σ_1 : St) => itN (m_2_search_72 r0 r1 r2 r3 x5 B51 Q) (fun _ _ => False) FU (0 : Int32) σ_1) σ))))
def m_2_search_16 (r0 : Nat) (r1 : Nat) (r2 : Nat) (r3 : Nat) (Q : St → Prop) (B16 : Int32 → St → Prop) (x4 : Int32) (σ : St) : Prop :=
  (((σ.1 r0 3) ≤ x4 → ∀ σ_1 : St, σ_1 = wr σ r0 1 (-1 : Int32) → itN (m_2_search_51 r0 r1 r2 r3 Q) (fun _ _ _ => False) FU (1 : Int32) (0 : Int32) σ_1) ∧ (¬ (σ.1 r0 3) ≤ x4 → vp_in x4 6 ∧ ∀ σ_2 : St, σ_2 = wr σ (r0 + 2) (x4).toNatClampNeg x4 → ∀ x4_3 : Int32, x4_3 = x4 + 1 → B16 x4_3 σ_2))
def m_2_search (r0 : Nat) (r1 : Nat) (r2 : Nat) (r3 : Nat) (Q : St → Prop) (σ : St) : Prop :=
  ∀ σ_1 : St, σ_1 = wr σ r0 3 (if (6 : Int32) < (σ.1 r1 3) then (6 : Int32) else (σ.1 r1 3)) → itN (m_2_search_16 r0 r1 r2 r3 Q) (fun _ _ => False) FU (0 : Int32) σ_1
theorem d_9_bestOrder_0 : decode prog_1_method_22_code 0 = .ok (.iload_n 1, 1) := by decide +kernel
theorem d_9_bestOrder_1 : decode prog_1_method_22_code 1 = .ok (.ifCond .ge 5, 3) := by decide +kernel
theorem d_9_bestOrder_4 : decode prog_1_method_22_code 4 = .ok (.iconst (-1), 1) := by decide +kernel
theorem d_9_bestOrder_5 : decode prog_1_method_22_code 5 = .ok (.ireturn, 1) := by decide +kernel
theorem d_9_bestOrder_6 : decode prog_1_method_22_code 6 = .ok (.aload_n 0, 1) := by decide +kernel
theorem d_9_bestOrder_7 : decode prog_1_method_22_code 7 = .ok (.getfield 26, 3) := by decide +kernel
theorem d_9_bestOrder_10 : decode prog_1_method_22_code 10 = .ok (.getfield 108, 3) := by decide +kernel
theorem d_9_bestOrder_13 : decode prog_1_method_22_code 13 = .ok (.bipush 6, 2) := by decide +kernel
theorem d_9_bestOrder_15 : decode prog_1_method_22_code 15 = .ok (.if_icmp .le 6, 3) := by decide +kernel
theorem d_9_bestOrder_18 : decode prog_1_method_22_code 18 = .ok (.bipush (-2), 2) := by decide +kernel
theorem d_9_bestOrder_20 : decode prog_1_method_22_code 20 = .ok (.ireturn, 1) := by decide +kernel
theorem d_9_bestOrder_21 : decode prog_1_method_22_code 21 = .ok (.iload_n 1, 1) := by decide +kernel
theorem d_9_bestOrder_22 : decode prog_1_method_22_code 22 = .ok (.aload_n 0, 1) := by decide +kernel
theorem d_9_bestOrder_23 : decode prog_1_method_22_code 23 = .ok (.getfield 26, 3) := by decide +kernel
theorem d_9_bestOrder_26 : decode prog_1_method_22_code 26 = .ok (.getfield 108, 3) := by decide +kernel
theorem d_9_bestOrder_29 : decode prog_1_method_22_code 29 = .ok (.if_icmp .lt 6, 3) := by decide +kernel
theorem d_9_bestOrder_32 : decode prog_1_method_22_code 32 = .ok (.bipush (-9), 2) := by decide +kernel
theorem d_9_bestOrder_34 : decode prog_1_method_22_code 34 = .ok (.ireturn, 1) := by decide +kernel
theorem d_9_bestOrder_35 : decode prog_1_method_22_code 35 = .ok (.aload_n 0, 1) := by decide +kernel
theorem d_9_bestOrder_36 : decode prog_1_method_22_code 36 = .ok (.getfield 55, 3) := by decide +kernel
theorem d_9_bestOrder_39 : decode prog_1_method_22_code 39 = .ok (.aload_n 0, 1) := by decide +kernel
theorem d_9_bestOrder_40 : decode prog_1_method_22_code 40 = .ok (.getfield 26, 3) := by decide +kernel
theorem d_9_bestOrder_43 : decode prog_1_method_22_code 43 = .ok (.aload_n 0, 1) := by decide +kernel
theorem d_9_bestOrder_44 : decode prog_1_method_22_code 44 = .ok (.getfield 46, 3) := by decide +kernel
theorem d_9_bestOrder_47 : decode prog_1_method_22_code 47 = .ok (.aload_n 0, 1) := by decide +kernel
theorem d_9_bestOrder_48 : decode prog_1_method_22_code 48 = .ok (.getfield 49, 3) := by decide +kernel
theorem d_9_bestOrder_51 : decode prog_1_method_22_code 51 = .ok (.invokevirtual 248, 3) := by decide +kernel
theorem d_9_bestOrder_54 : decode prog_1_method_22_code 54 = .ok (.iload_n 2, 1) := by decide +kernel
theorem d_9_bestOrder_55 : decode prog_1_method_22_code 55 = .ok (.ifCond .eq 13, 3) := by decide +kernel
theorem d_9_bestOrder_58 : decode prog_1_method_22_code 58 = .ok (.aload_n 0, 1) := by decide +kernel
theorem d_9_bestOrder_59 : decode prog_1_method_22_code 59 = .ok (.getfield 55, 3) := by decide +kernel
theorem d_9_bestOrder_62 : decode prog_1_method_22_code 62 = .ok (.getfield 252, 3) := by decide +kernel
theorem d_9_bestOrder_65 : decode prog_1_method_22_code 65 = .ok (.goto 12, 3) := by decide +kernel
theorem d_9_bestOrder_68 : decode prog_1_method_22_code 68 = .ok (.aload_n 0, 1) := by decide +kernel
theorem d_9_bestOrder_69 : decode prog_1_method_22_code 69 = .ok (.getfield 55, 3) := by decide +kernel
theorem d_9_bestOrder_72 : decode prog_1_method_22_code 72 = .ok (.getfield 255, 3) := by decide +kernel
theorem d_9_bestOrder_75 : decode prog_1_method_22_code 75 = .ok (.iload_n 1, 1) := by decide +kernel
theorem d_9_bestOrder_76 : decode prog_1_method_22_code 76 = .ok (.iaload, 1) := by decide +kernel
theorem d_9_bestOrder_77 : decode prog_1_method_22_code 77 = .ok (.ireturn, 1) := by decide +kernel
def m_9_bestOrder (r0 : Nat) (x1 : Int32) (x2 : Int32) (Q : Int32 → St → Prop) (σ : St) : Prop :=
  ((0 ≤ x1 → (((σ.1 (r0 + 7) 3) ≤ (6 : Int32) → ((x1 < (σ.1 (r0 + 7) 3) → m_2_search (r0 + 351) (r0 + 7) (r0 + 316) (r0 + 350) (fun (σ_1 : St) => ((x2 = 0 → vp_in x1 6 ∧ Q (σ_1.1 ((r0 + 351) + 1) (x1).toNatClampNeg) σ_1) ∧ (¬ x2 = 0 → Q (σ_1.1 (r0 + 351) 1) σ_1))) σ) ∧ (¬ x1 < (σ.1 (r0 + 7) 3) → Q (-9 : Int32) σ))) ∧ (¬ (σ.1 (r0 + 7) 3) ≤ (6 : Int32) → Q (-2 : Int32) σ))) ∧ (¬ 0 ≤ x1 → Q (-1 : Int32) σ))
theorem d_9_nightsUntil_0 : decode prog_1_method_31_code 0 = .ok (.iload_n 1, 1) := by decide +kernel
theorem d_9_nightsUntil_1 : decode prog_1_method_31_code 1 = .ok (.iload_n 0, 1) := by decide +kernel
theorem d_9_nightsUntil_2 : decode prog_1_method_31_code 2 = .ok (.if_icmp .lt 5, 3) := by decide +kernel
theorem d_9_nightsUntil_5 : decode prog_1_method_31_code 5 = .ok (.iconst 0, 1) := by decide +kernel
theorem d_9_nightsUntil_6 : decode prog_1_method_31_code 6 = .ok (.ireturn, 1) := by decide +kernel
theorem d_9_nightsUntil_7 : decode prog_1_method_31_code 7 = .ok (.iload_n 2, 1) := by decide +kernel
theorem d_9_nightsUntil_8 : decode prog_1_method_31_code 8 = .ok (.ifCond .gt 6, 3) := by decide +kernel
theorem d_9_nightsUntil_11 : decode prog_1_method_31_code 11 = .ok (.bipush 101, 2) := by decide +kernel
theorem d_9_nightsUntil_13 : decode prog_1_method_31_code 13 = .ok (.ireturn, 1) := by decide +kernel
theorem d_9_nightsUntil_14 : decode prog_1_method_31_code 14 = .ok (.iload_n 0, 1) := by decide +kernel
theorem d_9_nightsUntil_15 : decode prog_1_method_31_code 15 = .ok (.iload_n 1, 1) := by decide +kernel
theorem d_9_nightsUntil_16 : decode prog_1_method_31_code 16 = .ok (.isub, 1) := by decide +kernel
theorem d_9_nightsUntil_17 : decode prog_1_method_31_code 17 = .ok (.iload_n 2, 1) := by decide +kernel
theorem d_9_nightsUntil_18 : decode prog_1_method_31_code 18 = .ok (.iadd, 1) := by decide +kernel
theorem d_9_nightsUntil_19 : decode prog_1_method_31_code 19 = .ok (.iconst 1, 1) := by decide +kernel
theorem d_9_nightsUntil_20 : decode prog_1_method_31_code 20 = .ok (.isub, 1) := by decide +kernel
theorem d_9_nightsUntil_21 : decode prog_1_method_31_code 21 = .ok (.iload_n 2, 1) := by decide +kernel
theorem d_9_nightsUntil_22 : decode prog_1_method_31_code 22 = .ok (.idiv, 1) := by decide +kernel
theorem d_9_nightsUntil_23 : decode prog_1_method_31_code 23 = .ok (.ireturn, 1) := by decide +kernel
def m_9_nightsUntil (x0 : Int32) (x1 : Int32) (x2 : Int32) (Q : Int32 → St → Prop) (σ : St) : Prop :=
  ((x1 < x0 → ((0 < x2 → ¬ x2 = 0 ∧ Q ((((x0 - x1) + x2) - (1 : Int32)) / x2) σ) ∧ (¬ 0 < x2 → Q (101 : Int32) σ))) ∧ (¬ x1 < x0 → Q (0 : Int32) σ))
theorem d_9_nightsTo_0 : decode prog_1_method_23_code 0 = .ok (.iload_n 1, 1) := by decide +kernel
theorem d_9_nightsTo_1 : decode prog_1_method_23_code 1 = .ok (.iconst 1, 1) := by decide +kernel
theorem d_9_nightsTo_2 : decode prog_1_method_23_code 2 = .ok (.if_icmp .lt 9, 3) := by decide +kernel
theorem d_9_nightsTo_5 : decode prog_1_method_23_code 5 = .ok (.iload_n 1, 1) := by decide +kernel
theorem d_9_nightsTo_6 : decode prog_1_method_23_code 6 = .ok (.bipush 99, 2) := by decide +kernel
theorem d_9_nightsTo_8 : decode prog_1_method_23_code 8 = .ok (.if_icmp .le 5, 3) := by decide +kernel
theorem d_9_nightsTo_11 : decode prog_1_method_23_code 11 = .ok (.iconst (-1), 1) := by decide +kernel
theorem d_9_nightsTo_12 : decode prog_1_method_23_code 12 = .ok (.ireturn, 1) := by decide +kernel
theorem d_9_nightsTo_13 : decode prog_1_method_23_code 13 = .ok (.bipush 101, 2) := by decide +kernel
theorem d_9_nightsTo_15 : decode prog_1_method_23_code 15 = .ok (.istore_n 2, 1) := by decide +kernel
theorem d_9_nightsTo_16 : decode prog_1_method_23_code 16 = .ok (.iconst 0, 1) := by decide +kernel
theorem d_9_nightsTo_17 : decode prog_1_method_23_code 17 = .ok (.istore_n 3, 1) := by decide +kernel
theorem d_9_nightsTo_18 : decode prog_1_method_23_code 18 = .ok (.iload_n 3, 1) := by decide +kernel
theorem d_9_nightsTo_19 : decode prog_1_method_23_code 19 = .ok (.aload_n 0, 1) := by decide +kernel
theorem d_9_nightsTo_20 : decode prog_1_method_23_code 20 = .ok (.getfield 26, 3) := by decide +kernel
theorem d_9_nightsTo_23 : decode prog_1_method_23_code 23 = .ok (.getfield 70, 3) := by decide +kernel
theorem d_9_nightsTo_26 : decode prog_1_method_23_code 26 = .ok (.if_icmp .ge 43, 3) := by decide +kernel
theorem d_9_nightsTo_29 : decode prog_1_method_23_code 29 = .ok (.aload_n 0, 1) := by decide +kernel
theorem d_9_nightsTo_30 : decode prog_1_method_23_code 30 = .ok (.getfield 26, 3) := by decide +kernel
theorem d_9_nightsTo_33 : decode prog_1_method_23_code 33 = .ok (.getfield 122, 3) := by decide +kernel
theorem d_9_nightsTo_36 : decode prog_1_method_23_code 36 = .ok (.iload_n 3, 1) := by decide +kernel
theorem d_9_nightsTo_37 : decode prog_1_method_23_code 37 = .ok (.aaload, 1) := by decide +kernel
theorem d_9_nightsTo_38 : decode prog_1_method_23_code 38 = .ok (.astore 4, 2) := by decide +kernel
theorem d_9_nightsTo_40 : decode prog_1_method_23_code 40 = .ok (.iload_n 2, 1) := by decide +kernel
theorem d_9_nightsTo_41 : decode prog_1_method_23_code 41 = .ok (.iload_n 1, 1) := by decide +kernel
theorem d_9_nightsTo_42 : decode prog_1_method_23_code 42 = .ok (.aload 4, 2) := by decide +kernel
theorem d_9_nightsTo_44 : decode prog_1_method_23_code 44 = .ok (.invokevirtual 162, 3) := by decide +kernel
theorem d_9_nightsTo_47 : decode prog_1_method_23_code 47 = .ok (.aload_n 0, 1) := by decide +kernel
theorem d_9_nightsTo_48 : decode prog_1_method_23_code 48 = .ok (.getfield 26, 3) := by decide +kernel
theorem d_9_nightsTo_51 : decode prog_1_method_23_code 51 = .ok (.aload 4, 2) := by decide +kernel
theorem d_9_nightsTo_53 : decode prog_1_method_23_code 53 = .ok (.invokevirtual 258, 3) := by decide +kernel
theorem d_9_nightsTo_56 : decode prog_1_method_23_code 56 = .ok (.invokestatic 262, 3) := by decide +kernel
theorem d_9_nightsTo_59 : decode prog_1_method_23_code 59 = .ok (.invokestatic 144, 3) := by decide +kernel
theorem d_9_nightsTo_62 : decode prog_1_method_23_code 62 = .ok (.istore_n 2, 1) := by decide +kernel
theorem d_9_nightsTo_63 : decode prog_1_method_23_code 63 = .ok (.iinc 3 1, 3) := by decide +kernel
theorem d_9_nightsTo_66 : decode prog_1_method_23_code 66 = .ok (.goto (-48), 3) := by decide +kernel
theorem d_9_nightsTo_69 : decode prog_1_method_23_code 69 = .ok (.iload_n 2, 1) := by decide +kernel
theorem d_9_nightsTo_70 : decode prog_1_method_23_code 70 = .ok (.bipush 100, 2) := by decide +kernel
theorem d_9_nightsTo_72 : decode prog_1_method_23_code 72 = .ok (.if_icmp .gt 7, 3) := by decide +kernel
theorem d_9_nightsTo_75 : decode prog_1_method_23_code 75 = .ok (.iload_n 2, 1) := by decide +kernel
theorem d_9_nightsTo_76 : decode prog_1_method_23_code 76 = .ok (.goto 5, 3) := by decide +kernel
theorem d_9_nightsTo_79 : decode prog_1_method_23_code 79 = .ok (.bipush (-9), 2) := by decide +kernel
theorem d_9_nightsTo_81 : decode prog_1_method_23_code 81 = .ok (.ireturn, 1) := by decide +kernel
def m_9_nightsTo_18 (r0 : Nat) (x1 : Int32) (Q : Int32 → St → Prop) (B18 : Int32 → Int32 → St → Prop) (x2 : Int32) (x3 : Int32) (σ : St) : Prop :=
  (((σ.1 (r0 + 7) 1) ≤ x3 → (((100 : Int32) < x2 → Q (-9 : Int32) σ) ∧ (¬ (100 : Int32) < x2 → Q x2 σ))) ∧ (¬ (σ.1 (r0 + 7) 1) ≤ x3 → vp_in x3 6 ∧ ∀ r4_2 : Nat, r4_2 = (((r0 + 7) + 1) + 5 + 3 * (x3).toNatClampNeg) → m_6_greatestDirt r4_2 (fun (v_4 : Int32) (σ_3 : St) => m_8_fallOn (r0 + 7) r4_2 (fun (v_6 : Int32) (σ_5 : St) => m_9_nightsUntil x1 v_4 v_6 (fun (v_8 : Int32) (σ_7 : St) => ∀ x2_9 : Int32, x2_9 = (if v_8 < x2 then v_8 else x2) → ∀ x3_10 : Int32, x3_10 = x3 + 1 → B18 x2_9 x3_10 σ_7) σ_5) σ_3) σ))
def m_9_nightsTo (r0 : Nat) (x1 : Int32) (Q : Int32 → St → Prop) (σ : St) : Prop :=
  ((x1 < (1 : Int32) → Q (-1 : Int32) σ) ∧ (¬ x1 < (1 : Int32) → ((x1 ≤ (99 : Int32) → itN (m_9_nightsTo_18 r0 x1 Q) (fun _ _ _ => False) FU (101 : Int32) (0 : Int32) σ) ∧ (¬ x1 ≤ (99 : Int32) → Q (-1 : Int32) σ))))
theorem d_9_account_0 : decode prog_1_method_24_code 0 = .ok (.iload_n 1, 1) := by decide +kernel
theorem d_9_account_1 : decode prog_1_method_24_code 1 = .ok (.ifCond .lt 9, 3) := by decide +kernel
theorem d_9_account_4 : decode prog_1_method_24_code 4 = .ok (.iload_n 1, 1) := by decide +kernel
theorem d_9_account_5 : decode prog_1_method_24_code 5 = .ok (.bipush 6, 2) := by decide +kernel
theorem d_9_account_7 : decode prog_1_method_24_code 7 = .ok (.if_icmp .le 5, 3) := by decide +kernel
theorem d_9_account_10 : decode prog_1_method_24_code 10 = .ok (.iconst (-1), 1) := by decide +kernel
theorem d_9_account_11 : decode prog_1_method_24_code 11 = .ok (.ireturn, 1) := by decide +kernel
theorem d_9_account_12 : decode prog_1_method_24_code 12 = .ok (.iload_n 1, 1) := by decide +kernel
theorem d_9_account_13 : decode prog_1_method_24_code 13 = .ok (.bipush 6, 2) := by decide +kernel
theorem d_9_account_15 : decode prog_1_method_24_code 15 = .ok (.if_icmp .ge 15, 3) := by decide +kernel
theorem d_9_account_18 : decode prog_1_method_24_code 18 = .ok (.aload_n 0, 1) := by decide +kernel
theorem d_9_account_19 : decode prog_1_method_24_code 19 = .ok (.getfield 26, 3) := by decide +kernel
theorem d_9_account_22 : decode prog_1_method_24_code 22 = .ok (.getfield 265, 3) := by decide +kernel
theorem d_9_account_25 : decode prog_1_method_24_code 25 = .ok (.iload_n 1, 1) := by decide +kernel
theorem d_9_account_26 : decode prog_1_method_24_code 26 = .ok (.iaload, 1) := by decide +kernel
theorem d_9_account_27 : decode prog_1_method_24_code 27 = .ok (.goto 10, 3) := by decide +kernel
theorem d_9_account_30 : decode prog_1_method_24_code 30 = .ok (.aload_n 0, 1) := by decide +kernel
theorem d_9_account_31 : decode prog_1_method_24_code 31 = .ok (.getfield 26, 3) := by decide +kernel
theorem d_9_account_34 : decode prog_1_method_24_code 34 = .ok (.invokevirtual 221, 3) := by decide +kernel
theorem d_9_account_37 : decode prog_1_method_24_code 37 = .ok (.ireturn, 1) := by decide +kernel
def m_9_account (r0 : Nat) (x1 : Int32) (Q : Int32 → St → Prop) (σ : St) : Prop :=
  ((x1 < 0 → Q (-1 : Int32) σ) ∧ (¬ x1 < 0 → ((x1 ≤ (6 : Int32) → (((6 : Int32) ≤ x1 → m_8_dirtOnStreets (r0 + 7) (fun (v_2 : Int32) (σ_1 : St) => Q v_2 σ_1) σ) ∧ (¬ (6 : Int32) ≤ x1 → vp_in x1 6 ∧ Q (σ.1 ((r0 + 7) + 4) (x1).toNatClampNeg) σ))) ∧ (¬ x1 ≤ (6 : Int32) → Q (-1 : Int32) σ))))
theorem d_0_restore_0 : decode prog_2_method_3_code 0 = .ok (.aload_n 0, 1) := by decide +kernel
theorem d_0_restore_1 : decode prog_2_method_3_code 1 = .ok (.aload_n 0, 1) := by decide +kernel
theorem d_0_restore_2 : decode prog_2_method_3_code 2 = .ok (.getfield 18, 3) := by decide +kernel
theorem d_0_restore_5 : decode prog_2_method_3_code 5 = .ok (.bipush 8, 2) := by decide +kernel
theorem d_0_restore_7 : decode prog_2_method_3_code 7 = .ok (.iadd, 1) := by decide +kernel
theorem d_0_restore_8 : decode prog_2_method_3_code 8 = .ok (.iconst 1, 1) := by decide +kernel
theorem d_0_restore_9 : decode prog_2_method_3_code 9 = .ok (.isub, 1) := by decide +kernel
theorem d_0_restore_10 : decode prog_2_method_3_code 10 = .ok (.bipush 8, 2) := by decide +kernel
theorem d_0_restore_12 : decode prog_2_method_3_code 12 = .ok (.irem, 1) := by decide +kernel
theorem d_0_restore_13 : decode prog_2_method_3_code 13 = .ok (.putfield 18, 3) := by decide +kernel
theorem d_0_restore_16 : decode prog_2_method_3_code 16 = .ok (.aload_n 1, 1) := by decide +kernel
theorem d_0_restore_17 : decode prog_2_method_3_code 17 = .ok (.aload_n 0, 1) := by decide +kernel
theorem d_0_restore_18 : decode prog_2_method_3_code 18 = .ok (.getfield 11, 3) := by decide +kernel
theorem d_0_restore_21 : decode prog_2_method_3_code 21 = .ok (.aload_n 0, 1) := by decide +kernel
theorem d_0_restore_22 : decode prog_2_method_3_code 22 = .ok (.getfield 18, 3) := by decide +kernel
theorem d_0_restore_25 : decode prog_2_method_3_code 25 = .ok (.aaload, 1) := by decide +kernel
theorem d_0_restore_26 : decode prog_2_method_3_code 26 = .ok (.invokevirtual 22, 3) := by decide +kernel
theorem d_0_restore_29 : decode prog_2_method_3_code 29 = .ok (.aload_n 0, 1) := by decide +kernel
theorem d_0_restore_30 : decode prog_2_method_3_code 30 = .ok (.dup, 1) := by decide +kernel
theorem d_0_restore_31 : decode prog_2_method_3_code 31 = .ok (.getfield 26, 3) := by decide +kernel
theorem d_0_restore_34 : decode prog_2_method_3_code 34 = .ok (.iconst 1, 1) := by decide +kernel
theorem d_0_restore_35 : decode prog_2_method_3_code 35 = .ok (.isub, 1) := by decide +kernel
theorem d_0_restore_36 : decode prog_2_method_3_code 36 = .ok (.putfield 26, 3) := by decide +kernel
theorem d_0_restore_39 : decode prog_2_method_3_code 39 = .ok (.return_, 1) := by decide +kernel
def m_0_restore (r0 : Nat) (r1 : Nat) (Q : St → Prop) (σ : St) : Prop :=
  ∀ σ_1 : St, σ_1 = wr σ r0 1 ((((σ.1 r0 1) + (8 : Int32)) - (1 : Int32)) - (((σ.1 r0 1) + (8 : Int32)) - (1 : Int32)) / (8 : Int32) * (8 : Int32)) → vp_in (σ_1.1 r0 1) 8 ∧ m_8_copyFrom r1 ((r0 + 1) + 1 + 34 * ((σ_1.1 r0 1)).toNatClampNeg) (fun (σ_3 : St) => ∀ σ_5 : St, σ_5 = wr σ_3 r0 2 ((σ_3.1 r0 2) - (1 : Int32)) → Q σ_5) σ_1
theorem d_9_undo_0 : decode prog_1_method_25_code 0 = .ok (.aload_n 0, 1) := by decide +kernel
theorem d_9_undo_1 : decode prog_1_method_25_code 1 = .ok (.getfield 42, 3) := by decide +kernel
theorem d_9_undo_4 : decode prog_1_method_25_code 4 = .ok (.getfield 268, 3) := by decide +kernel
theorem d_9_undo_7 : decode prog_1_method_25_code 7 = .ok (.ifCond .ne 6, 3) := by decide +kernel
theorem d_9_undo_10 : decode prog_1_method_25_code 10 = .ok (.bipush (-2), 2) := by decide +kernel
theorem d_9_undo_12 : decode prog_1_method_25_code 12 = .ok (.ireturn, 1) := by decide +kernel
theorem d_9_undo_13 : decode prog_1_method_25_code 13 = .ok (.aload_n 0, 1) := by decide +kernel
theorem d_9_undo_14 : decode prog_1_method_25_code 14 = .ok (.getfield 42, 3) := by decide +kernel
theorem d_9_undo_17 : decode prog_1_method_25_code 17 = .ok (.aload_n 0, 1) := by decide +kernel
theorem d_9_undo_18 : decode prog_1_method_25_code 18 = .ok (.getfield 26, 3) := by decide +kernel
theorem d_9_undo_21 : decode prog_1_method_25_code 21 = .ok (.invokevirtual 271, 3) := by decide +kernel
theorem d_9_undo_24 : decode prog_1_method_25_code 24 = .ok (.aload_n 0, 1) := by decide +kernel
theorem d_9_undo_25 : decode prog_1_method_25_code 25 = .ok (.getfield 42, 3) := by decide +kernel
theorem d_9_undo_28 : decode prog_1_method_25_code 28 = .ok (.getfield 268, 3) := by decide +kernel
theorem d_9_undo_31 : decode prog_1_method_25_code 31 = .ok (.ireturn, 1) := by decide +kernel
def m_9_undo (r0 : Nat) (Q : Int32 → St → Prop) (σ : St) : Prop :=
  ((¬ (σ.1 (r0 + 42) 2) = 0 → m_0_restore (r0 + 42) (r0 + 7) (fun (σ_1 : St) => Q (σ_1.1 (r0 + 42) 2) σ_1) σ) ∧ ((σ.1 (r0 + 42) 2) = 0 → Q (-2 : Int32) σ))
theorem d_9_count_0 : decode prog_1_method_26_code 0 = .ok (.iload_n 1, 1) := by decide +kernel
theorem d_9_count_1 : decode prog_1_method_26_code 1 = .ok (.tableswitch 207 0 14 #[75, 83, 91, 101, 109, 117, 127, 137, 147, 157, 167, 175, 183, 191, 199], 75) := by decide +kernel
theorem d_9_count_76 : decode prog_1_method_26_code 76 = .ok (.aload_n 0, 1) := by decide +kernel
theorem d_9_count_77 : decode prog_1_method_26_code 77 = .ok (.getfield 26, 3) := by decide +kernel
theorem d_9_count_80 : decode prog_1_method_26_code 80 = .ok (.getfield 70, 3) := by decide +kernel
theorem d_9_count_83 : decode prog_1_method_26_code 83 = .ok (.ireturn, 1) := by decide +kernel
theorem d_9_count_84 : decode prog_1_method_26_code 84 = .ok (.aload_n 0, 1) := by decide +kernel
theorem d_9_count_85 : decode prog_1_method_26_code 85 = .ok (.getfield 26, 3) := by decide +kernel
theorem d_9_count_88 : decode prog_1_method_26_code 88 = .ok (.getfield 108, 3) := by decide +kernel
theorem d_9_count_91 : decode prog_1_method_26_code 91 = .ok (.ireturn, 1) := by decide +kernel
theorem d_9_count_92 : decode prog_1_method_26_code 92 = .ok (.aload_n 0, 1) := by decide +kernel
theorem d_9_count_93 : decode prog_1_method_26_code 93 = .ok (.getfield 26, 3) := by decide +kernel
theorem d_9_count_96 : decode prog_1_method_26_code 96 = .ok (.getfield 174, 3) := by decide +kernel
theorem d_9_count_99 : decode prog_1_method_26_code 99 = .ok (.iconst 0, 1) := by decide +kernel
theorem d_9_count_100 : decode prog_1_method_26_code 100 = .ok (.iaload, 1) := by decide +kernel
theorem d_9_count_101 : decode prog_1_method_26_code 101 = .ok (.ireturn, 1) := by decide +kernel
theorem d_9_count_102 : decode prog_1_method_26_code 102 = .ok (.aload_n 0, 1) := by decide +kernel
theorem d_9_count_103 : decode prog_1_method_26_code 103 = .ok (.getfield 26, 3) := by decide +kernel
theorem d_9_count_106 : decode prog_1_method_26_code 106 = .ok (.getfield 274, 3) := by decide +kernel
theorem d_9_count_109 : decode prog_1_method_26_code 109 = .ok (.ireturn, 1) := by decide +kernel
theorem d_9_count_110 : decode prog_1_method_26_code 110 = .ok (.aload_n 0, 1) := by decide +kernel
theorem d_9_count_111 : decode prog_1_method_26_code 111 = .ok (.getfield 26, 3) := by decide +kernel
theorem d_9_count_114 : decode prog_1_method_26_code 114 = .ok (.getfield 277, 3) := by decide +kernel
theorem d_9_count_117 : decode prog_1_method_26_code 117 = .ok (.ireturn, 1) := by decide +kernel
theorem d_9_count_118 : decode prog_1_method_26_code 118 = .ok (.aload_n 0, 1) := by decide +kernel
theorem d_9_count_119 : decode prog_1_method_26_code 119 = .ok (.getfield 26, 3) := by decide +kernel
theorem d_9_count_122 : decode prog_1_method_26_code 122 = .ok (.getfield 174, 3) := by decide +kernel
theorem d_9_count_125 : decode prog_1_method_26_code 125 = .ok (.iconst 1, 1) := by decide +kernel
theorem d_9_count_126 : decode prog_1_method_26_code 126 = .ok (.iaload, 1) := by decide +kernel
theorem d_9_count_127 : decode prog_1_method_26_code 127 = .ok (.ireturn, 1) := by decide +kernel
theorem d_9_count_128 : decode prog_1_method_26_code 128 = .ok (.aload_n 0, 1) := by decide +kernel
theorem d_9_count_129 : decode prog_1_method_26_code 129 = .ok (.getfield 26, 3) := by decide +kernel
theorem d_9_count_132 : decode prog_1_method_26_code 132 = .ok (.getfield 174, 3) := by decide +kernel
theorem d_9_count_135 : decode prog_1_method_26_code 135 = .ok (.iconst 2, 1) := by decide +kernel
theorem d_9_count_136 : decode prog_1_method_26_code 136 = .ok (.iaload, 1) := by decide +kernel
theorem d_9_count_137 : decode prog_1_method_26_code 137 = .ok (.ireturn, 1) := by decide +kernel
theorem d_9_count_138 : decode prog_1_method_26_code 138 = .ok (.aload_n 0, 1) := by decide +kernel
theorem d_9_count_139 : decode prog_1_method_26_code 139 = .ok (.getfield 26, 3) := by decide +kernel
theorem d_9_count_142 : decode prog_1_method_26_code 142 = .ok (.getfield 174, 3) := by decide +kernel
theorem d_9_count_145 : decode prog_1_method_26_code 145 = .ok (.iconst 3, 1) := by decide +kernel
theorem d_9_count_146 : decode prog_1_method_26_code 146 = .ok (.iaload, 1) := by decide +kernel
theorem d_9_count_147 : decode prog_1_method_26_code 147 = .ok (.ireturn, 1) := by decide +kernel
theorem d_9_count_148 : decode prog_1_method_26_code 148 = .ok (.aload_n 0, 1) := by decide +kernel
theorem d_9_count_149 : decode prog_1_method_26_code 149 = .ok (.getfield 26, 3) := by decide +kernel
theorem d_9_count_152 : decode prog_1_method_26_code 152 = .ok (.getfield 174, 3) := by decide +kernel
theorem d_9_count_155 : decode prog_1_method_26_code 155 = .ok (.iconst 4, 1) := by decide +kernel
theorem d_9_count_156 : decode prog_1_method_26_code 156 = .ok (.iaload, 1) := by decide +kernel
theorem d_9_count_157 : decode prog_1_method_26_code 157 = .ok (.ireturn, 1) := by decide +kernel
theorem d_9_count_158 : decode prog_1_method_26_code 158 = .ok (.aload_n 0, 1) := by decide +kernel
theorem d_9_count_159 : decode prog_1_method_26_code 159 = .ok (.getfield 26, 3) := by decide +kernel
theorem d_9_count_162 : decode prog_1_method_26_code 162 = .ok (.getfield 174, 3) := by decide +kernel
theorem d_9_count_165 : decode prog_1_method_26_code 165 = .ok (.iconst 5, 1) := by decide +kernel
theorem d_9_count_166 : decode prog_1_method_26_code 166 = .ok (.iaload, 1) := by decide +kernel
theorem d_9_count_167 : decode prog_1_method_26_code 167 = .ok (.ireturn, 1) := by decide +kernel
theorem d_9_count_168 : decode prog_1_method_26_code 168 = .ok (.aload_n 0, 1) := by decide +kernel
theorem d_9_count_169 : decode prog_1_method_26_code 169 = .ok (.getfield 26, 3) := by decide +kernel
theorem d_9_count_172 : decode prog_1_method_26_code 172 = .ok (.invokevirtual 134, 3) := by decide +kernel
theorem d_9_count_175 : decode prog_1_method_26_code 175 = .ok (.ireturn, 1) := by decide +kernel
theorem d_9_count_176 : decode prog_1_method_26_code 176 = .ok (.aload_n 0, 1) := by decide +kernel
theorem d_9_count_177 : decode prog_1_method_26_code 177 = .ok (.getfield 26, 3) := by decide +kernel
theorem d_9_count_180 : decode prog_1_method_26_code 180 = .ok (.getfield 227, 3) := by decide +kernel
theorem d_9_count_183 : decode prog_1_method_26_code 183 = .ok (.ireturn, 1) := by decide +kernel
theorem d_9_count_184 : decode prog_1_method_26_code 184 = .ok (.aload_n 0, 1) := by decide +kernel
theorem d_9_count_185 : decode prog_1_method_26_code 185 = .ok (.getfield 26, 3) := by decide +kernel
theorem d_9_count_188 : decode prog_1_method_26_code 188 = .ok (.getfield 280, 3) := by decide +kernel
theorem d_9_count_191 : decode prog_1_method_26_code 191 = .ok (.ireturn, 1) := by decide +kernel
theorem d_9_count_192 : decode prog_1_method_26_code 192 = .ok (.aload_n 0, 1) := by decide +kernel
theorem d_9_count_193 : decode prog_1_method_26_code 193 = .ok (.getfield 10, 3) := by decide +kernel
theorem d_9_count_196 : decode prog_1_method_26_code 196 = .ok (.getfield 63, 3) := by decide +kernel
theorem d_9_count_199 : decode prog_1_method_26_code 199 = .ok (.ireturn, 1) := by decide +kernel
theorem d_9_count_200 : decode prog_1_method_26_code 200 = .ok (.aload_n 0, 1) := by decide +kernel
theorem d_9_count_201 : decode prog_1_method_26_code 201 = .ok (.getfield 42, 3) := by decide +kernel
theorem d_9_count_204 : decode prog_1_method_26_code 204 = .ok (.getfield 268, 3) := by decide +kernel
theorem d_9_count_207 : decode prog_1_method_26_code 207 = .ok (.ireturn, 1) := by decide +kernel
theorem d_9_count_208 : decode prog_1_method_26_code 208 = .ok (.iconst (-1), 1) := by decide +kernel
theorem d_9_count_209 : decode prog_1_method_26_code 209 = .ok (.ireturn, 1) := by decide +kernel
def m_9_count (r0 : Nat) (x1 : Int32) (Q : Int32 → St → Prop) (σ : St) : Prop :=
  (((x1.toInt < 0 ∨ 14 < x1.toInt) → Q (-1 : Int32) σ) ∧ (x1 = 0 → Q (σ.1 (r0 + 7) 1) σ) ∧ (x1 = 1 → Q (σ.1 (r0 + 7) 3) σ) ∧ (x1 = 2 → vp_in (0 : Int32) 6 ∧ Q (σ.1 ((r0 + 7) + 3) ((0 : Int32)).toNatClampNeg) σ) ∧ (x1 = 3 → Q (σ.1 (r0 + 7) 6) σ) ∧ (x1 = 4 → Q (σ.1 (r0 + 7) 7) σ) ∧ (x1 = 5 → vp_in (1 : Int32) 6 ∧ Q (σ.1 ((r0 + 7) + 3) ((1 : Int32)).toNatClampNeg) σ) ∧ (x1 = 6 → vp_in (2 : Int32) 6 ∧ Q (σ.1 ((r0 + 7) + 3) ((2 : Int32)).toNatClampNeg) σ) ∧ (x1 = 7 → vp_in (3 : Int32) 6 ∧ Q (σ.1 ((r0 + 7) + 3) ((3 : Int32)).toNatClampNeg) σ) ∧ (x1 = 8 → vp_in (4 : Int32) 6 ∧ Q (σ.1 ((r0 + 7) + 3) ((4 : Int32)).toNatClampNeg) σ) ∧ (x1 = 9 → vp_in (5 : Int32) 6 ∧ Q (σ.1 ((r0 + 7) + 3) ((5 : Int32)).toNatClampNeg) σ) ∧ (x1 = 10 → m_8_grip (r0 + 7) (fun (v_3 : Int32) (σ_2 : St) => Q v_3 σ_2) σ) ∧ (x1 = 11 → Q (σ.1 (r0 + 7) 10) σ) ∧ (x1 = 12 → Q (σ.1 (r0 + 7) 11) σ) ∧ (x1 = 13 → Q (σ.1 (r0 + 1) 1) σ) ∧ (x1 = 14 → Q (σ.1 (r0 + 42) 2) σ))
section MB
variable {p : Program} {l : Launch} {e : Env} {R : Room} {s : State} {m : MethodId} {args : Array Value} {below : List Frame} {meth : Method} {c : Code} {cells slots : Nat} {QW : State → Prop}
variable {D : va_G} {ac : Nat → ClassId} {ad st : Nat → Nat} {A : Nat → Prop}
set_option maxHeartbeats 4000000 in
set_option maxRecDepth 100000 in
theorem w_8_dirtOnStreets_4 {r0 : Nat} {Q : Int32 → St → Prop} {B4 : Int32 → Int32 → St → Prop} {x1 : Int32} {x2 : Int32} {σ : St} {H : Heap} {locs : List Loc} {ls : Array Slot} (S : SC A D ac st p m c prog_10_method_6_code 3 s args "SweeperRounds$World" R cells slots 3 64) (hR : RtI A D ac ad p l e R s m args below meth c prog_10_method_6_code cells slots QW Q) (hk_r0 : kd r0 = 8) (hB4 : ∀ (x1 : Int32) (x2 : Int32) (σ : St) (H : Heap) (locs : List Loc) (ls : Array Slot), DG A D ac ad s σ H locs → lv_has ls 3 [(0, .ref (ad r0)), (1, .int x1), (2, .int x2)] → B4 x1 x2 σ → W p l e R s m args below meth c H locs cells slots QW (F0 m 4 ls [])) (hG : DG A D ac ad s σ H locs) (hl : lv_has ls 3 [(0, .ref (ad r0)), (1, .int x1), (2, .int x2)]) (hf : m_8_dirtOnStreets_4 r0 Q B4 x1 x2 σ) : W p l e R s m args below meth c H locs cells slots QW (F0 m 4 ls []) := by
  have hx := S.1.1
  have hb := S.1.2.1
  unfold m_8_dirtOnStreets_4 at hf
  refine lv_iload_n hx hb d_8_dirtOnStreets_4 rfl (lv_at hl 2 rfl) ?_
  refine lv_aload_n hx hb d_8_dirtOnStreets_5 rfl (lv_at hl 0 rfl) ?_
  refine gf_8_52 S hG hk_r0 d_8_dirtOnStreets_6 ?_
  refine lv_icmp_ge (tgt := 30) hx hb d_8_dirtOnStreets_9 (by decide) (fun hc => ?_) (fun hc => ?_)
  · have hf := hf.1 hc
    refine lv_iload_n hx hb d_8_dirtOnStreets_30 rfl (lv_at hl 1 rfl) ?_
    exact hR _ _ _ _ _ _ hG hf d_8_dirtOnStreets_31
  · have hf := hf.2 hc
    refine lv_iload_n hx hb d_8_dirtOnStreets_12 rfl (lv_at hl 1 rfl) ?_
    refine lv_aload_n hx hb d_8_dirtOnStreets_13 rfl (lv_at hl 0 rfl) ?_
    refine gf_8_11 S hG hk_r0 d_8_dirtOnStreets_14 ?_
    refine lv_iload_n hx hb d_8_dirtOnStreets_17 rfl (lv_at hl 2 rfl) ?_
    refine mq3 S hG (kr_8_0 hk_r0) hf.1 d_8_dirtOnStreets_18 ?_
    have hi_1 := vin_lt hf.1
    have hf := hf.2
    refine iv_8_88 S hl.1 hG (ke_23 (kr_8_0 hk_r0) hi_1) (c_6_allDirt l (ke_23 (kr_8_0 hk_r0) hi_1) hf) ⟨Nat.le_of_ble_eq_true rfl, Nat.le_of_ble_eq_true rfl⟩ (Nat.le_of_ble_eq_true rfl) d_8_dirtOnStreets_19 (fun v_3 σ_2 hf H locs hG => ?_)
    refine lv_iadd hx hb d_8_dirtOnStreets_22 ?_
    refine lv_topi (fun x1_4 ex1_4 => ?_)
    have hf := hf x1_4 ex1_4
    refine lv_istore_n (lv' := [(1, .int x1_4), (0, .ref (ad r0)), (2, .int x2)]) hx hb d_8_dirtOnStreets_23 rfl hl (by decide) rfl (fun ls hl => ?_)
    obtain ⟨x2_5, ex2_5⟩ : ∃ y : Int32, y = x2 + 1 := ⟨_, rfl⟩
    have hf := hf x2_5 ex2_5
    refine lv_iinc (v := x2_5) (lv' := [(2, .int x2_5), (1, .int x1_4), (0, .ref (ad r0))]) hx hb d_8_dirtOnStreets_24 hl (k := 2) rfl (by rw [ex2_5]; rfl) (by decide) rfl (fun ls hl => ?_)
    refine lv_goto (tgt := 4) hx hb d_8_dirtOnStreets_27 (by decide) ?_
    exact hB4 _ _ _ _ _ _  hG (lv_sub hl [2, 1, 0] rfl) hf
set_option maxHeartbeats 4000000 in
set_option maxRecDepth 100000 in
theorem lp_8_dirtOnStreets_4 {r0 : Nat} {Q : Int32 → St → Prop} (S : SC A D ac st p m c prog_10_method_6_code 3 s args "SweeperRounds$World" R cells slots 3 64) (hR : RtI A D ac ad p l e R s m args below meth c prog_10_method_6_code cells slots QW Q) (hk_r0 : kd r0 = 8) : ∀ (n : Nat) (x1 : Int32) (x2 : Int32) (σ : St) (H : Heap) (locs : List Loc) (ls : Array Slot), DG A D ac ad s σ H locs → lv_has ls 3 [(0, .ref (ad r0)), (1, .int x1), (2, .int x2)] → itN (m_8_dirtOnStreets_4 r0 Q) (fun _ _ _ => False) n x1 x2 σ → W p l e R s m args below meth c H locs cells slots QW (F0 m 4 ls []) := by
  intro n
  induction n with
  | zero =>
    intro x1 x2 σ H locs ls  hG hl hf
    exact hf.elim
  | succ n ih =>
    intro x1 x2 σ H locs ls  hG hl hf
    exact w_8_dirtOnStreets_4 S hR hk_r0  ih hG hl hf
set_option maxHeartbeats 4000000 in
set_option maxRecDepth 100000 in
theorem w_8_dirtOnStreets_0 {r0 : Nat} {Q : Int32 → St → Prop} {σ : St} {H : Heap} {locs : List Loc} {ls : Array Slot} (S : SC A D ac st p m c prog_10_method_6_code 3 s args "SweeperRounds$World" R cells slots 3 64) (hR : RtI A D ac ad p l e R s m args below meth c prog_10_method_6_code cells slots QW Q) (hk_r0 : kd r0 = 8) (hG : DG A D ac ad s σ H locs) (hl : lv_has ls 3 [(0, .ref (ad r0))]) (hf : m_8_dirtOnStreets r0 Q σ) : W p l e R s m args below meth c H locs cells slots QW (F0 m 0 ls []) := by
  have hx := S.1.1
  have hb := S.1.2.1
  unfold m_8_dirtOnStreets at hf
  refine lv_iconst (v := (0 : Int32)) hx hb d_8_dirtOnStreets_0 (by decide) ?_
  refine lv_istore_n (lv' := [(1, .int (0 : Int32)), (0, .ref (ad r0))]) hx hb d_8_dirtOnStreets_1 rfl hl (by decide) rfl (fun ls hl => ?_)
  refine lv_iconst (v := (0 : Int32)) hx hb d_8_dirtOnStreets_2 (by decide) ?_
  refine lv_istore_n (lv' := [(2, .int (0 : Int32)), (1, .int (0 : Int32)), (0, .ref (ad r0))]) hx hb d_8_dirtOnStreets_3 rfl hl (by decide) rfl (fun ls hl => ?_)
  exact lp_8_dirtOnStreets_4 S hR hk_r0  FU _ _ _ _ _ _  hG (lv_sub hl [2, 1, 0] rfl) hf
theorem c_8_dirtOnStreets (l : Launch) {D : va_G} {ac : Nat → ClassId} {ad st : Nat → Nat} {A : Nat → Prop} {σ : St} {r0 : Nat} {Q : Int32 → St → Prop} (hk_r0 : kd r0 = 8) (hf : m_8_dirtOnStreets r0 Q σ) : Met l y_8_dirtOnStreets (Cond.code y_8_dirtOnStreets prog_10_method_6_code 3 (some .int) :: wA) { frames := 3, cells := 0, slots := 0, locals := 64 } (va_Pc [.ref (ad r0)] (GSt A D ac ad st σ)) (va_Qi Q (GSt A D ac ad st) A) 0 0 A :=
  mkI l (by decide +kernel) rfl [.ref (ad r0)] (Nat.le_of_ble_eq_true rfl) (fun p e s m args below meth c ls QW S hR hG hl => w_8_dirtOnStreets_0 S hR hk_r0 hG hl hf)
set_option maxHeartbeats 4000000 in
set_option maxRecDepth 100000 in
theorem w_9_night_0 {r0 : Nat} {x1 : Int32} {Q : Int32 → St → Prop} {σ : St} {H : Heap} {locs : List Loc} {ls : Array Slot} (S : SC A D ac st p m c prog_1_method_17_code 2 s args "SweeperRounds" R cells slots 4 86) (hR : RtI A D ac ad p l e R s m args below meth c prog_1_method_17_code cells slots QW Q) (hk_r0 : kd r0 = 9) (hG : DG A D ac ad s σ H locs) (hl : lv_has ls 2 [(0, .ref (ad r0)), (1, .int x1)]) (hf : m_9_night r0 x1 Q σ) : W p l e R s m args below meth c H locs cells slots QW (F0 m 0 ls []) := by
  have hx := S.1.1
  have hb := S.1.2.1
  unfold m_9_night at hf
  refine lv_iload_n hx hb d_9_night_0 rfl (lv_at hl 1 rfl) ?_
  refine lv_iconst (v := (1 : Int32)) hx hb d_9_night_1 (by decide) ?_
  refine lv_icmp_lt (tgt := 11) hx hb d_9_night_2 (by decide) (fun hc => ?_) (fun hc => ?_)
  · have hf := hf.1 hc
    refine lv_iconst (v := (-1 : Int32)) hx hb d_9_night_11 (by decide) ?_
    exact hR _ _ _ _ _ _ hG hf d_9_night_12
  · have hf := hf.2 hc
    refine lv_iload_n hx hb d_9_night_5 rfl (lv_at hl 1 rfl) ?_
    refine lv_bipush (v := (30 : Int32)) hx hb d_9_night_6 (by decide) ?_
    refine lv_icmp_le (tgt := 13) hx hb d_9_night_8 (by decide) (fun hc => ?_) (fun hc => ?_)
    · have hf := hf.1 hc
      refine lv_aload_n hx hb d_9_night_13 rfl (lv_at hl 0 rfl) ?_
      refine gf_9_42 S hG hk_r0 d_9_night_14 ?_
      refine lv_aload_n hx hb d_9_night_17 rfl (lv_at hl 0 rfl) ?_
      refine gf_9_26 S hG hk_r0 d_9_night_18 ?_
      refine iv_9_80 S hl.1 hG (kr_9_4 hk_r0) (c_0_remember l (kr_9_4 hk_r0) (kr_9_2 hk_r0) hf) ⟨Nat.le_of_ble_eq_true rfl, Nat.le_of_ble_eq_true rfl⟩ (Nat.le_of_ble_eq_true rfl) d_9_night_21 (fun σ_1 hf H locs hG => ?_)
      refine lv_aload_n hx hb d_9_night_24 rfl (lv_at hl 0 rfl) ?_
      refine gf_9_26 S hG hk_r0 d_9_night_25 ?_
      refine lv_iload_n hx hb d_9_night_28 rfl (lv_at hl 1 rfl) ?_
      refine iv_9_218 S hl.1 hG (kr_9_2 hk_r0) (c_8_passNights l (kr_9_2 hk_r0) hf) ⟨Nat.le_of_ble_eq_true rfl, Nat.le_of_ble_eq_true rfl⟩ (Nat.le_of_ble_eq_true rfl) d_9_night_29 (fun σ_3 hf H locs hG => ?_)
      refine lv_aload_n hx hb d_9_night_32 rfl (lv_at hl 0 rfl) ?_
      refine gf_9_26 S hG hk_r0 d_9_night_33 ?_
      refine iv_9_221 S hl.1 hG (kr_9_2 hk_r0) (c_8_dirtOnStreets l (kr_9_2 hk_r0) hf) ⟨Nat.le_of_ble_eq_true rfl, Nat.le_of_ble_eq_true rfl⟩ (Nat.le_of_ble_eq_true rfl) d_9_night_36 (fun v_6 σ_5 hf H locs hG => ?_)
      exact hR _ _ _ _ _ _ hG hf d_9_night_39
    · have hf := hf.2 hc
      refine lv_iconst (v := (-1 : Int32)) hx hb d_9_night_11 (by decide) ?_
      exact hR _ _ _ _ _ _ hG hf d_9_night_12
theorem c_9_night (l : Launch) {D : va_G} {ac : Nat → ClassId} {ad st : Nat → Nat} {A : Nat → Prop} {σ : St} {r0 : Nat} {x1 : Int32} {Q : Int32 → St → Prop} (hk_r0 : kd r0 = 9) (hf : m_9_night r0 x1 Q σ) : Met l y_9_night (Cond.code y_9_night prog_1_method_17_code 2 (some .int) :: wA) { frames := 4, cells := 0, slots := 0, locals := 86 } (va_Pc [.ref (ad r0), .int x1] (GSt A D ac ad st σ)) (va_Qi Q (GSt A D ac ad st) A) 0 0 A :=
  mkI l (by decide +kernel) rfl [.ref (ad r0), .int x1] (Nat.le_of_ble_eq_true rfl) (fun p e s m args below meth c ls QW S hR hG hl => w_9_night_0 S hR hk_r0 hG hl hf)
set_option maxHeartbeats 4000000 in
set_option maxRecDepth 100000 in
theorem w_6_washSide_49 {r0 : Nat} {x1 : Int32} {x2 : Int32} {x3 : Int32} {x4 : Int32} {x5 : Int32} {B10 : Int32 → Int32 → St → Prop} {Q : Int32 → St → Prop} {t0 : Int32} {σ : St} {H : Heap} {locs : List Loc} {ls : Array Slot} (S : SC A D ac st p m c prog_8_method_10_code 7 s args "SweeperRounds$Street" R cells slots 2 38) (hR : RtI A D ac ad p l e R s m args below meth c prog_8_method_10_code cells slots QW Q) (hk_r0 : kd r0 = 6) (hB10 : ∀ (x3 : Int32) (x4 : Int32) (σ : St) (H : Heap) (locs : List Loc) (ls : Array Slot), DG A D ac ad s σ H locs → lv_has ls 7 [(0, .ref (ad r0)), (1, .int x1), (2, .int x2), (3, .int x3), (4, .int x4)] → B10 x3 x4 σ → W p l e R s m args below meth c H locs cells slots QW (F0 m 10 ls [])) (hG : DG A D ac ad s σ H locs) (hl : lv_has ls 7 [(0, .ref (ad r0)), (1, .int x1), (2, .int x2), (3, .int x3), (4, .int x4), (5, .int x5)]) (hf : m_6_washSide_49 r0 x1 x2 x3 x4 x5 B10 Q t0 σ) : W p l e R s m args below meth c H locs cells slots QW (F0 m 49 ls [.int t0]) := by
  have hx := S.1.1
  have hb := S.1.2.1
  unfold m_6_washSide_49 at hf
  refine lv_istore (lv' := [(6, .int t0), (0, .ref (ad r0)), (1, .int x1), (2, .int x2), (3, .int x3), (4, .int x4), (5, .int x5)]) hx hb d_6_washSide_49 hl (by decide) rfl (fun ls hl => ?_)
  refine lv_aload_n hx hb d_6_washSide_51 rfl (lv_at hl 1 rfl) ?_
  refine gf_6_9 S hG hk_r0 d_6_washSide_52 ?_
  refine lv_iload hx hb d_6_washSide_55 (lv_at hl 6 rfl) ?_
  refine lv_dup2_11 hx hb d_6_washSide_57 rfl rfl ?_
  refine mia S hG 20 rfl rfl (kr_6_3 hk_r0) hf.1 d_6_washSide_58 ?_
  have hf := hf.2
  refine lv_iload hx hb d_6_washSide_59 (lv_at hl 0 rfl) ?_
  refine lv_isub hx hb d_6_washSide_61 ?_
  refine mis S hG 20 rfl rfl (kr_6_3 hk_r0) hf.1 d_6_washSide_62 (fun σ_1 eσ_1 H locs hG => ?_)
  have hf := hf.2 σ_1 eσ_1
  refine lv_iload_n hx hb d_6_washSide_63 rfl (lv_at hl 4 rfl) ?_
  refine lv_iload hx hb d_6_washSide_64 (lv_at hl 5 rfl) ?_
  refine lv_aload_n hx hb d_6_washSide_66 rfl (lv_at hl 1 rfl) ?_
  refine gf_6_19 S hG hk_r0 d_6_washSide_67 ?_
  refine lv_iconst (v := (1 : Int32)) hx hb d_6_washSide_70 (by decide) ?_
  refine lv_isub hx hb d_6_washSide_71 ?_
  refine lv_icmp_ne (tgt := 80) hx hb d_6_washSide_72 (by decide) (fun hc => ?_) (fun hc => ?_)
  · have hf := hf.1 hc
    refine lv_aload_n hx hb d_6_washSide_80 rfl (lv_at hl 1 rfl) ?_
    refine lv_iload hx hb d_6_washSide_81 (lv_at hl 6 rfl) ?_
    refine lv_iconst (v := (1 : Int32)) hx hb d_6_washSide_83 (by decide) ?_
    refine lv_iadd hx hb d_6_washSide_84 ?_
    refine lv_iload hx hb d_6_washSide_85 (lv_at hl 0 rfl) ?_
    refine iv_6_45 S hl.1 hG hk_r0 (c_6_putDirt l hk_r0 hf) ⟨Nat.le_of_ble_eq_true rfl, Nat.le_of_ble_eq_true rfl⟩ (Nat.le_of_ble_eq_true rfl) d_6_washSide_87 (fun v_3 σ_2 hf H locs hG => ?_)
    refine lv_iadd hx hb d_6_washSide_90 ?_
    refine lv_topi (fun x3_4 ex3_4 => ?_)
    have hf := hf x3_4 ex3_4
    refine lv_istore_n (lv' := [(3, .int x3_4), (6, .int t0), (0, .ref (ad r0)), (1, .int x1), (2, .int x2), (4, .int x4), (5, .int x5)]) hx hb d_6_washSide_91 rfl hl (by decide) rfl (fun ls hl => ?_)
    obtain ⟨x4_5, ex4_5⟩ : ∃ y : Int32, y = x4 + (-1) := ⟨_, rfl⟩
    have hf := hf x4_5 ex4_5
    refine lv_iinc (v := x4_5) (lv' := [(4, .int x4_5), (3, .int x3_4), (6, .int t0), (0, .ref (ad r0)), (1, .int x1), (2, .int x2), (5, .int x5)]) hx hb d_6_washSide_92 hl (k := 5) rfl (by rw [ex4_5]; rfl) (by decide) rfl (fun ls hl => ?_)
    refine lv_goto (tgt := 10) hx hb d_6_washSide_95 (by decide) ?_
    exact hB10 _ _ _ _ _ _  hG (lv_sub hl [3, 4, 5, 1, 0] rfl) hf
  · have hf := hf.2 hc
    refine lv_iload hx hb d_6_washSide_75 (lv_at hl 0 rfl) ?_
    refine lv_goto (tgt := 90) hx hb d_6_washSide_77 (by decide) ?_
    refine lv_iadd hx hb d_6_washSide_90 ?_
    refine lv_topi (fun x3_6 ex3_6 => ?_)
    have hf := hf x3_6 ex3_6
    refine lv_istore_n (lv' := [(3, .int x3_6), (6, .int t0), (0, .ref (ad r0)), (1, .int x1), (2, .int x2), (4, .int x4), (5, .int x5)]) hx hb d_6_washSide_91 rfl hl (by decide) rfl (fun ls hl => ?_)
    obtain ⟨x4_7, ex4_7⟩ : ∃ y : Int32, y = x4 + (-1) := ⟨_, rfl⟩
    have hf := hf x4_7 ex4_7
    refine lv_iinc (v := x4_7) (lv' := [(4, .int x4_7), (3, .int x3_6), (6, .int t0), (0, .ref (ad r0)), (1, .int x1), (2, .int x2), (5, .int x5)]) hx hb d_6_washSide_92 hl (k := 5) rfl (by rw [ex4_7]; rfl) (by decide) rfl (fun ls hl => ?_)
    refine lv_goto (tgt := 10) hx hb d_6_washSide_95 (by decide) ?_
    exact hB10 _ _ _ _ _ _  hG (lv_sub hl [3, 4, 5, 1, 0] rfl) hf
set_option maxHeartbeats 4000000 in
set_option maxRecDepth 100000 in
theorem w_6_washSide_10 {r0 : Nat} {x1 : Int32} {x2 : Int32} {Q : Int32 → St → Prop} {B10 : Int32 → Int32 → St → Prop} {x3 : Int32} {x4 : Int32} {σ : St} {H : Heap} {locs : List Loc} {ls : Array Slot} (S : SC A D ac st p m c prog_8_method_10_code 7 s args "SweeperRounds$Street" R cells slots 2 38) (hR : RtI A D ac ad p l e R s m args below meth c prog_8_method_10_code cells slots QW Q) (hk_r0 : kd r0 = 6) (hB10 : ∀ (x3 : Int32) (x4 : Int32) (σ : St) (H : Heap) (locs : List Loc) (ls : Array Slot), DG A D ac ad s σ H locs → lv_has ls 7 [(0, .ref (ad r0)), (1, .int x1), (2, .int x2), (3, .int x3), (4, .int x4)] → B10 x3 x4 σ → W p l e R s m args below meth c H locs cells slots QW (F0 m 10 ls [])) (hG : DG A D ac ad s σ H locs) (hl : lv_has ls 7 [(0, .ref (ad r0)), (1, .int x1), (2, .int x2), (3, .int x3), (4, .int x4)]) (hf : m_6_washSide_10 r0 x1 x2 Q B10 x3 x4 σ) : W p l e R s m args below meth c H locs cells slots QW (F0 m 10 ls []) := by
  have hx := S.1.1
  have hb := S.1.2.1
  unfold m_6_washSide_10 at hf
  refine lv_iload hx hb d_6_washSide_10 (lv_at hl 4 rfl) ?_
  refine lv_if_lt (tgt := 98) hx hb d_6_washSide_12 (by decide) (fun hc => ?_) (fun hc => ?_)
  · have hf := hf.1 hc
    refine lv_iload_n hx hb d_6_washSide_98 rfl (lv_at hl 3 rfl) ?_
    exact hR _ _ _ _ _ _ hG hf d_6_washSide_99
  · have hf := hf.2 hc
    refine lv_iload_n hx hb d_6_washSide_15 rfl (lv_at hl 1 rfl) ?_
    refine lv_iload hx hb d_6_washSide_16 (lv_at hl 4 rfl) ?_
    refine iv_6_29 S hl.1 hG  (c_9_placeOf l  hf) ⟨Nat.le_of_ble_eq_true rfl, Nat.le_of_ble_eq_true rfl⟩ (Nat.le_of_ble_eq_true rfl) d_6_washSide_18 (fun v_2 σ_1 hf H locs hG => ?_)
    refine lv_istore (lv' := [(5, .int v_2), (0, .ref (ad r0)), (1, .int x1), (2, .int x2), (3, .int x3), (4, .int x4)]) hx hb d_6_washSide_21 hl (by decide) rfl (fun ls hl => ?_)
    refine lv_aload_n hx hb d_6_washSide_23 rfl (lv_at hl 1 rfl) ?_
    refine gf_6_15 S hG hk_r0 d_6_washSide_24 ?_
    refine lv_iload hx hb d_6_washSide_27 (lv_at hl 0 rfl) ?_
    refine mza S hG (kr_6_4 hk_r0) hf.1 d_6_washSide_29 ?_
    have hf := hf.2
    refine lv_if_eq (tgt := 37) hx hb d_6_washSide_30 (by decide) (fun hc => ?_) (fun hc => ?_)
    · have hf := hf.1 hc
      refine lv_aload_n hx hb d_6_washSide_37 rfl (lv_at hl 1 rfl) ?_
      refine gf_6_9 S hG hk_r0 d_6_washSide_38 ?_
      refine lv_iload hx hb d_6_washSide_41 (lv_at hl 0 rfl) ?_
      refine mia S hG 20 rfl rfl (kr_6_3 hk_r0) hf.1 d_6_washSide_43 ?_
      have hf := hf.2
      refine lv_iload_n hx hb d_6_washSide_44 rfl (lv_at hl 3 rfl) ?_
      refine lv_imul hx hb d_6_washSide_45 ?_
      refine lv_bipush (v := (100 : Int32)) hx hb d_6_washSide_46 (by decide) ?_
      refine lv_idiv hx hb d_6_washSide_48 (by decide) ?_
      exact w_6_washSide_49 S hR hk_r0   hB10 hG (lv_sub hl [1, 2, 3, 4, 5, 0] rfl) hf
    · have hf := hf.2 hc
      refine lv_iconst (v := (0 : Int32)) hx hb d_6_washSide_33 (by decide) ?_
      refine lv_goto (tgt := 49) hx hb d_6_washSide_34 (by decide) ?_
      exact w_6_washSide_49 S hR hk_r0   hB10 hG (lv_sub hl [1, 2, 3, 4, 5, 0] rfl) hf
set_option maxHeartbeats 4000000 in
set_option maxRecDepth 100000 in
theorem lp_6_washSide_10 {r0 : Nat} {x1 : Int32} {x2 : Int32} {Q : Int32 → St → Prop} (S : SC A D ac st p m c prog_8_method_10_code 7 s args "SweeperRounds$Street" R cells slots 2 38) (hR : RtI A D ac ad p l e R s m args below meth c prog_8_method_10_code cells slots QW Q) (hk_r0 : kd r0 = 6) : ∀ (n : Nat) (x3 : Int32) (x4 : Int32) (σ : St) (H : Heap) (locs : List Loc) (ls : Array Slot), DG A D ac ad s σ H locs → lv_has ls 7 [(0, .ref (ad r0)), (1, .int x1), (2, .int x2), (3, .int x3), (4, .int x4)] → itN (m_6_washSide_10 r0 x1 x2 Q) (fun _ _ _ => False) n x3 x4 σ → W p l e R s m args below meth c H locs cells slots QW (F0 m 10 ls []) := by
  intro n
  induction n with
  | zero =>
    intro x3 x4 σ H locs ls  hG hl hf
    exact hf.elim
  | succ n ih =>
    intro x3 x4 σ H locs ls  hG hl hf
    exact w_6_washSide_10 S hR hk_r0  ih hG hl hf
set_option maxHeartbeats 4000000 in
set_option maxRecDepth 100000 in
theorem w_6_washSide_0 {r0 : Nat} {x1 : Int32} {x2 : Int32} {Q : Int32 → St → Prop} {σ : St} {H : Heap} {locs : List Loc} {ls : Array Slot} (S : SC A D ac st p m c prog_8_method_10_code 7 s args "SweeperRounds$Street" R cells slots 2 38) (hR : RtI A D ac ad p l e R s m args below meth c prog_8_method_10_code cells slots QW Q) (hk_r0 : kd r0 = 6) (hG : DG A D ac ad s σ H locs) (hl : lv_has ls 7 [(0, .ref (ad r0)), (1, .int x1), (2, .int x2)]) (hf : m_6_washSide r0 x1 x2 Q σ) : W p l e R s m args below meth c H locs cells slots QW (F0 m 0 ls []) := by
  have hx := S.1.1
  have hb := S.1.2.1
  unfold m_6_washSide at hf
  refine lv_iconst (v := (0 : Int32)) hx hb d_6_washSide_0 (by decide) ?_
  refine lv_istore_n (lv' := [(3, .int (0 : Int32)), (0, .ref (ad r0)), (1, .int x1), (2, .int x2)]) hx hb d_6_washSide_1 rfl hl (by decide) rfl (fun ls hl => ?_)
  refine lv_aload_n hx hb d_6_washSide_2 rfl (lv_at hl 1 rfl) ?_
  refine gf_6_19 S hG hk_r0 d_6_washSide_3 ?_
  refine lv_iconst (v := (1 : Int32)) hx hb d_6_washSide_6 (by decide) ?_
  refine lv_isub hx hb d_6_washSide_7 ?_
  refine lv_topi (fun x4_1 ex4_1 => ?_)
  have hf := hf x4_1 ex4_1
  refine lv_istore (lv' := [(4, .int x4_1), (3, .int (0 : Int32)), (0, .ref (ad r0)), (1, .int x1), (2, .int x2)]) hx hb d_6_washSide_8 hl (by decide) rfl (fun ls hl => ?_)
  exact lp_6_washSide_10 S hR hk_r0  FU _ _ _ _ _ _  hG (lv_sub hl [2, 3, 4, 1, 0] rfl) hf
theorem c_6_washSide (l : Launch) {D : va_G} {ac : Nat → ClassId} {ad st : Nat → Nat} {A : Nat → Prop} {σ : St} {r0 : Nat} {x1 : Int32} {x2 : Int32} {Q : Int32 → St → Prop} (hk_r0 : kd r0 = 6) (hf : m_6_washSide r0 x1 x2 Q σ) : Met l y_6_washSide (Cond.code y_6_washSide prog_8_method_10_code 7 (some .int) :: wA) { frames := 2, cells := 0, slots := 0, locals := 38 } (va_Pc [.ref (ad r0), .int x1, .int x2] (GSt A D ac ad st σ)) (va_Qi Q (GSt A D ac ad st) A) 0 0 A :=
  mkI l (by decide +kernel) rfl [.ref (ad r0), .int x1, .int x2] (Nat.le_of_ble_eq_true rfl) (fun p e s m args below meth c ls QW S hR hG hl => w_6_washSide_0 S hR hk_r0 hG hl hf)
set_option maxHeartbeats 4000000 in
set_option maxRecDepth 100000 in
theorem w_8_washStreets_4 {r0 : Nat} {x1 : Int32} {Q : Int32 → St → Prop} {B4 : Int32 → Int32 → St → Prop} {x2 : Int32} {x3 : Int32} {σ : St} {H : Heap} {locs : List Loc} {ls : Array Slot} (S : SC A D ac st p m c prog_10_method_21_code 4 s args "SweeperRounds$World" R cells slots 3 64) (hR : RtI A D ac ad p l e R s m args below meth c prog_10_method_21_code cells slots QW Q) (hk_r0 : kd r0 = 8) (hB4 : ∀ (x2 : Int32) (x3 : Int32) (σ : St) (H : Heap) (locs : List Loc) (ls : Array Slot), DG A D ac ad s σ H locs → lv_has ls 4 [(0, .ref (ad r0)), (1, .int x1), (2, .int x2), (3, .int x3)] → B4 x2 x3 σ → W p l e R s m args below meth c H locs cells slots QW (F0 m 4 ls [])) (hG : DG A D ac ad s σ H locs) (hl : lv_has ls 4 [(0, .ref (ad r0)), (1, .int x1), (2, .int x2), (3, .int x3)]) (hf : m_8_washStreets_4 r0 x1 Q B4 x2 x3 σ) : W p l e R s m args below meth c H locs cells slots QW (F0 m 4 ls []) := by
  have hx := S.1.1
  have hb := S.1.2.1
  unfold m_8_washStreets_4 at hf
  refine lv_iload_n hx hb d_8_washStreets_4 rfl (lv_at hl 3 rfl) ?_
  refine lv_aload_n hx hb d_8_washStreets_5 rfl (lv_at hl 0 rfl) ?_
  refine gf_8_52 S hG hk_r0 d_8_washStreets_6 ?_
  refine lv_icmp_ge (tgt := 44) hx hb d_8_washStreets_9 (by decide) (fun hc => ?_) (fun hc => ?_)
  · have hf := hf.1 hc
    refine lv_aload_n hx hb d_8_washStreets_44 rfl (lv_at hl 0 rfl) ?_
    refine gf_8_27 S hG hk_r0 d_8_washStreets_45 ?_
    refine lv_iconst (v := (4 : Int32)) hx hb d_8_washStreets_48 (by decide) ?_
    refine lv_dup2_11 hx hb d_8_washStreets_49 rfl rfl ?_
    refine mia S hG 27 rfl rfl (kr_8_8 hk_r0) hf.1 d_8_washStreets_50 ?_
    have hf := hf.2
    refine lv_iload_n hx hb d_8_washStreets_51 rfl (lv_at hl 2 rfl) ?_
    refine lv_iadd hx hb d_8_washStreets_52 ?_
    refine mis S hG 27 rfl rfl (kr_8_8 hk_r0) hf.1 d_8_washStreets_53 (fun σ_1 eσ_1 H locs hG => ?_)
    have hf := hf.2 σ_1 eσ_1
    refine lv_iload_n hx hb d_8_washStreets_54 rfl (lv_at hl 2 rfl) ?_
    exact hR _ _ _ _ _ _ hG hf d_8_washStreets_55
  · have hf := hf.2 hc
    refine lv_iload_n hx hb d_8_washStreets_12 rfl (lv_at hl 2 rfl) ?_
    refine lv_aload_n hx hb d_8_washStreets_13 rfl (lv_at hl 0 rfl) ?_
    refine gf_8_11 S hG hk_r0 d_8_washStreets_14 ?_
    refine lv_iload_n hx hb d_8_washStreets_17 rfl (lv_at hl 3 rfl) ?_
    refine mq3 S hG (kr_8_0 hk_r0) hf.1 d_8_washStreets_18 ?_
    have hi_2 := vin_lt hf.1
    have hf := hf.2
    refine lv_iconst (v := (0 : Int32)) hx hb d_8_washStreets_19 (by decide) ?_
    refine lv_iload_n hx hb d_8_washStreets_20 rfl (lv_at hl 1 rfl) ?_
    refine iv_8_133 S hl.1 hG (ke_23 (kr_8_0 hk_r0) hi_2) (c_6_washSide l (ke_23 (kr_8_0 hk_r0) hi_2) hf) ⟨Nat.le_of_ble_eq_true rfl, Nat.le_of_ble_eq_true rfl⟩ (Nat.le_of_ble_eq_true rfl) d_8_washStreets_21 (fun v_4 σ_3 hf H locs hG => ?_)
    refine lv_aload_n hx hb d_8_washStreets_24 rfl (lv_at hl 0 rfl) ?_
    refine gf_8_11 S hG hk_r0 d_8_washStreets_25 ?_
    refine lv_iload_n hx hb d_8_washStreets_28 rfl (lv_at hl 3 rfl) ?_
    refine mq3 S hG (kr_8_0 hk_r0) hf.1 d_8_washStreets_29 ?_
    have hi_5 := vin_lt hf.1
    have hf := hf.2
    refine lv_iconst (v := (1 : Int32)) hx hb d_8_washStreets_30 (by decide) ?_
    refine lv_iload_n hx hb d_8_washStreets_31 rfl (lv_at hl 1 rfl) ?_
    refine iv_8_133 S hl.1 hG (ke_23 (kr_8_0 hk_r0) hi_5) (c_6_washSide l (ke_23 (kr_8_0 hk_r0) hi_5) hf) ⟨Nat.le_of_ble_eq_true rfl, Nat.le_of_ble_eq_true rfl⟩ (Nat.le_of_ble_eq_true rfl) d_8_washStreets_32 (fun v_7 σ_6 hf H locs hG => ?_)
    refine lv_iadd hx hb d_8_washStreets_35 ?_
    refine lv_iadd hx hb d_8_washStreets_36 ?_
    refine lv_topi (fun x2_8 ex2_8 => ?_)
    have hf := hf x2_8 ex2_8
    refine lv_istore_n (lv' := [(2, .int x2_8), (0, .ref (ad r0)), (1, .int x1), (3, .int x3)]) hx hb d_8_washStreets_37 rfl hl (by decide) rfl (fun ls hl => ?_)
    obtain ⟨x3_9, ex3_9⟩ : ∃ y : Int32, y = x3 + 1 := ⟨_, rfl⟩
    have hf := hf x3_9 ex3_9
    refine lv_iinc (v := x3_9) (lv' := [(3, .int x3_9), (2, .int x2_8), (0, .ref (ad r0)), (1, .int x1)]) hx hb d_8_washStreets_38 hl (k := 3) rfl (by rw [ex3_9]; rfl) (by decide) rfl (fun ls hl => ?_)
    refine lv_goto (tgt := 4) hx hb d_8_washStreets_41 (by decide) ?_
    exact hB4 _ _ _ _ _ _  hG (lv_sub hl [2, 3, 1, 0] rfl) hf
set_option maxHeartbeats 4000000 in
set_option maxRecDepth 100000 in
theorem lp_8_washStreets_4 {r0 : Nat} {x1 : Int32} {Q : Int32 → St → Prop} (S : SC A D ac st p m c prog_10_method_21_code 4 s args "SweeperRounds$World" R cells slots 3 64) (hR : RtI A D ac ad p l e R s m args below meth c prog_10_method_21_code cells slots QW Q) (hk_r0 : kd r0 = 8) : ∀ (n : Nat) (x2 : Int32) (x3 : Int32) (σ : St) (H : Heap) (locs : List Loc) (ls : Array Slot), DG A D ac ad s σ H locs → lv_has ls 4 [(0, .ref (ad r0)), (1, .int x1), (2, .int x2), (3, .int x3)] → itN (m_8_washStreets_4 r0 x1 Q) (fun _ _ _ => False) n x2 x3 σ → W p l e R s m args below meth c H locs cells slots QW (F0 m 4 ls []) := by
  intro n
  induction n with
  | zero =>
    intro x2 x3 σ H locs ls  hG hl hf
    exact hf.elim
  | succ n ih =>
    intro x2 x3 σ H locs ls  hG hl hf
    exact w_8_washStreets_4 S hR hk_r0  ih hG hl hf
set_option maxHeartbeats 4000000 in
set_option maxRecDepth 100000 in
theorem w_8_washStreets_0 {r0 : Nat} {x1 : Int32} {Q : Int32 → St → Prop} {σ : St} {H : Heap} {locs : List Loc} {ls : Array Slot} (S : SC A D ac st p m c prog_10_method_21_code 4 s args "SweeperRounds$World" R cells slots 3 64) (hR : RtI A D ac ad p l e R s m args below meth c prog_10_method_21_code cells slots QW Q) (hk_r0 : kd r0 = 8) (hG : DG A D ac ad s σ H locs) (hl : lv_has ls 4 [(0, .ref (ad r0)), (1, .int x1)]) (hf : m_8_washStreets r0 x1 Q σ) : W p l e R s m args below meth c H locs cells slots QW (F0 m 0 ls []) := by
  have hx := S.1.1
  have hb := S.1.2.1
  unfold m_8_washStreets at hf
  refine lv_iconst (v := (0 : Int32)) hx hb d_8_washStreets_0 (by decide) ?_
  refine lv_istore_n (lv' := [(2, .int (0 : Int32)), (0, .ref (ad r0)), (1, .int x1)]) hx hb d_8_washStreets_1 rfl hl (by decide) rfl (fun ls hl => ?_)
  refine lv_iconst (v := (0 : Int32)) hx hb d_8_washStreets_2 (by decide) ?_
  refine lv_istore_n (lv' := [(3, .int (0 : Int32)), (2, .int (0 : Int32)), (0, .ref (ad r0)), (1, .int x1)]) hx hb d_8_washStreets_3 rfl hl (by decide) rfl (fun ls hl => ?_)
  exact lp_8_washStreets_4 S hR hk_r0  FU _ _ _ _ _ _  hG (lv_sub hl [2, 3, 1, 0] rfl) hf
theorem c_8_washStreets (l : Launch) {D : va_G} {ac : Nat → ClassId} {ad st : Nat → Nat} {A : Nat → Prop} {σ : St} {r0 : Nat} {x1 : Int32} {Q : Int32 → St → Prop} (hk_r0 : kd r0 = 8) (hf : m_8_washStreets r0 x1 Q σ) : Met l y_8_washStreets (Cond.code y_8_washStreets prog_10_method_21_code 4 (some .int) :: wA) { frames := 3, cells := 0, slots := 0, locals := 64 } (va_Pc [.ref (ad r0), .int x1] (GSt A D ac ad st σ)) (va_Qi Q (GSt A D ac ad st) A) 0 0 A :=
  mkI l (by decide +kernel) rfl [.ref (ad r0), .int x1] (Nat.le_of_ble_eq_true rfl) (fun p e s m args below meth c ls QW S hR hG hl => w_8_washStreets_0 S hR hk_r0 hG hl hf)
set_option maxHeartbeats 4000000 in
set_option maxRecDepth 100000 in
theorem w_9_rain_0 {r0 : Nat} {x1 : Int32} {Q : Int32 → St → Prop} {σ : St} {H : Heap} {locs : List Loc} {ls : Array Slot} (S : SC A D ac st p m c prog_1_method_18_code 2 s args "SweeperRounds" R cells slots 4 87) (hR : RtI A D ac ad p l e R s m args below meth c prog_1_method_18_code cells slots QW Q) (hk_r0 : kd r0 = 9) (hG : DG A D ac ad s σ H locs) (hl : lv_has ls 2 [(0, .ref (ad r0)), (1, .int x1)]) (hf : m_9_rain r0 x1 Q σ) : W p l e R s m args below meth c H locs cells slots QW (F0 m 0 ls []) := by
  have hx := S.1.1
  have hb := S.1.2.1
  unfold m_9_rain at hf
  refine lv_iload_n hx hb d_9_rain_0 rfl (lv_at hl 1 rfl) ?_
  refine lv_iconst (v := (1 : Int32)) hx hb d_9_rain_1 (by decide) ?_
  refine lv_icmp_lt (tgt := 11) hx hb d_9_rain_2 (by decide) (fun hc => ?_) (fun hc => ?_)
  · have hf := hf.1 hc
    refine lv_iconst (v := (-1 : Int32)) hx hb d_9_rain_11 (by decide) ?_
    exact hR _ _ _ _ _ _ hG hf d_9_rain_12
  · have hf := hf.2 hc
    refine lv_iload_n hx hb d_9_rain_5 rfl (lv_at hl 1 rfl) ?_
    refine lv_bipush (v := (100 : Int32)) hx hb d_9_rain_6 (by decide) ?_
    refine lv_icmp_le (tgt := 13) hx hb d_9_rain_8 (by decide) (fun hc => ?_) (fun hc => ?_)
    · have hf := hf.1 hc
      refine lv_aload_n hx hb d_9_rain_13 rfl (lv_at hl 0 rfl) ?_
      refine gf_9_42 S hG hk_r0 d_9_rain_14 ?_
      refine lv_aload_n hx hb d_9_rain_17 rfl (lv_at hl 0 rfl) ?_
      refine gf_9_26 S hG hk_r0 d_9_rain_18 ?_
      refine iv_9_80 S hl.1 hG (kr_9_4 hk_r0) (c_0_remember l (kr_9_4 hk_r0) (kr_9_2 hk_r0) hf) ⟨Nat.le_of_ble_eq_true rfl, Nat.le_of_ble_eq_true rfl⟩ (Nat.le_of_ble_eq_true rfl) d_9_rain_21 (fun σ_1 hf H locs hG => ?_)
      refine lv_aload_n hx hb d_9_rain_24 rfl (lv_at hl 0 rfl) ?_
      refine gf_9_26 S hG hk_r0 d_9_rain_25 ?_
      refine lv_iload_n hx hb d_9_rain_28 rfl (lv_at hl 1 rfl) ?_
      refine iv_9_224 S hl.1 hG (kr_9_2 hk_r0) (c_8_washStreets l (kr_9_2 hk_r0) hf) ⟨Nat.le_of_ble_eq_true rfl, Nat.le_of_ble_eq_true rfl⟩ (Nat.le_of_ble_eq_true rfl) d_9_rain_29 (fun v_4 σ_3 hf H locs hG => ?_)
      exact hR _ _ _ _ _ _ hG hf d_9_rain_32
    · have hf := hf.2 hc
      refine lv_iconst (v := (-1 : Int32)) hx hb d_9_rain_11 (by decide) ?_
      exact hR _ _ _ _ _ _ hG hf d_9_rain_12
theorem c_9_rain (l : Launch) {D : va_G} {ac : Nat → ClassId} {ad st : Nat → Nat} {A : Nat → Prop} {σ : St} {r0 : Nat} {x1 : Int32} {Q : Int32 → St → Prop} (hk_r0 : kd r0 = 9) (hf : m_9_rain r0 x1 Q σ) : Met l y_9_rain (Cond.code y_9_rain prog_1_method_18_code 2 (some .int) :: wA) { frames := 4, cells := 0, slots := 0, locals := 87 } (va_Pc [.ref (ad r0), .int x1] (GSt A D ac ad st σ)) (va_Qi Q (GSt A D ac ad st) A) 0 0 A :=
  mkI l (by decide +kernel) rfl [.ref (ad r0), .int x1] (Nat.le_of_ble_eq_true rfl) (fun p e s m args below meth c ls QW S hR hG hl => w_9_rain_0 S hR hk_r0 hG hl hf)
set_option maxHeartbeats 4000000 in
set_option maxRecDepth 100000 in
theorem w_9_latest_0 {r0 : Nat} {x1 : Int32} {Q : Int32 → St → Prop} {σ : St} {H : Heap} {locs : List Loc} {ls : Array Slot} (S : SC A D ac st p m c prog_1_method_19_code 2 s args "SweeperRounds" R cells slots 0 0) (hR : RtI A D ac ad p l e R s m args below meth c prog_1_method_19_code cells slots QW Q) (hk_r0 : kd r0 = 9) (hG : DG A D ac ad s σ H locs) (hl : lv_has ls 2 [(0, .ref (ad r0)), (1, .int x1)]) (hf : m_9_latest r0 x1 Q σ) : W p l e R s m args below meth c H locs cells slots QW (F0 m 0 ls []) := by
  have hx := S.1.1
  have hb := S.1.2.1
  unfold m_9_latest at hf
  refine lv_iload_n hx hb d_9_latest_0 rfl (lv_at hl 1 rfl) ?_
  refine lv_if_lt (tgt := 9) hx hb d_9_latest_1 (by decide) (fun hc => ?_) (fun hc => ?_)
  · have hf := hf.1 hc
    refine lv_iconst (v := (-1 : Int32)) hx hb d_9_latest_9 (by decide) ?_
    exact hR _ _ _ _ _ _ hG hf d_9_latest_10
  · have hf := hf.2 hc
    refine lv_iload_n hx hb d_9_latest_4 rfl (lv_at hl 1 rfl) ?_
    refine lv_iconst (v := (5 : Int32)) hx hb d_9_latest_5 (by decide) ?_
    refine lv_icmp_le (tgt := 11) hx hb d_9_latest_6 (by decide) (fun hc => ?_) (fun hc => ?_)
    · have hf := hf.1 hc
      refine lv_aload_n hx hb d_9_latest_11 rfl (lv_at hl 0 rfl) ?_
      refine gf_9_26 S hG hk_r0 d_9_latest_12 ?_
      refine gf_9_227 S hG (kr_9_2 hk_r0) d_9_latest_15 ?_
      refine lv_if_ne (tgt := 24) hx hb d_9_latest_18 (by decide) (fun hc => ?_) (fun hc => ?_)
      · have hf := hf.1 hc
        refine lv_iload_n hx hb d_9_latest_24 rfl (lv_at hl 1 rfl) ?_
        refine lv_topi (fun q_1 eq_1 => ?_)
        rcases sw_0_4 q_1 with hq_1 | hq_1 | hq_1 | hq_1 | hq_1 | hq_1
        · rw [eq_1] at hq_1 ⊢
          refine lv_tableOut (tgt := 115) hx hb d_9_latest_25 hq_1 (by decide) ?_
          have hf := hf.1 hq_1
          refine lv_aload_n hx hb d_9_latest_115 rfl (lv_at hl 0 rfl) ?_
          refine gf_9_26 S hG hk_r0 d_9_latest_116 ?_
          refine gf_9_211 S hG (kr_9_2 hk_r0) d_9_latest_119 ?_
          refine gf_9_242 S hG (kr_8_9 (kr_9_2 hk_r0)) d_9_latest_122 ?_
          exact hR _ _ _ _ _ _ hG hf d_9_latest_125
        · subst hq_1
          refine lv_tableIn (off := 35) (tgt := 60) hx hb d_9_latest_25 (by decide) (by decide) (by decide) (by decide) ?_
          have hf := hf.2.1 eq_1.symm
          refine lv_aload_n hx hb d_9_latest_60 rfl (lv_at hl 0 rfl) ?_
          refine gf_9_26 S hG hk_r0 d_9_latest_61 ?_
          refine gf_9_211 S hG (kr_9_2 hk_r0) d_9_latest_64 ?_
          refine gf_9_230 S hG (kr_8_9 (kr_9_2 hk_r0)) d_9_latest_67 ?_
          exact hR _ _ _ _ _ _ hG hf d_9_latest_70
        · subst hq_1
          refine lv_tableIn (off := 46) (tgt := 71) hx hb d_9_latest_25 (by decide) (by decide) (by decide) (by decide) ?_
          have hf := hf.2.2.1 eq_1.symm
          refine lv_aload_n hx hb d_9_latest_71 rfl (lv_at hl 0 rfl) ?_
          refine gf_9_26 S hG hk_r0 d_9_latest_72 ?_
          refine gf_9_211 S hG (kr_9_2 hk_r0) d_9_latest_75 ?_
          refine gf_9_233 S hG (kr_8_9 (kr_9_2 hk_r0)) d_9_latest_78 ?_
          exact hR _ _ _ _ _ _ hG hf d_9_latest_81
        · subst hq_1
          refine lv_tableIn (off := 57) (tgt := 82) hx hb d_9_latest_25 (by decide) (by decide) (by decide) (by decide) ?_
          have hf := hf.2.2.2.1 eq_1.symm
          refine lv_aload_n hx hb d_9_latest_82 rfl (lv_at hl 0 rfl) ?_
          refine gf_9_26 S hG hk_r0 d_9_latest_83 ?_
          refine gf_9_211 S hG (kr_9_2 hk_r0) d_9_latest_86 ?_
          refine gf_9_236 S hG (kr_8_9 (kr_9_2 hk_r0)) d_9_latest_89 ?_
          exact hR _ _ _ _ _ _ hG hf d_9_latest_92
        · subst hq_1
          refine lv_tableIn (off := 68) (tgt := 93) hx hb d_9_latest_25 (by decide) (by decide) (by decide) (by decide) ?_
          have hf := hf.2.2.2.2.1 eq_1.symm
          refine lv_aload_n hx hb d_9_latest_93 rfl (lv_at hl 0 rfl) ?_
          refine gf_9_26 S hG hk_r0 d_9_latest_94 ?_
          refine gf_9_211 S hG (kr_9_2 hk_r0) d_9_latest_97 ?_
          refine gf_9_215 S hG (kr_8_9 (kr_9_2 hk_r0)) d_9_latest_100 ?_
          exact hR _ _ _ _ _ _ hG hf d_9_latest_103
        · subst hq_1
          refine lv_tableIn (off := 79) (tgt := 104) hx hb d_9_latest_25 (by decide) (by decide) (by decide) (by decide) ?_
          have hf := hf.2.2.2.2.2 eq_1.symm
          refine lv_aload_n hx hb d_9_latest_104 rfl (lv_at hl 0 rfl) ?_
          refine gf_9_26 S hG hk_r0 d_9_latest_105 ?_
          refine gf_9_211 S hG (kr_9_2 hk_r0) d_9_latest_108 ?_
          refine gf_9_239 S hG (kr_8_9 (kr_9_2 hk_r0)) d_9_latest_111 ?_
          exact hR _ _ _ _ _ _ hG hf d_9_latest_114
      · have hf := hf.2 hc
        refine lv_bipush (v := (-9 : Int32)) hx hb d_9_latest_21 (by decide) ?_
        exact hR _ _ _ _ _ _ hG hf d_9_latest_23
    · have hf := hf.2 hc
      refine lv_iconst (v := (-1 : Int32)) hx hb d_9_latest_9 (by decide) ?_
      exact hR _ _ _ _ _ _ hG hf d_9_latest_10
theorem c_9_latest (l : Launch) {D : va_G} {ac : Nat → ClassId} {ad st : Nat → Nat} {A : Nat → Prop} {σ : St} {r0 : Nat} {x1 : Int32} {Q : Int32 → St → Prop} (hk_r0 : kd r0 = 9) (hf : m_9_latest r0 x1 Q σ) : Met l y_9_latest (Cond.code y_9_latest prog_1_method_19_code 2 (some .int) :: wA) { frames := 0, cells := 0, slots := 0, locals := 0 } (va_Pc [.ref (ad r0), .int x1] (GSt A D ac ad st σ)) (va_Qi Q (GSt A D ac ad st) A) 0 0 A :=
  mkI l (by decide +kernel) rfl [.ref (ad r0), .int x1] (Nat.le_of_ble_eq_true rfl) (fun p e s m args below meth c ls QW S hR hG hl => w_9_latest_0 S hR hk_r0 hG hl hf)
set_option maxHeartbeats 4000000 in
set_option maxRecDepth 100000 in
theorem w_9_trySpeed_0 {r0 : Nat} {x1 : Int32} {Q : St → Prop} {σ : St} {H : Heap} {locs : List Loc} {ls : Array Slot} (S : SC A D ac st p m c prog_1_method_30_code 2 s args "SweeperRounds" R cells slots 4 100) (hR : RtV A D ac ad p l e R s m args below meth c prog_1_method_30_code cells slots QW Q) (hk_r0 : kd r0 = 9) (hG : DG A D ac ad s σ H locs) (hl : lv_has ls 2 [(0, .ref (ad r0)), (1, .int x1)]) (hf : m_9_trySpeed r0 x1 Q σ) : W p l e R s m args below meth c H locs cells slots QW (F0 m 0 ls []) := by
  have hx := S.1.1
  have hb := S.1.2.1
  unfold m_9_trySpeed at hf
  refine lv_aload_n hx hb d_9_trySpeed_0 rfl (lv_at hl 0 rfl) ?_
  refine gf_9_46 S hG hk_r0 d_9_trySpeed_1 ?_
  refine lv_aload_n hx hb d_9_trySpeed_4 rfl (lv_at hl 0 rfl) ?_
  refine gf_9_26 S hG hk_r0 d_9_trySpeed_5 ?_
  refine iv_9_317 S hl.1 hG (kr_9_5 hk_r0) (c_8_copyFrom l (kr_9_5 hk_r0) (kr_9_2 hk_r0) hf) ⟨Nat.le_of_ble_eq_true rfl, Nat.le_of_ble_eq_true rfl⟩ (Nat.le_of_ble_eq_true rfl) d_9_trySpeed_8 (fun σ_1 hf H locs hG => ?_)
  refine lv_aload_n hx hb d_9_trySpeed_11 rfl (lv_at hl 0 rfl) ?_
  refine gf_9_46 S hG hk_r0 d_9_trySpeed_12 ?_
  refine gf_9_174 S hG (kr_9_5 hk_r0) d_9_trySpeed_15 ?_
  refine lv_iconst (v := (0 : Int32)) hx hb d_9_trySpeed_18 (by decide) ?_
  refine lv_iload_n hx hb d_9_trySpeed_19 rfl (lv_at hl 1 rfl) ?_
  refine mis S hG 26 rfl rfl (kr_8_5 (kr_9_5 hk_r0)) hf.1 d_9_trySpeed_20 (fun σ_3 eσ_3 H locs hG => ?_)
  have hf := hf.2 σ_3 eσ_3
  refine lv_aload_n hx hb d_9_trySpeed_21 rfl (lv_at hl 0 rfl) ?_
  refine gf_9_49 S hG hk_r0 d_9_trySpeed_22 ?_
  refine iv_9_208 S hl.1 hG (kr_9_6 hk_r0) (c_5_carryOut l (kr_9_6 hk_r0) hf) ⟨Nat.le_of_ble_eq_true rfl, Nat.le_of_ble_eq_true rfl⟩ (Nat.le_of_ble_eq_true rfl) d_9_trySpeed_25 (fun σ_4 hf H locs hG => ?_)
  exact hR _ _ _ _ _ hG hf d_9_trySpeed_28
theorem c_9_trySpeed (l : Launch) {D : va_G} {ac : Nat → ClassId} {ad st : Nat → Nat} {A : Nat → Prop} {σ : St} {r0 : Nat} {x1 : Int32} {Q : St → Prop} (hk_r0 : kd r0 = 9) (hf : m_9_trySpeed r0 x1 Q σ) : Met l y_9_trySpeed (Cond.code y_9_trySpeed prog_1_method_30_code 2 none :: wA) { frames := 4, cells := 0, slots := 0, locals := 100 } (va_Pc [.ref (ad r0), .int x1] (GSt A D ac ad st σ)) (va_Qv Q (GSt A D ac ad st) A) 0 0 A :=
  mkV l (by decide +kernel) rfl [.ref (ad r0), .int x1] (Nat.le_of_ble_eq_true rfl) (fun p e s m args below meth c ls QW S hR hG hl => w_9_trySpeed_0 S hR hk_r0 hG hl hf)
set_option maxHeartbeats 4000000 in
set_option maxRecDepth 100000 in
theorem w_9_ifSpeed_0 {r0 : Nat} {x1 : Int32} {Q : Int32 → St → Prop} {σ : St} {H : Heap} {locs : List Loc} {ls : Array Slot} (S : SC A D ac st p m c prog_1_method_20_code 2 s args "SweeperRounds" R cells slots 5 121) (hR : RtI A D ac ad p l e R s m args below meth c prog_1_method_20_code cells slots QW Q) (hk_r0 : kd r0 = 9) (hG : DG A D ac ad s σ H locs) (hl : lv_has ls 2 [(0, .ref (ad r0)), (1, .int x1)]) (hf : m_9_ifSpeed r0 x1 Q σ) : W p l e R s m args below meth c H locs cells slots QW (F0 m 0 ls []) := by
  have hx := S.1.1
  have hb := S.1.2.1
  unfold m_9_ifSpeed at hf
  refine lv_iload_n hx hb d_9_ifSpeed_0 rfl (lv_at hl 1 rfl) ?_
  refine lv_iconst (v := (1 : Int32)) hx hb d_9_ifSpeed_1 (by decide) ?_
  refine lv_icmp_lt (tgt := 10) hx hb d_9_ifSpeed_2 (by decide) (fun hc => ?_) (fun hc => ?_)
  · have hf := hf.1 hc
    refine lv_iconst (v := (-1 : Int32)) hx hb d_9_ifSpeed_10 (by decide) ?_
    exact hR _ _ _ _ _ _ hG hf d_9_ifSpeed_11
  · have hf := hf.2 hc
    refine lv_iload_n hx hb d_9_ifSpeed_5 rfl (lv_at hl 1 rfl) ?_
    refine lv_iconst (v := (4 : Int32)) hx hb d_9_ifSpeed_6 (by decide) ?_
    refine lv_icmp_le (tgt := 12) hx hb d_9_ifSpeed_7 (by decide) (fun hc => ?_) (fun hc => ?_)
    · have hf := hf.1 hc
      refine lv_aload_n hx hb d_9_ifSpeed_12 rfl (lv_at hl 0 rfl) ?_
      refine lv_iload_n hx hb d_9_ifSpeed_13 rfl (lv_at hl 1 rfl) ?_
      refine iv_9_245 S hl.1 hG hk_r0 (c_9_trySpeed l hk_r0 hf) ⟨Nat.le_of_ble_eq_true rfl, Nat.le_of_ble_eq_true rfl⟩ (Nat.le_of_ble_eq_true rfl) d_9_ifSpeed_14 (fun σ_1 hf H locs hG => ?_)
      refine lv_aload_n hx hb d_9_ifSpeed_17 rfl (lv_at hl 0 rfl) ?_
      refine gf_9_46 S hG hk_r0 d_9_ifSpeed_18 ?_
      refine gf_9_211 S hG (kr_9_5 hk_r0) d_9_ifSpeed_21 ?_
      refine gf_9_215 S hG (kr_8_9 (kr_9_5 hk_r0)) d_9_ifSpeed_24 ?_
      exact hR _ _ _ _ _ _ hG hf d_9_ifSpeed_27
    · have hf := hf.2 hc
      refine lv_iconst (v := (-1 : Int32)) hx hb d_9_ifSpeed_10 (by decide) ?_
      exact hR _ _ _ _ _ _ hG hf d_9_ifSpeed_11
theorem c_9_ifSpeed (l : Launch) {D : va_G} {ac : Nat → ClassId} {ad st : Nat → Nat} {A : Nat → Prop} {σ : St} {r0 : Nat} {x1 : Int32} {Q : Int32 → St → Prop} (hk_r0 : kd r0 = 9) (hf : m_9_ifSpeed r0 x1 Q σ) : Met l y_9_ifSpeed (Cond.code y_9_ifSpeed prog_1_method_20_code 2 (some .int) :: wA) { frames := 5, cells := 0, slots := 0, locals := 121 } (va_Pc [.ref (ad r0), .int x1] (GSt A D ac ad st σ)) (va_Qi Q (GSt A D ac ad st) A) 0 0 A :=
  mkI l (by decide +kernel) rfl [.ref (ad r0), .int x1] (Nat.le_of_ble_eq_true rfl) (fun p e s m args below meth c ls QW S hR hG hl => w_9_ifSpeed_0 S hR hk_r0 hG hl hf)
set_option maxHeartbeats 4000000 in
set_option maxRecDepth 100000 in
theorem w_9_bestSpeed_63 {r0 : Nat} {x4 : Int32} {x5 : Int32} {x6 : Int32} {B9 : Int32 → Int32 → Int32 → Int32 → St → Prop} {Q : Int32 → St → Prop} {σ : St} {H : Heap} {locs : List Loc} {ls : Array Slot} (S : SC A D ac st p m c prog_1_method_21_code 7 s args "SweeperRounds" R cells slots 5 121) (hR : RtI A D ac ad p l e R s m args below meth c prog_1_method_21_code cells slots QW Q) (hk_r0 : kd r0 = 9) (hB9 : ∀ (x1 : Int32) (x2 : Int32) (x3 : Int32) (x4 : Int32) (σ : St) (H : Heap) (locs : List Loc) (ls : Array Slot), DG A D ac ad s σ H locs → lv_has ls 7 [(0, .ref (ad r0)), (1, .int x1), (2, .int x2), (3, .int x3), (4, .int x4)] → B9 x1 x2 x3 x4 σ → W p l e R s m args below meth c H locs cells slots QW (F0 m 9 ls [])) (hG : DG A D ac ad s σ H locs) (hl : lv_has ls 7 [(0, .ref (ad r0)), (4, .int x4), (5, .int x5), (6, .int x6)]) (hf : m_9_bestSpeed_63 r0 x4 x5 x6 B9 Q σ) : W p l e R s m args below meth c H locs cells slots QW (F0 m 63 ls []) := by
  have hx := S.1.1
  have hb := S.1.2.1
  unfold m_9_bestSpeed_63 at hf
  refine lv_iload hx hb d_9_bestSpeed_63 (lv_at hl 1 rfl) ?_
  refine lv_istore_n (lv' := [(1, .int x4), (0, .ref (ad r0)), (4, .int x4), (5, .int x5), (6, .int x6)]) hx hb d_9_bestSpeed_65 rfl hl (by decide) rfl (fun ls hl => ?_)
  refine lv_iload hx hb d_9_bestSpeed_66 (lv_at hl 3 rfl) ?_
  refine lv_istore_n (lv' := [(2, .int x5), (1, .int x4), (0, .ref (ad r0)), (4, .int x4), (5, .int x5), (6, .int x6)]) hx hb d_9_bestSpeed_68 rfl hl (by decide) rfl (fun ls hl => ?_)
  refine lv_iload hx hb d_9_bestSpeed_69 (lv_at hl 5 rfl) ?_
  refine lv_istore_n (lv' := [(3, .int x6), (2, .int x5), (1, .int x4), (0, .ref (ad r0)), (4, .int x4), (5, .int x5), (6, .int x6)]) hx hb d_9_bestSpeed_71 rfl hl (by decide) rfl (fun ls hl => ?_)
  obtain ⟨x4_1, ex4_1⟩ : ∃ y : Int32, y = x4 + 1 := ⟨_, rfl⟩
  have hf := hf x4_1 ex4_1
  refine lv_iinc (v := x4_1) (lv' := [(4, .int x4_1), (3, .int x6), (2, .int x5), (1, .int x4), (0, .ref (ad r0)), (5, .int x5), (6, .int x6)]) hx hb d_9_bestSpeed_72 hl (k := 4) rfl (by rw [ex4_1]; rfl) (by decide) rfl (fun ls hl => ?_)
  refine lv_goto (tgt := 9) hx hb d_9_bestSpeed_75 (by decide) ?_
  exact hB9 _ _ _ _ _ _ _ _  hG (lv_sub hl [4, 3, 2, 1, 0] rfl) hf
set_option maxHeartbeats 4000000 in
set_option maxRecDepth 100000 in
theorem w_9_bestSpeed_9 {r0 : Nat} {Q : Int32 → St → Prop} {B9 : Int32 → Int32 → Int32 → Int32 → St → Prop} {x1 : Int32} {x2 : Int32} {x3 : Int32} {x4 : Int32} {σ : St} {H : Heap} {locs : List Loc} {ls : Array Slot} (S : SC A D ac st p m c prog_1_method_21_code 7 s args "SweeperRounds" R cells slots 5 121) (hR : RtI A D ac ad p l e R s m args below meth c prog_1_method_21_code cells slots QW Q) (hk_r0 : kd r0 = 9) (hB9 : ∀ (x1 : Int32) (x2 : Int32) (x3 : Int32) (x4 : Int32) (σ : St) (H : Heap) (locs : List Loc) (ls : Array Slot), DG A D ac ad s σ H locs → lv_has ls 7 [(0, .ref (ad r0)), (1, .int x1), (2, .int x2), (3, .int x3), (4, .int x4)] → B9 x1 x2 x3 x4 σ → W p l e R s m args below meth c H locs cells slots QW (F0 m 9 ls [])) (hG : DG A D ac ad s σ H locs) (hl : lv_has ls 7 [(0, .ref (ad r0)), (1, .int x1), (2, .int x2), (3, .int x3), (4, .int x4)]) (hf : m_9_bestSpeed_9 r0 Q B9 x1 x2 x3 x4 σ) : W p l e R s m args below meth c H locs cells slots QW (F0 m 9 ls []) := by
  have hx := S.1.1
  have hb := S.1.2.1
  unfold m_9_bestSpeed_9 at hf
  refine lv_iload hx hb d_9_bestSpeed_9 (lv_at hl 4 rfl) ?_
  refine lv_iconst (v := (4 : Int32)) hx hb d_9_bestSpeed_11 (by decide) ?_
  refine lv_icmp_gt (tgt := 78) hx hb d_9_bestSpeed_12 (by decide) (fun hc => ?_) (fun hc => ?_)
  · have hf := hf.1 hc
    refine lv_iload_n hx hb d_9_bestSpeed_78 rfl (lv_at hl 1 rfl) ?_
    exact hR _ _ _ _ _ _ hG hf d_9_bestSpeed_79
  · have hf := hf.2 hc
    refine lv_aload_n hx hb d_9_bestSpeed_15 rfl (lv_at hl 0 rfl) ?_
    refine lv_iload hx hb d_9_bestSpeed_16 (lv_at hl 4 rfl) ?_
    refine iv_9_245 S hl.1 hG hk_r0 (c_9_trySpeed l hk_r0 hf) ⟨Nat.le_of_ble_eq_true rfl, Nat.le_of_ble_eq_true rfl⟩ (Nat.le_of_ble_eq_true rfl) d_9_bestSpeed_18 (fun σ_1 hf H locs hG => ?_)
    refine lv_aload_n hx hb d_9_bestSpeed_21 rfl (lv_at hl 0 rfl) ?_
    refine gf_9_46 S hG hk_r0 d_9_bestSpeed_22 ?_
    refine gf_9_211 S hG (kr_9_5 hk_r0) d_9_bestSpeed_25 ?_
    refine gf_9_215 S hG (kr_8_9 (kr_9_5 hk_r0)) d_9_bestSpeed_28 ?_
    refine lv_topi (fun x5_3 ex5_3 => ?_)
    have hf := hf x5_3 ex5_3
    refine lv_istore (lv' := [(5, .int x5_3), (0, .ref (ad r0)), (1, .int x1), (2, .int x2), (3, .int x3), (4, .int x4)]) hx hb d_9_bestSpeed_31 hl (by decide) rfl (fun ls hl => ?_)
    refine lv_aload_n hx hb d_9_bestSpeed_33 rfl (lv_at hl 1 rfl) ?_
    refine gf_9_46 S hG hk_r0 d_9_bestSpeed_34 ?_
    refine gf_9_211 S hG (kr_9_5 hk_r0) d_9_bestSpeed_37 ?_
    refine gf_9_233 S hG (kr_8_9 (kr_9_5 hk_r0)) d_9_bestSpeed_40 ?_
    refine lv_topi (fun x6_4 ex6_4 => ?_)
    have hf := hf x6_4 ex6_4
    refine lv_istore (lv' := [(6, .int x6_4), (5, .int x5_3), (0, .ref (ad r0)), (1, .int x1), (2, .int x2), (3, .int x3), (4, .int x4)]) hx hb d_9_bestSpeed_43 hl (by decide) rfl (fun ls hl => ?_)
    refine lv_iload hx hb d_9_bestSpeed_45 (lv_at hl 1 rfl) ?_
    refine lv_iload_n hx hb d_9_bestSpeed_47 rfl (lv_at hl 4 rfl) ?_
    refine lv_icmp_gt (tgt := 63) hx hb d_9_bestSpeed_48 (by decide) (fun hc => ?_) (fun hc => ?_)
    · have hf := hf.1 hc
      exact w_9_bestSpeed_63 S hR hk_r0   hB9 hG (lv_sub hl [2, 6, 1, 0] rfl) hf
    · have hf := hf.2 hc
      refine lv_iload hx hb d_9_bestSpeed_51 (lv_at hl 1 rfl) ?_
      refine lv_iload_n hx hb d_9_bestSpeed_53 rfl (lv_at hl 4 rfl) ?_
      refine lv_icmp_ne (tgt := 72) hx hb d_9_bestSpeed_54 (by decide) (fun hc => ?_) (fun hc => ?_)
      · have hf := hf.1 hc
        obtain ⟨x4_5, ex4_5⟩ : ∃ y : Int32, y = x4 + 1 := ⟨_, rfl⟩
        have hf := hf x4_5 ex4_5
        refine lv_iinc (v := x4_5) (lv' := [(4, .int x4_5), (6, .int x6_4), (5, .int x5_3), (0, .ref (ad r0)), (1, .int x1), (2, .int x2), (3, .int x3)]) hx hb d_9_bestSpeed_72 hl (k := 6) rfl (by rw [ex4_5]; rfl) (by decide) rfl (fun ls hl => ?_)
        refine lv_goto (tgt := 9) hx hb d_9_bestSpeed_75 (by decide) ?_
        exact hB9 _ _ _ _ _ _ _ _  hG (lv_sub hl [3, 4, 5, 6, 0] rfl) hf
      · have hf := hf.2 hc
        refine lv_iload hx hb d_9_bestSpeed_57 (lv_at hl 0 rfl) ?_
        refine lv_iload_n hx hb d_9_bestSpeed_59 rfl (lv_at hl 5 rfl) ?_
        refine lv_icmp_ge (tgt := 72) hx hb d_9_bestSpeed_60 (by decide) (fun hc => ?_) (fun hc => ?_)
        · have hf := hf.1 hc
          obtain ⟨x4_6, ex4_6⟩ : ∃ y : Int32, y = x4 + 1 := ⟨_, rfl⟩
          have hf := hf x4_6 ex4_6
          refine lv_iinc (v := x4_6) (lv' := [(4, .int x4_6), (6, .int x6_4), (5, .int x5_3), (0, .ref (ad r0)), (1, .int x1), (2, .int x2), (3, .int x3)]) hx hb d_9_bestSpeed_72 hl (k := 6) rfl (by rw [ex4_6]; rfl) (by decide) rfl (fun ls hl => ?_)
          refine lv_goto (tgt := 9) hx hb d_9_bestSpeed_75 (by decide) ?_
          exact hB9 _ _ _ _ _ _ _ _  hG (lv_sub hl [3, 4, 5, 6, 0] rfl) hf
        · have hf := hf.2 hc
          exact w_9_bestSpeed_63 S hR hk_r0   hB9 hG (lv_sub hl [2, 6, 1, 0] rfl) hf
set_option maxHeartbeats 4000000 in
set_option maxRecDepth 100000 in
theorem lp_9_bestSpeed_9 {r0 : Nat} {Q : Int32 → St → Prop} (S : SC A D ac st p m c prog_1_method_21_code 7 s args "SweeperRounds" R cells slots 5 121) (hR : RtI A D ac ad p l e R s m args below meth c prog_1_method_21_code cells slots QW Q) (hk_r0 : kd r0 = 9) : ∀ (n : Nat) (x1 : Int32) (x2 : Int32) (x3 : Int32) (x4 : Int32) (σ : St) (H : Heap) (locs : List Loc) (ls : Array Slot), DG A D ac ad s σ H locs → lv_has ls 7 [(0, .ref (ad r0)), (1, .int x1), (2, .int x2), (3, .int x3), (4, .int x4)] → itN (m_9_bestSpeed_9 r0 Q) (fun _ _ _ _ _ => False) n x1 x2 x3 x4 σ → W p l e R s m args below meth c H locs cells slots QW (F0 m 9 ls []) := by
  intro n
  induction n with
  | zero =>
    intro x1 x2 x3 x4 σ H locs ls  hG hl hf
    exact hf.elim
  | succ n ih =>
    intro x1 x2 x3 x4 σ H locs ls  hG hl hf
    exact w_9_bestSpeed_9 S hR hk_r0  ih hG hl hf
set_option maxHeartbeats 4000000 in
set_option maxRecDepth 100000 in
theorem w_9_bestSpeed_0 {r0 : Nat} {Q : Int32 → St → Prop} {σ : St} {H : Heap} {locs : List Loc} {ls : Array Slot} (S : SC A D ac st p m c prog_1_method_21_code 7 s args "SweeperRounds" R cells slots 5 121) (hR : RtI A D ac ad p l e R s m args below meth c prog_1_method_21_code cells slots QW Q) (hk_r0 : kd r0 = 9) (hG : DG A D ac ad s σ H locs) (hl : lv_has ls 7 [(0, .ref (ad r0))]) (hf : m_9_bestSpeed r0 Q σ) : W p l e R s m args below meth c H locs cells slots QW (F0 m 0 ls []) := by
  have hx := S.1.1
  have hb := S.1.2.1
  unfold m_9_bestSpeed at hf
  refine lv_iconst (v := (1 : Int32)) hx hb d_9_bestSpeed_0 (by decide) ?_
  refine lv_istore_n (lv' := [(1, .int (1 : Int32)), (0, .ref (ad r0))]) hx hb d_9_bestSpeed_1 rfl hl (by decide) rfl (fun ls hl => ?_)
  refine lv_iconst (v := (-1 : Int32)) hx hb d_9_bestSpeed_2 (by decide) ?_
  refine lv_istore_n (lv' := [(2, .int (-1 : Int32)), (1, .int (1 : Int32)), (0, .ref (ad r0))]) hx hb d_9_bestSpeed_3 rfl hl (by decide) rfl (fun ls hl => ?_)
  refine lv_iconst (v := (0 : Int32)) hx hb d_9_bestSpeed_4 (by decide) ?_
  refine lv_istore_n (lv' := [(3, .int (0 : Int32)), (2, .int (-1 : Int32)), (1, .int (1 : Int32)), (0, .ref (ad r0))]) hx hb d_9_bestSpeed_5 rfl hl (by decide) rfl (fun ls hl => ?_)
  refine lv_iconst (v := (1 : Int32)) hx hb d_9_bestSpeed_6 (by decide) ?_
  refine lv_istore (lv' := [(4, .int (1 : Int32)), (3, .int (0 : Int32)), (2, .int (-1 : Int32)), (1, .int (1 : Int32)), (0, .ref (ad r0))]) hx hb d_9_bestSpeed_7 hl (by decide) rfl (fun ls hl => ?_)
  exact lp_9_bestSpeed_9 S hR hk_r0  FU _ _ _ _ _ _ _ _  hG (lv_sub hl [4, 3, 2, 1, 0] rfl) hf
theorem c_9_bestSpeed (l : Launch) {D : va_G} {ac : Nat → ClassId} {ad st : Nat → Nat} {A : Nat → Prop} {σ : St} {r0 : Nat} {Q : Int32 → St → Prop} (hk_r0 : kd r0 = 9) (hf : m_9_bestSpeed r0 Q σ) : Met l y_9_bestSpeed (Cond.code y_9_bestSpeed prog_1_method_21_code 7 (some .int) :: wA) { frames := 5, cells := 0, slots := 0, locals := 121 } (va_Pc [.ref (ad r0)] (GSt A D ac ad st σ)) (va_Qi Q (GSt A D ac ad st) A) 0 0 A :=
  mkI l (by decide +kernel) rfl [.ref (ad r0)] (Nat.le_of_ble_eq_true rfl) (fun p e s m args below meth c ls QW S hR hG hl => w_9_bestSpeed_0 S hR hk_r0 hG hl hf)
set_option maxHeartbeats 4000000 in
set_option maxRecDepth 100000 in
theorem w_2_swap_0 {r0 : Nat} {x1 : Int32} {x2 : Int32} {Q : St → Prop} {σ : St} {H : Heap} {locs : List Loc} {ls : Array Slot} (S : SC A D ac st p m c prog_4_method_4_code 4 s args "SweeperRounds$Orders" R cells slots 0 0) (hR : RtV A D ac ad p l e R s m args below meth c prog_4_method_4_code cells slots QW Q) (hk_r0 : kd r0 = 2) (hG : DG A D ac ad s σ H locs) (hl : lv_has ls 4 [(0, .ref (ad r0)), (1, .int x1), (2, .int x2)]) (hf : m_2_swap r0 x1 x2 Q σ) : W p l e R s m args below meth c H locs cells slots QW (F0 m 0 ls []) := by
  have hx := S.1.1
  have hb := S.1.2.1
  unfold m_2_swap at hf
  refine lv_aload_n hx hb d_2_swap_0 rfl (lv_at hl 0 rfl) ?_
  refine gf_2_15 S hG hk_r0 d_2_swap_1 ?_
  refine lv_iload_n hx hb d_2_swap_4 rfl (lv_at hl 1 rfl) ?_
  refine mia S hG 29 rfl rfl (kr_2_2 hk_r0) hf.1 d_2_swap_5 ?_
  have hf := hf.2
  refine lv_topi (fun x3_1 ex3_1 => ?_)
  have hf := hf x3_1 ex3_1
  refine lv_istore_n (lv' := [(3, .int x3_1), (0, .ref (ad r0)), (1, .int x1), (2, .int x2)]) hx hb d_2_swap_6 rfl hl (by decide) rfl (fun ls hl => ?_)
  refine lv_aload_n hx hb d_2_swap_7 rfl (lv_at hl 1 rfl) ?_
  refine gf_2_15 S hG hk_r0 d_2_swap_8 ?_
  refine lv_iload_n hx hb d_2_swap_11 rfl (lv_at hl 2 rfl) ?_
  refine lv_aload_n hx hb d_2_swap_12 rfl (lv_at hl 1 rfl) ?_
  refine gf_2_15 S hG hk_r0 d_2_swap_13 ?_
  refine lv_iload_n hx hb d_2_swap_16 rfl (lv_at hl 3 rfl) ?_
  refine mia S hG 29 rfl rfl (kr_2_2 hk_r0) hf.1 d_2_swap_17 ?_
  have hf := hf.2
  refine mis S hG 29 rfl rfl (kr_2_2 hk_r0) hf.1 d_2_swap_18 (fun σ_2 eσ_2 H locs hG => ?_)
  have hf := hf.2 σ_2 eσ_2
  refine lv_aload_n hx hb d_2_swap_19 rfl (lv_at hl 1 rfl) ?_
  refine gf_2_15 S hG hk_r0 d_2_swap_20 ?_
  refine lv_iload_n hx hb d_2_swap_23 rfl (lv_at hl 3 rfl) ?_
  refine lv_iload_n hx hb d_2_swap_24 rfl (lv_at hl 0 rfl) ?_
  refine mis S hG 29 rfl rfl (kr_2_2 hk_r0) hf.1 d_2_swap_25 (fun σ_3 eσ_3 H locs hG => ?_)
  have hf := hf.2 σ_3 eσ_3
  exact hR _ _ _ _ _ hG hf d_2_swap_26
theorem c_2_swap (l : Launch) {D : va_G} {ac : Nat → ClassId} {ad st : Nat → Nat} {A : Nat → Prop} {σ : St} {r0 : Nat} {x1 : Int32} {x2 : Int32} {Q : St → Prop} (hk_r0 : kd r0 = 2) (hf : m_2_swap r0 x1 x2 Q σ) : Met l y_2_swap (Cond.code y_2_swap prog_4_method_4_code 4 none :: wA) { frames := 0, cells := 0, slots := 0, locals := 0 } (va_Pc [.ref (ad r0), .int x1, .int x2] (GSt A D ac ad st σ)) (va_Qv Q (GSt A D ac ad st) A) 0 0 A :=
  mkV l (by decide +kernel) rfl [.ref (ad r0), .int x1, .int x2] (Nat.le_of_ble_eq_true rfl) (fun p e s m args below meth c ls QW S hR hG hl => w_2_swap_0 S hR hk_r0 hG hl hf)
set_option maxHeartbeats 4000000 in
set_option maxRecDepth 100000 in
theorem w_2_stepOrder_91 {r0 : Nat} {Q : Int32 → St → Prop} {B91 : Int32 → Int32 → St → Prop} {x3 : Int32} {x4 : Int32} {σ : St} {H : Heap} {locs : List Loc} {ls : Array Slot} (S : SC A D ac st p m c prog_4_method_3_code 5 s args "SweeperRounds$Orders" R cells slots 1 23) (hR : RtZ A D ac ad p l e R s m args below meth c prog_4_method_3_code cells slots QW Q) (hk_r0 : kd r0 = 2) (hB91 : ∀ (x3 : Int32) (x4 : Int32) (σ : St) (H : Heap) (locs : List Loc) (ls : Array Slot), DG A D ac ad s σ H locs → lv_has ls 5 [(0, .ref (ad r0)), (3, .int x3), (4, .int x4)] → B91 x3 x4 σ → W p l e R s m args below meth c H locs cells slots QW (F0 m 91 ls [])) (hG : DG A D ac ad s σ H locs) (hl : lv_has ls 5 [(0, .ref (ad r0)), (3, .int x3), (4, .int x4)]) (hf : m_2_stepOrder_91 r0 Q B91 x3 x4 σ) : W p l e R s m args below meth c H locs cells slots QW (F0 m 91 ls []) := by
  have hx := S.1.1
  have hb := S.1.2.1
  unfold m_2_stepOrder_91 at hf
  refine lv_iload_n hx hb d_2_stepOrder_91 rfl (lv_at hl 1 rfl) ?_
  refine lv_iload hx hb d_2_stepOrder_92 (lv_at hl 2 rfl) ?_
  refine lv_icmp_ge (tgt := 113) hx hb d_2_stepOrder_94 (by decide) (fun hc => ?_) (fun hc => ?_)
  · have hf := hf.1 hc
    refine lv_iconst (v := (1 : Int32)) hx hb d_2_stepOrder_113 (by decide) ?_
    exact hR _ _ _ _ _ _ hG (by unfold isB; decide) hf d_2_stepOrder_114
  · have hf := hf.2 hc
    refine lv_aload_n hx hb d_2_stepOrder_97 rfl (lv_at hl 0 rfl) ?_
    refine lv_iload_n hx hb d_2_stepOrder_98 rfl (lv_at hl 1 rfl) ?_
    refine lv_iload hx hb d_2_stepOrder_99 (lv_at hl 2 rfl) ?_
    refine iv_2_73 S hl.1 hG hk_r0 (c_2_swap l hk_r0 hf) ⟨Nat.le_of_ble_eq_true rfl, Nat.le_of_ble_eq_true rfl⟩ (Nat.le_of_ble_eq_true rfl) d_2_stepOrder_101 (fun σ_1 hf H locs hG => ?_)
    obtain ⟨x3_3, ex3_3⟩ : ∃ y : Int32, y = x3 + 1 := ⟨_, rfl⟩
    have hf := hf x3_3 ex3_3
    refine lv_iinc (v := x3_3) (lv' := [(3, .int x3_3), (0, .ref (ad r0)), (4, .int x4)]) hx hb d_2_stepOrder_104 hl (k := 1) rfl (by rw [ex3_3]; rfl) (by decide) rfl (fun ls hl => ?_)
    obtain ⟨x4_4, ex4_4⟩ : ∃ y : Int32, y = x4 + (-1) := ⟨_, rfl⟩
    have hf := hf x4_4 ex4_4
    refine lv_iinc (v := x4_4) (lv' := [(4, .int x4_4), (3, .int x3_3), (0, .ref (ad r0))]) hx hb d_2_stepOrder_107 hl (k := 2) rfl (by rw [ex4_4]; rfl) (by decide) rfl (fun ls hl => ?_)
    refine lv_goto (tgt := 91) hx hb d_2_stepOrder_110 (by decide) ?_
    exact hB91 _ _ _ _ _ _  hG (lv_sub hl [2, 1, 0] rfl) hf
set_option maxHeartbeats 4000000 in
set_option maxRecDepth 100000 in
theorem lp_2_stepOrder_91 {r0 : Nat} {Q : Int32 → St → Prop} (S : SC A D ac st p m c prog_4_method_3_code 5 s args "SweeperRounds$Orders" R cells slots 1 23) (hR : RtZ A D ac ad p l e R s m args below meth c prog_4_method_3_code cells slots QW Q) (hk_r0 : kd r0 = 2) : ∀ (n : Nat) (x3 : Int32) (x4 : Int32) (σ : St) (H : Heap) (locs : List Loc) (ls : Array Slot), DG A D ac ad s σ H locs → lv_has ls 5 [(0, .ref (ad r0)), (3, .int x3), (4, .int x4)] → itN (m_2_stepOrder_91 r0 Q) (fun _ _ _ => False) n x3 x4 σ → W p l e R s m args below meth c H locs cells slots QW (F0 m 91 ls []) := by
  intro n
  induction n with
  | zero =>
    intro x3 x4 σ H locs ls  hG hl hf
    exact hf.elim
  | succ n ih =>
    intro x3 x4 σ H locs ls  hG hl hf
    exact w_2_stepOrder_91 S hR hk_r0  ih hG hl hf
set_option maxHeartbeats 4000000 in
set_option maxRecDepth 100000 in
theorem w_2_stepOrder_73 {r0 : Nat} {x1 : Int32} {x2 : Int32} {Q : Int32 → St → Prop} {σ : St} {H : Heap} {locs : List Loc} {ls : Array Slot} (S : SC A D ac st p m c prog_4_method_3_code 5 s args "SweeperRounds$Orders" R cells slots 1 23) (hR : RtZ A D ac ad p l e R s m args below meth c prog_4_method_3_code cells slots QW Q) (hk_r0 : kd r0 = 2) (hG : DG A D ac ad s σ H locs) (hl : lv_has ls 5 [(0, .ref (ad r0)), (1, .int x1), (2, .int x2)]) (hf : m_2_stepOrder_73 r0 x1 x2 Q σ) : W p l e R s m args below meth c H locs cells slots QW (F0 m 73 ls []) := by
  have hx := S.1.1
  have hb := S.1.2.1
  unfold m_2_stepOrder_73 at hf
  refine lv_aload_n hx hb d_2_stepOrder_73 rfl (lv_at hl 0 rfl) ?_
  refine lv_iload_n hx hb d_2_stepOrder_74 rfl (lv_at hl 1 rfl) ?_
  refine lv_iload_n hx hb d_2_stepOrder_75 rfl (lv_at hl 2 rfl) ?_
  refine iv_2_73 S hl.1 hG hk_r0 (c_2_swap l hk_r0 hf) ⟨Nat.le_of_ble_eq_true rfl, Nat.le_of_ble_eq_true rfl⟩ (Nat.le_of_ble_eq_true rfl) d_2_stepOrder_76 (fun σ_1 hf H locs hG => ?_)
  refine lv_iload_n hx hb d_2_stepOrder_79 rfl (lv_at hl 1 rfl) ?_
  refine lv_iconst (v := (1 : Int32)) hx hb d_2_stepOrder_80 (by decide) ?_
  refine lv_iadd hx hb d_2_stepOrder_81 ?_
  refine lv_topi (fun x3_3 ex3_3 => ?_)
  have hf := hf x3_3 ex3_3
  refine lv_istore_n (lv' := [(3, .int x3_3), (0, .ref (ad r0)), (1, .int x1), (2, .int x2)]) hx hb d_2_stepOrder_82 rfl hl (by decide) rfl (fun ls hl => ?_)
  refine lv_aload_n hx hb d_2_stepOrder_83 rfl (lv_at hl 1 rfl) ?_
  refine gf_2_30 S hG hk_r0 d_2_stepOrder_84 ?_
  refine lv_iconst (v := (1 : Int32)) hx hb d_2_stepOrder_87 (by decide) ?_
  refine lv_isub hx hb d_2_stepOrder_88 ?_
  refine lv_topi (fun x4_4 ex4_4 => ?_)
  have hf := hf x4_4 ex4_4
  refine lv_istore (lv' := [(4, .int x4_4), (3, .int x3_3), (0, .ref (ad r0)), (1, .int x1), (2, .int x2)]) hx hb d_2_stepOrder_89 hl (by decide) rfl (fun ls hl => ?_)
  exact lp_2_stepOrder_91 S hR hk_r0  FU _ _ _ _ _ _  hG (lv_sub hl [2, 1, 0] rfl) hf
set_option maxHeartbeats 4000000 in
set_option maxRecDepth 100000 in
theorem w_2_stepOrder_47 {r0 : Nat} {x1 : Int32} {Q : Int32 → St → Prop} {B47 : Int32 → St → Prop} {x2 : Int32} {σ : St} {H : Heap} {locs : List Loc} {ls : Array Slot} (S : SC A D ac st p m c prog_4_method_3_code 5 s args "SweeperRounds$Orders" R cells slots 1 23) (hR : RtZ A D ac ad p l e R s m args below meth c prog_4_method_3_code cells slots QW Q) (hk_r0 : kd r0 = 2) (hB47 : ∀ (x2 : Int32) (σ : St) (H : Heap) (locs : List Loc) (ls : Array Slot), DG A D ac ad s σ H locs → lv_has ls 5 [(0, .ref (ad r0)), (1, .int x1), (2, .int x2)] → B47 x2 σ → W p l e R s m args below meth c H locs cells slots QW (F0 m 47 ls [])) (hG : DG A D ac ad s σ H locs) (hl : lv_has ls 5 [(0, .ref (ad r0)), (1, .int x1), (2, .int x2)]) (hf : m_2_stepOrder_47 r0 x1 Q B47 x2 σ) : W p l e R s m args below meth c H locs cells slots QW (F0 m 47 ls []) := by
  have hx := S.1.1
  have hb := S.1.2.1
  unfold m_2_stepOrder_47 at hf
  refine lv_iload_n hx hb d_2_stepOrder_47 rfl (lv_at hl 2 rfl) ?_
  refine lv_iload_n hx hb d_2_stepOrder_48 rfl (lv_at hl 1 rfl) ?_
  refine lv_icmp_le (tgt := 73) hx hb d_2_stepOrder_49 (by decide) (fun hc => ?_) (fun hc => ?_)
  · have hf := hf.1 hc
    exact w_2_stepOrder_73 S hR hk_r0    hG (lv_sub hl [0, 1, 2] rfl) hf
  · have hf := hf.2 hc
    refine lv_aload_n hx hb d_2_stepOrder_52 rfl (lv_at hl 0 rfl) ?_
    refine gf_2_15 S hG hk_r0 d_2_stepOrder_53 ?_
    refine lv_iload_n hx hb d_2_stepOrder_56 rfl (lv_at hl 2 rfl) ?_
    refine mia S hG 29 rfl rfl (kr_2_2 hk_r0) hf.1 d_2_stepOrder_57 ?_
    have hf := hf.2
    refine lv_aload_n hx hb d_2_stepOrder_58 rfl (lv_at hl 0 rfl) ?_
    refine gf_2_15 S hG hk_r0 d_2_stepOrder_59 ?_
    refine lv_iload_n hx hb d_2_stepOrder_62 rfl (lv_at hl 1 rfl) ?_
    refine mia S hG 29 rfl rfl (kr_2_2 hk_r0) hf.1 d_2_stepOrder_63 ?_
    have hf := hf.2
    refine lv_icmp_ge (tgt := 73) hx hb d_2_stepOrder_64 (by decide) (fun hc => ?_) (fun hc => ?_)
    · have hf := hf.1 hc
      exact w_2_stepOrder_73 S hR hk_r0    hG (lv_sub hl [0, 1, 2] rfl) hf
    · have hf := hf.2 hc
      obtain ⟨x2_1, ex2_1⟩ : ∃ y : Int32, y = x2 + (-1) := ⟨_, rfl⟩
      have hf := hf x2_1 ex2_1
      refine lv_iinc (v := x2_1) (lv' := [(2, .int x2_1), (0, .ref (ad r0)), (1, .int x1)]) hx hb d_2_stepOrder_67 hl (k := 2) rfl (by rw [ex2_1]; rfl) (by decide) rfl (fun ls hl => ?_)
      refine lv_goto (tgt := 47) hx hb d_2_stepOrder_70 (by decide) ?_
      exact hB47 _ _ _ _ _  hG (lv_sub hl [1, 2, 0] rfl) hf
set_option maxHeartbeats 4000000 in
set_option maxRecDepth 100000 in
theorem lp_2_stepOrder_47 {r0 : Nat} {x1 : Int32} {Q : Int32 → St → Prop} (S : SC A D ac st p m c prog_4_method_3_code 5 s args "SweeperRounds$Orders" R cells slots 1 23) (hR : RtZ A D ac ad p l e R s m args below meth c prog_4_method_3_code cells slots QW Q) (hk_r0 : kd r0 = 2) : ∀ (n : Nat) (x2 : Int32) (σ : St) (H : Heap) (locs : List Loc) (ls : Array Slot), DG A D ac ad s σ H locs → lv_has ls 5 [(0, .ref (ad r0)), (1, .int x1), (2, .int x2)] → itN (m_2_stepOrder_47 r0 x1 Q) (fun _ _ => False) n x2 σ → W p l e R s m args below meth c H locs cells slots QW (F0 m 47 ls []) := by
  intro n
  induction n with
  | zero =>
    intro x2 σ H locs ls  hG hl hf
    exact hf.elim
  | succ n ih =>
    intro x2 σ H locs ls  hG hl hf
    exact w_2_stepOrder_47 S hR hk_r0  ih hG hl hf
set_option maxHeartbeats 4000000 in
set_option maxRecDepth 100000 in
theorem w_2_stepOrder_34 {r0 : Nat} {x1 : Int32} {Q : Int32 → St → Prop} {σ : St} {H : Heap} {locs : List Loc} {ls : Array Slot} (S : SC A D ac st p m c prog_4_method_3_code 5 s args "SweeperRounds$Orders" R cells slots 1 23) (hR : RtZ A D ac ad p l e R s m args below meth c prog_4_method_3_code cells slots QW Q) (hk_r0 : kd r0 = 2) (hG : DG A D ac ad s σ H locs) (hl : lv_has ls 5 [(0, .ref (ad r0)), (1, .int x1)]) (hf : m_2_stepOrder_34 r0 x1 Q σ) : W p l e R s m args below meth c H locs cells slots QW (F0 m 34 ls []) := by
  have hx := S.1.1
  have hb := S.1.2.1
  unfold m_2_stepOrder_34 at hf
  refine lv_iload_n hx hb d_2_stepOrder_34 rfl (lv_at hl 1 rfl) ?_
  refine lv_if_ge (tgt := 40) hx hb d_2_stepOrder_35 (by decide) (fun hc => ?_) (fun hc => ?_)
  · have hf := hf.1 hc
    refine lv_aload_n hx hb d_2_stepOrder_40 rfl (lv_at hl 0 rfl) ?_
    refine gf_2_30 S hG hk_r0 d_2_stepOrder_41 ?_
    refine lv_iconst (v := (1 : Int32)) hx hb d_2_stepOrder_44 (by decide) ?_
    refine lv_isub hx hb d_2_stepOrder_45 ?_
    refine lv_topi (fun x2_1 ex2_1 => ?_)
    have hf := hf x2_1 ex2_1
    refine lv_istore_n (lv' := [(2, .int x2_1), (0, .ref (ad r0)), (1, .int x1)]) hx hb d_2_stepOrder_46 rfl hl (by decide) rfl (fun ls hl => ?_)
    exact lp_2_stepOrder_47 S hR hk_r0  FU _ _ _ _ _  hG (lv_sub hl [1, 2, 0] rfl) hf
  · have hf := hf.2 hc
    refine lv_iconst (v := (0 : Int32)) hx hb d_2_stepOrder_38 (by decide) ?_
    exact hR _ _ _ _ _ _ hG (by unfold isB; decide) hf d_2_stepOrder_39
set_option maxHeartbeats 4000000 in
set_option maxRecDepth 100000 in
theorem w_2_stepOrder_7 {r0 : Nat} {Q : Int32 → St → Prop} {B7 : Int32 → St → Prop} {x1 : Int32} {σ : St} {H : Heap} {locs : List Loc} {ls : Array Slot} (S : SC A D ac st p m c prog_4_method_3_code 5 s args "SweeperRounds$Orders" R cells slots 1 23) (hR : RtZ A D ac ad p l e R s m args below meth c prog_4_method_3_code cells slots QW Q) (hk_r0 : kd r0 = 2) (hB7 : ∀ (x1 : Int32) (σ : St) (H : Heap) (locs : List Loc) (ls : Array Slot), DG A D ac ad s σ H locs → lv_has ls 5 [(0, .ref (ad r0)), (1, .int x1)] → B7 x1 σ → W p l e R s m args below meth c H locs cells slots QW (F0 m 7 ls [])) (hG : DG A D ac ad s σ H locs) (hl : lv_has ls 5 [(0, .ref (ad r0)), (1, .int x1)]) (hf : m_2_stepOrder_7 r0 Q B7 x1 σ) : W p l e R s m args below meth c H locs cells slots QW (F0 m 7 ls []) := by
  have hx := S.1.1
  have hb := S.1.2.1
  unfold m_2_stepOrder_7 at hf
  refine lv_iload_n hx hb d_2_stepOrder_7 rfl (lv_at hl 1 rfl) ?_
  refine lv_if_lt (tgt := 34) hx hb d_2_stepOrder_8 (by decide) (fun hc => ?_) (fun hc => ?_)
  · have hf := hf.1 hc
    exact w_2_stepOrder_34 S hR hk_r0    hG (lv_sub hl [0, 1] rfl) hf
  · have hf := hf.2 hc
    refine lv_aload_n hx hb d_2_stepOrder_11 rfl (lv_at hl 0 rfl) ?_
    refine gf_2_15 S hG hk_r0 d_2_stepOrder_12 ?_
    refine lv_iload_n hx hb d_2_stepOrder_15 rfl (lv_at hl 1 rfl) ?_
    refine mia S hG 29 rfl rfl (kr_2_2 hk_r0) hf.1 d_2_stepOrder_16 ?_
    have hf := hf.2
    refine lv_aload_n hx hb d_2_stepOrder_17 rfl (lv_at hl 0 rfl) ?_
    refine gf_2_15 S hG hk_r0 d_2_stepOrder_18 ?_
    refine lv_iload_n hx hb d_2_stepOrder_21 rfl (lv_at hl 1 rfl) ?_
    refine lv_iconst (v := (1 : Int32)) hx hb d_2_stepOrder_22 (by decide) ?_
    refine lv_iadd hx hb d_2_stepOrder_23 ?_
    refine mia S hG 29 rfl rfl (kr_2_2 hk_r0) hf.1 d_2_stepOrder_24 ?_
    have hf := hf.2
    refine lv_icmp_le (tgt := 34) hx hb d_2_stepOrder_25 (by decide) (fun hc => ?_) (fun hc => ?_)
    · have hf := hf.1 hc
      exact w_2_stepOrder_34 S hR hk_r0    hG (lv_sub hl [0, 1] rfl) hf
    · have hf := hf.2 hc
      obtain ⟨x1_1, ex1_1⟩ : ∃ y : Int32, y = x1 + (-1) := ⟨_, rfl⟩
      have hf := hf x1_1 ex1_1
      refine lv_iinc (v := x1_1) (lv' := [(1, .int x1_1), (0, .ref (ad r0))]) hx hb d_2_stepOrder_28 hl (k := 1) rfl (by rw [ex1_1]; rfl) (by decide) rfl (fun ls hl => ?_)
      refine lv_goto (tgt := 7) hx hb d_2_stepOrder_31 (by decide) ?_
      exact hB7 _ _ _ _ _  hG (lv_sub hl [1, 0] rfl) hf
set_option maxHeartbeats 4000000 in
set_option maxRecDepth 100000 in
theorem lp_2_stepOrder_7 {r0 : Nat} {Q : Int32 → St → Prop} (S : SC A D ac st p m c prog_4_method_3_code 5 s args "SweeperRounds$Orders" R cells slots 1 23) (hR : RtZ A D ac ad p l e R s m args below meth c prog_4_method_3_code cells slots QW Q) (hk_r0 : kd r0 = 2) : ∀ (n : Nat) (x1 : Int32) (σ : St) (H : Heap) (locs : List Loc) (ls : Array Slot), DG A D ac ad s σ H locs → lv_has ls 5 [(0, .ref (ad r0)), (1, .int x1)] → itN (m_2_stepOrder_7 r0 Q) (fun _ _ => False) n x1 σ → W p l e R s m args below meth c H locs cells slots QW (F0 m 7 ls []) := by
  intro n
  induction n with
  | zero =>
    intro x1 σ H locs ls  hG hl hf
    exact hf.elim
  | succ n ih =>
    intro x1 σ H locs ls  hG hl hf
    exact w_2_stepOrder_7 S hR hk_r0  ih hG hl hf
set_option maxHeartbeats 4000000 in
set_option maxRecDepth 100000 in
theorem w_2_stepOrder_0 {r0 : Nat} {Q : Int32 → St → Prop} {σ : St} {H : Heap} {locs : List Loc} {ls : Array Slot} (S : SC A D ac st p m c prog_4_method_3_code 5 s args "SweeperRounds$Orders" R cells slots 1 23) (hR : RtZ A D ac ad p l e R s m args below meth c prog_4_method_3_code cells slots QW Q) (hk_r0 : kd r0 = 2) (hG : DG A D ac ad s σ H locs) (hl : lv_has ls 5 [(0, .ref (ad r0))]) (hf : m_2_stepOrder r0 Q σ) : W p l e R s m args below meth c H locs cells slots QW (F0 m 0 ls []) := by
  have hx := S.1.1
  have hb := S.1.2.1
  unfold m_2_stepOrder at hf
  refine lv_aload_n hx hb d_2_stepOrder_0 rfl (lv_at hl 0 rfl) ?_
  refine gf_2_30 S hG hk_r0 d_2_stepOrder_1 ?_
  refine lv_iconst (v := (2 : Int32)) hx hb d_2_stepOrder_4 (by decide) ?_
  refine lv_isub hx hb d_2_stepOrder_5 ?_
  refine lv_topi (fun x1_1 ex1_1 => ?_)
  have hf := hf x1_1 ex1_1
  refine lv_istore_n (lv' := [(1, .int x1_1), (0, .ref (ad r0))]) hx hb d_2_stepOrder_6 rfl hl (by decide) rfl (fun ls hl => ?_)
  exact lp_2_stepOrder_7 S hR hk_r0  FU _ _ _ _ _  hG (lv_sub hl [1, 0] rfl) hf
theorem c_2_stepOrder (l : Launch) {D : va_G} {ac : Nat → ClassId} {ad st : Nat → Nat} {A : Nat → Prop} {σ : St} {r0 : Nat} {Q : Int32 → St → Prop} (hk_r0 : kd r0 = 2) (hf : m_2_stepOrder r0 Q σ) : Met l y_2_stepOrder (Cond.code y_2_stepOrder prog_4_method_3_code 5 (some .boolean) :: wA) { frames := 1, cells := 0, slots := 0, locals := 23 } (va_Pc [.ref (ad r0)] (GSt A D ac ad st σ)) (va_Qi Q (GSt A D ac ad st) A) 0 0 A :=
  mkZ l (by decide +kernel) rfl [.ref (ad r0)] (Nat.le_of_ble_eq_true rfl) (fun p e s m args below meth c ls QW S hR hG hl => w_2_stepOrder_0 S hR hk_r0 hG hl hf)
set_option maxHeartbeats 4000000 in
set_option maxRecDepth 100000 in
theorem w_2_search_155 {r0 : Nat} {r1 : Nat} {r2 : Nat} {r3 : Nat} {x5 : Int32} {B51 : Int32 → Int32 → St → Prop} {Q : St → Prop} {σ : St} {H : Heap} {locs : List Loc} {ls : Array Slot} (S : SC A D ac st p m c prog_4_method_2_code 7 s args "SweeperRounds$Orders" R cells slots 4 100) (hR : RtV A D ac ad p l e R s m args below meth c prog_4_method_2_code cells slots QW Q) (hk_r0 : kd r0 = 2) (hk_r1 : kd r1 = 8) (hk_r2 : kd r2 = 8) (hk_r3 : kd r3 = 5) (hB51 : ∀ (x4 : Int32) (x5 : Int32) (σ : St) (H : Heap) (locs : List Loc) (ls : Array Slot), DG A D ac ad s σ H locs → lv_has ls 7 [(0, .ref (ad r0)), (1, .ref (ad r1)), (2, .ref (ad r2)), (3, .ref (ad r3)), (4, .int x4), (5, .int x5)] → B51 x4 x5 σ → W p l e R s m args below meth c H locs cells slots QW (F0 m 51 ls [])) (hG : DG A D ac ad s σ H locs) (hl : lv_has ls 7 [(0, .ref (ad r0)), (1, .ref (ad r1)), (2, .ref (ad r2)), (3, .ref (ad r3)), (5, .int x5)]) (hf : m_2_search_155 r0 r1 r2 r3 x5 B51 Q σ) : W p l e R s m args below meth c H locs cells slots QW (F0 m 155 ls []) := by
  have hx := S.1.1
  have hb := S.1.2.1
  unfold m_2_search_155 at hf
  refine lv_aload_n hx hb d_2_search_155 rfl (lv_at hl 0 rfl) ?_
  refine iv_2_69 S hl.1 hG hk_r0 (c_2_stepOrder l hk_r0 hf) ⟨Nat.le_of_ble_eq_true rfl, Nat.le_of_ble_eq_true rfl⟩ (Nat.le_of_ble_eq_true rfl) d_2_search_156 (fun v_2 σ_1 hf H locs hG => ?_)
  refine lv_istore (lv' := [(4, .int v_2), (0, .ref (ad r0)), (1, .ref (ad r1)), (2, .ref (ad r2)), (3, .ref (ad r3)), (5, .int x5)]) hx hb d_2_search_159 hl (by decide) rfl (fun ls hl => ?_)
  obtain ⟨x5_3, ex5_3⟩ : ∃ y : Int32, y = x5 + 1 := ⟨_, rfl⟩
  have hf := hf x5_3 ex5_3
  refine lv_iinc (v := x5_3) (lv' := [(5, .int x5_3), (4, .int v_2), (0, .ref (ad r0)), (1, .ref (ad r1)), (2, .ref (ad r2)), (3, .ref (ad r3))]) hx hb d_2_search_161 hl (k := 5) rfl (by rw [ex5_3]; rfl) (by decide) rfl (fun ls hl => ?_)
  refine lv_goto (tgt := 51) hx hb d_2_search_164 (by decide) ?_
  exact hB51 _ _ _ _ _ _  hG (lv_sub hl [2, 3, 4, 5, 1, 0] rfl) hf
set_option maxHeartbeats 4000000 in
set_option maxRecDepth 100000 in
theorem w_2_search_72 {r0 : Nat} {r1 : Nat} {r2 : Nat} {r3 : Nat} {x5 : Int32} {B51 : Int32 → Int32 → St → Prop} {Q : St → Prop} {B72 : Int32 → St → Prop} {x6 : Int32} {σ : St} {H : Heap} {locs : List Loc} {ls : Array Slot} (S : SC A D ac st p m c prog_4_method_2_code 7 s args "SweeperRounds$Orders" R cells slots 4 100) (hR : RtV A D ac ad p l e R s m args below meth c prog_4_method_2_code cells slots QW Q) (hk_r0 : kd r0 = 2) (hk_r1 : kd r1 = 8) (hk_r2 : kd r2 = 8) (hk_r3 : kd r3 = 5) (hB51 : ∀ (x4 : Int32) (x5 : Int32) (σ : St) (H : Heap) (locs : List Loc) (ls : Array Slot), DG A D ac ad s σ H locs → lv_has ls 7 [(0, .ref (ad r0)), (1, .ref (ad r1)), (2, .ref (ad r2)), (3, .ref (ad r3)), (4, .int x4), (5, .int x5)] → B51 x4 x5 σ → W p l e R s m args below meth c H locs cells slots QW (F0 m 51 ls [])) (hB72 : ∀ (x6 : Int32) (σ : St) (H : Heap) (locs : List Loc) (ls : Array Slot), DG A D ac ad s σ H locs → lv_has ls 7 [(0, .ref (ad r0)), (1, .ref (ad r1)), (2, .ref (ad r2)), (3, .ref (ad r3)), (5, .int x5), (6, .int x6)] → B72 x6 σ → W p l e R s m args below meth c H locs cells slots QW (F0 m 72 ls [])) (hG : DG A D ac ad s σ H locs) (hl : lv_has ls 7 [(0, .ref (ad r0)), (1, .ref (ad r1)), (2, .ref (ad r2)), (3, .ref (ad r3)), (5, .int x5), (6, .int x6)]) (hf : m_2_search_72 r0 r1 r2 r3 x5 B51 Q B72 x6 σ) : W p l e R s m args below meth c H locs cells slots QW (F0 m 72 ls []) := by
  have hx := S.1.1
  have hb := S.1.2.1
  unfold m_2_search_72 at hf
  refine lv_iload hx hb d_2_search_72 (lv_at hl 5 rfl) ?_
  refine lv_aload_n hx hb d_2_search_74 rfl (lv_at hl 0 rfl) ?_
  refine gf_2_30 S hG hk_r0 d_2_search_75 ?_
  refine lv_icmp_ge (tgt := 109) hx hb d_2_search_78 (by decide) (fun hc => ?_) (fun hc => ?_)
  · have hf := hf.1 hc
    refine lv_aload_n hx hb d_2_search_109 rfl (lv_at hl 3 rfl) ?_
    refine iv_2_49 S hl.1 hG hk_r3 (c_5_carryOut l hk_r3 hf) ⟨Nat.le_of_ble_eq_true rfl, Nat.le_of_ble_eq_true rfl⟩ (Nat.le_of_ble_eq_true rfl) d_2_search_110 (fun σ_1 hf H locs hG => ?_)
    refine lv_aload_n hx hb d_2_search_113 rfl (lv_at hl 2 rfl) ?_
    refine gf_2_54 S hG hk_r2 d_2_search_114 ?_
    refine gf_2_58 S hG (kr_8_9 hk_r2) d_2_search_117 ?_
    refine lv_aload_n hx hb d_2_search_120 rfl (lv_at hl 0 rfl) ?_
    refine gf_2_33 S hG hk_r0 d_2_search_121 ?_
    refine lv_icmp_le (tgt := 155) hx hb d_2_search_124 (by decide) (fun hc => ?_) (fun hc => ?_)
    · have hf := hf.1 hc
      exact w_2_search_155 S hR hk_r0 hk_r1 hk_r2 hk_r3   hB51 hG (lv_sub hl [0, 1, 2, 3, 4] rfl) hf
    · have hf := hf.2 hc
      refine lv_aload_n hx hb d_2_search_127 rfl (lv_at hl 0 rfl) ?_
      refine lv_aload_n hx hb d_2_search_128 rfl (lv_at hl 2 rfl) ?_
      refine gf_2_54 S hG hk_r2 d_2_search_129 ?_
      refine gf_2_58 S hG (kr_8_9 hk_r2) d_2_search_132 ?_
      refine pf_2_33 S hG hk_r0 d_2_search_135 (fun σ_3 eσ_3 H locs hG => ?_)
      have hf := hf σ_3 eσ_3
      refine lv_aload_n hx hb d_2_search_138 rfl (lv_at hl 0 rfl) ?_
      refine gf_2_15 S hG hk_r0 d_2_search_139 ?_
      refine lv_iconst (v := (0 : Int32)) hx hb d_2_search_142 (by decide) ?_
      refine lv_aload_n hx hb d_2_search_143 rfl (lv_at hl 0 rfl) ?_
      refine gf_2_9 S hG hk_r0 d_2_search_144 ?_
      refine lv_iconst (v := (0 : Int32)) hx hb d_2_search_147 (by decide) ?_
      refine lv_aload_n hx hb d_2_search_148 rfl (lv_at hl 0 rfl) ?_
      refine gf_2_30 S hG hk_r0 d_2_search_149 ?_
      refine mcp S hl.1 hG wm_730 wm_245 wm_244 wm_73 29 28 rfl rfl rfl rfl (kr_2_2 hk_r0) (kr_2_0 hk_r0) hf.1 hf.2.1 hf.2.2.1 (by decide) (Nat.le_of_ble_eq_true rfl) d_2_search_152 (fun σ_4 eσ_4 H locs hG => ?_)
      have hf := hf.2.2.2 σ_4 eσ_4
      exact w_2_search_155 S hR hk_r0 hk_r1 hk_r2 hk_r3   hB51 hG (lv_sub hl [0, 1, 2, 3, 4] rfl) hf
  · have hf := hf.2 hc
    refine lv_aload_n hx hb d_2_search_81 rfl (lv_at hl 2 rfl) ?_
    refine gf_2_40 S hG hk_r2 d_2_search_82 ?_
    refine lv_iload hx hb d_2_search_85 (lv_at hl 5 rfl) ?_
    refine mq4 S hG (kr_8_2 hk_r2) hf.1 d_2_search_87 ?_
    have hi_5 := vin_lt hf.1
    have hf := hf.2
    refine lv_aload_n hx hb d_2_search_88 rfl (lv_at hl 1 rfl) ?_
    refine gf_2_40 S hG hk_r1 d_2_search_89 ?_
    refine lv_aload_n hx hb d_2_search_92 rfl (lv_at hl 0 rfl) ?_
    refine gf_2_15 S hG hk_r0 d_2_search_93 ?_
    refine lv_iload hx hb d_2_search_96 (lv_at hl 5 rfl) ?_
    refine mia S hG 29 rfl rfl (kr_2_2 hk_r0) hf.1 d_2_search_98 ?_
    have hf := hf.2
    refine mq4 S hG (kr_8_2 hk_r1) hf.1 d_2_search_99 ?_
    have hi_6 := vin_lt hf.1
    have hf := hf.2
    refine iv_2_44 S hl.1 hG (ke_24 (kr_8_2 hk_r2) hi_5) (c_1_copyFrom l (ke_24 (kr_8_2 hk_r2) hi_5) (ke_24 (kr_8_2 hk_r1) hi_6) hf) ⟨Nat.le_of_ble_eq_true rfl, Nat.le_of_ble_eq_true rfl⟩ (Nat.le_of_ble_eq_true rfl) d_2_search_100 (fun σ_7 hf H locs hG => ?_)
    obtain ⟨x6_9, ex6_9⟩ : ∃ y : Int32, y = x6 + 1 := ⟨_, rfl⟩
    have hf := hf x6_9 ex6_9
    refine lv_iinc (v := x6_9) (lv' := [(6, .int x6_9), (0, .ref (ad r0)), (1, .ref (ad r1)), (2, .ref (ad r2)), (3, .ref (ad r3)), (5, .int x5)]) hx hb d_2_search_103 hl (k := 5) rfl (by rw [ex6_9]; rfl) (by decide) rfl (fun ls hl => ?_)
    refine lv_goto (tgt := 72) hx hb d_2_search_106 (by decide) ?_
    exact hB72 _ _ _ _ _  hG (lv_sub hl [1, 2, 3, 4, 5, 0] rfl) hf
set_option maxHeartbeats 4000000 in
set_option maxRecDepth 100000 in
theorem lp_2_search_72 {r0 : Nat} {r1 : Nat} {r2 : Nat} {r3 : Nat} {x5 : Int32} {B51 : Int32 → Int32 → St → Prop} {Q : St → Prop} (S : SC A D ac st p m c prog_4_method_2_code 7 s args "SweeperRounds$Orders" R cells slots 4 100) (hR : RtV A D ac ad p l e R s m args below meth c prog_4_method_2_code cells slots QW Q) (hk_r0 : kd r0 = 2) (hk_r1 : kd r1 = 8) (hk_r2 : kd r2 = 8) (hk_r3 : kd r3 = 5) (hB51 : ∀ (x4 : Int32) (x5 : Int32) (σ : St) (H : Heap) (locs : List Loc) (ls : Array Slot), DG A D ac ad s σ H locs → lv_has ls 7 [(0, .ref (ad r0)), (1, .ref (ad r1)), (2, .ref (ad r2)), (3, .ref (ad r3)), (4, .int x4), (5, .int x5)] → B51 x4 x5 σ → W p l e R s m args below meth c H locs cells slots QW (F0 m 51 ls [])) : ∀ (n : Nat) (x6 : Int32) (σ : St) (H : Heap) (locs : List Loc) (ls : Array Slot), DG A D ac ad s σ H locs → lv_has ls 7 [(0, .ref (ad r0)), (1, .ref (ad r1)), (2, .ref (ad r2)), (3, .ref (ad r3)), (5, .int x5), (6, .int x6)] → itN (m_2_search_72 r0 r1 r2 r3 x5 B51 Q) (fun _ _ => False) n x6 σ → W p l e R s m args below meth c H locs cells slots QW (F0 m 72 ls []) := by
  intro n
  induction n with
  | zero =>
    intro x6 σ H locs ls  hG hl hf
    exact hf.elim
  | succ n ih =>
    intro x6 σ H locs ls  hG hl hf
    exact w_2_search_72 S hR hk_r0 hk_r1 hk_r2 hk_r3 hB51 ih hG hl hf
set_option maxHeartbeats 4000000 in
set_option maxRecDepth 100000 in
theorem w_2_search_51 {r0 : Nat} {r1 : Nat} {r2 : Nat} {r3 : Nat} {Q : St → Prop} {B51 : Int32 → Int32 → St → Prop} {x4 : Int32} {x5 : Int32} {σ : St} {H : Heap} {locs : List Loc} {ls : Array Slot} (S : SC A D ac st p m c prog_4_method_2_code 7 s args "SweeperRounds$Orders" R cells slots 4 100) (hR : RtV A D ac ad p l e R s m args below meth c prog_4_method_2_code cells slots QW Q) (hk_r0 : kd r0 = 2) (hk_r1 : kd r1 = 8) (hk_r2 : kd r2 = 8) (hk_r3 : kd r3 = 5) (hB51 : ∀ (x4 : Int32) (x5 : Int32) (σ : St) (H : Heap) (locs : List Loc) (ls : Array Slot), DG A D ac ad s σ H locs → lv_has ls 7 [(0, .ref (ad r0)), (1, .ref (ad r1)), (2, .ref (ad r2)), (3, .ref (ad r3)), (4, .int x4), (5, .int x5)] → B51 x4 x5 σ → W p l e R s m args below meth c H locs cells slots QW (F0 m 51 ls [])) (hG : DG A D ac ad s σ H locs) (hl : lv_has ls 7 [(0, .ref (ad r0)), (1, .ref (ad r1)), (2, .ref (ad r2)), (3, .ref (ad r3)), (4, .int x4), (5, .int x5)]) (hf : m_2_search_51 r0 r1 r2 r3 Q B51 x4 x5 σ) : W p l e R s m args below meth c H locs cells slots QW (F0 m 51 ls []) := by
  have hx := S.1.1
  have hb := S.1.2.1
  unfold m_2_search_51 at hf
  refine lv_iload hx hb d_2_search_51 (lv_at hl 5 rfl) ?_
  refine lv_sipush (v := (720 : Int32)) hx hb d_2_search_53 (by decide) ?_
  refine lv_icmp_ge (tgt := 167) hx hb d_2_search_56 (by decide) (fun hc => ?_) (fun hc => ?_)
  · have hf := hf.1 hc
    exact hR _ _ _ _ _ hG hf d_2_search_167
  · have hf := hf.2 hc
    refine lv_iload hx hb d_2_search_59 (lv_at hl 4 rfl) ?_
    refine lv_if_eq (tgt := 167) hx hb d_2_search_61 (by decide) (fun hc => ?_) (fun hc => ?_)
    · have hf := hf.1 hc
      exact hR _ _ _ _ _ hG hf d_2_search_167
    · have hf := hf.2 hc
      refine lv_aload_n hx hb d_2_search_64 rfl (lv_at hl 2 rfl) ?_
      refine lv_aload_n hx hb d_2_search_65 rfl (lv_at hl 1 rfl) ?_
      refine iv_2_36 S hl.1 hG hk_r2 (c_8_copyFrom l hk_r2 hk_r1 hf) ⟨Nat.le_of_ble_eq_true rfl, Nat.le_of_ble_eq_true rfl⟩ (Nat.le_of_ble_eq_true rfl) d_2_search_66 (fun σ_1 hf H locs hG => ?_)
      refine lv_iconst (v := (0 : Int32)) hx hb d_2_search_69 (by decide) ?_
      refine lv_istore (lv' := [(6, .int (0 : Int32)), (0, .ref (ad r0)), (1, .ref (ad r1)), (2, .ref (ad r2)), (3, .ref (ad r3)), (4, .int x4), (5, .int x5)]) hx hb d_2_search_70 hl (by decide) rfl (fun ls hl => ?_)
      exact lp_2_search_72 S hR hk_r0 hk_r1 hk_r2 hk_r3 hB51 FU _ _ _ _ _  hG (lv_sub hl [1, 2, 3, 4, 6, 0] rfl) hf
set_option maxHeartbeats 4000000 in
set_option maxRecDepth 100000 in
theorem lp_2_search_51 {r0 : Nat} {r1 : Nat} {r2 : Nat} {r3 : Nat} {Q : St → Prop} (S : SC A D ac st p m c prog_4_method_2_code 7 s args "SweeperRounds$Orders" R cells slots 4 100) (hR : RtV A D ac ad p l e R s m args below meth c prog_4_method_2_code cells slots QW Q) (hk_r0 : kd r0 = 2) (hk_r1 : kd r1 = 8) (hk_r2 : kd r2 = 8) (hk_r3 : kd r3 = 5) : ∀ (n : Nat) (x4 : Int32) (x5 : Int32) (σ : St) (H : Heap) (locs : List Loc) (ls : Array Slot), DG A D ac ad s σ H locs → lv_has ls 7 [(0, .ref (ad r0)), (1, .ref (ad r1)), (2, .ref (ad r2)), (3, .ref (ad r3)), (4, .int x4), (5, .int x5)] → itN (m_2_search_51 r0 r1 r2 r3 Q) (fun _ _ _ => False) n x4 x5 σ → W p l e R s m args below meth c H locs cells slots QW (F0 m 51 ls []) := by
  intro n
  induction n with
  | zero =>
    intro x4 x5 σ H locs ls  hG hl hf
    exact hf.elim
  | succ n ih =>
    intro x4 x5 σ H locs ls  hG hl hf
    exact w_2_search_51 S hR hk_r0 hk_r1 hk_r2 hk_r3  ih hG hl hf
set_option maxHeartbeats 4000000 in
set_option maxRecDepth 100000 in
theorem w_2_search_16 {r0 : Nat} {r1 : Nat} {r2 : Nat} {r3 : Nat} {Q : St → Prop} {B16 : Int32 → St → Prop} {x4 : Int32} {σ : St} {H : Heap} {locs : List Loc} {ls : Array Slot} (S : SC A D ac st p m c prog_4_method_2_code 7 s args "SweeperRounds$Orders" R cells slots 4 100) (hR : RtV A D ac ad p l e R s m args below meth c prog_4_method_2_code cells slots QW Q) (hk_r0 : kd r0 = 2) (hk_r1 : kd r1 = 8) (hk_r2 : kd r2 = 8) (hk_r3 : kd r3 = 5) (hB16 : ∀ (x4 : Int32) (σ : St) (H : Heap) (locs : List Loc) (ls : Array Slot), DG A D ac ad s σ H locs → lv_has ls 7 [(0, .ref (ad r0)), (1, .ref (ad r1)), (2, .ref (ad r2)), (3, .ref (ad r3)), (4, .int x4)] → B16 x4 σ → W p l e R s m args below meth c H locs cells slots QW (F0 m 16 ls [])) (hG : DG A D ac ad s σ H locs) (hl : lv_has ls 7 [(0, .ref (ad r0)), (1, .ref (ad r1)), (2, .ref (ad r2)), (3, .ref (ad r3)), (4, .int x4)]) (hf : m_2_search_16 r0 r1 r2 r3 Q B16 x4 σ) : W p l e R s m args below meth c H locs cells slots QW (F0 m 16 ls []) := by
  have hx := S.1.1
  have hb := S.1.2.1
  unfold m_2_search_16 at hf
  refine lv_iload hx hb d_2_search_16 (lv_at hl 4 rfl) ?_
  refine lv_aload_n hx hb d_2_search_18 rfl (lv_at hl 0 rfl) ?_
  refine gf_2_30 S hG hk_r0 d_2_search_19 ?_
  refine lv_icmp_ge (tgt := 40) hx hb d_2_search_22 (by decide) (fun hc => ?_) (fun hc => ?_)
  · have hf := hf.1 hc
    refine lv_aload_n hx hb d_2_search_40 rfl (lv_at hl 0 rfl) ?_
    refine lv_iconst (v := (-1 : Int32)) hx hb d_2_search_41 (by decide) ?_
    refine pf_2_33 S hG hk_r0 d_2_search_42 (fun σ_1 eσ_1 H locs hG => ?_)
    have hf := hf σ_1 eσ_1
    refine lv_iconst (v := (1 : Int32)) hx hb d_2_search_45 (by decide) ?_
    refine lv_istore (lv' := [(4, .int (1 : Int32)), (0, .ref (ad r0)), (1, .ref (ad r1)), (2, .ref (ad r2)), (3, .ref (ad r3))]) hx hb d_2_search_46 hl (by decide) rfl (fun ls hl => ?_)
    refine lv_iconst (v := (0 : Int32)) hx hb d_2_search_48 (by decide) ?_
    refine lv_istore (lv' := [(5, .int (0 : Int32)), (4, .int (1 : Int32)), (0, .ref (ad r0)), (1, .ref (ad r1)), (2, .ref (ad r2)), (3, .ref (ad r3))]) hx hb d_2_search_49 hl (by decide) rfl (fun ls hl => ?_)
    exact lp_2_search_51 S hR hk_r0 hk_r1 hk_r2 hk_r3  FU _ _ _ _ _ _  hG (lv_sub hl [2, 3, 4, 5, 1, 0] rfl) hf
  · have hf := hf.2 hc
    refine lv_aload_n hx hb d_2_search_25 rfl (lv_at hl 0 rfl) ?_
    refine gf_2_15 S hG hk_r0 d_2_search_26 ?_
    refine lv_iload hx hb d_2_search_29 (lv_at hl 4 rfl) ?_
    refine lv_iload hx hb d_2_search_31 (lv_at hl 4 rfl) ?_
    refine mis S hG 29 rfl rfl (kr_2_2 hk_r0) hf.1 d_2_search_33 (fun σ_2 eσ_2 H locs hG => ?_)
    have hf := hf.2 σ_2 eσ_2
    obtain ⟨x4_3, ex4_3⟩ : ∃ y : Int32, y = x4 + 1 := ⟨_, rfl⟩
    have hf := hf x4_3 ex4_3
    refine lv_iinc (v := x4_3) (lv' := [(4, .int x4_3), (0, .ref (ad r0)), (1, .ref (ad r1)), (2, .ref (ad r2)), (3, .ref (ad r3))]) hx hb d_2_search_34 hl (k := 4) rfl (by rw [ex4_3]; rfl) (by decide) rfl (fun ls hl => ?_)
    refine lv_goto (tgt := 16) hx hb d_2_search_37 (by decide) ?_
    exact hB16 _ _ _ _ _  hG (lv_sub hl [1, 2, 3, 4, 0] rfl) hf
set_option maxHeartbeats 4000000 in
set_option maxRecDepth 100000 in
theorem lp_2_search_16 {r0 : Nat} {r1 : Nat} {r2 : Nat} {r3 : Nat} {Q : St → Prop} (S : SC A D ac st p m c prog_4_method_2_code 7 s args "SweeperRounds$Orders" R cells slots 4 100) (hR : RtV A D ac ad p l e R s m args below meth c prog_4_method_2_code cells slots QW Q) (hk_r0 : kd r0 = 2) (hk_r1 : kd r1 = 8) (hk_r2 : kd r2 = 8) (hk_r3 : kd r3 = 5) : ∀ (n : Nat) (x4 : Int32) (σ : St) (H : Heap) (locs : List Loc) (ls : Array Slot), DG A D ac ad s σ H locs → lv_has ls 7 [(0, .ref (ad r0)), (1, .ref (ad r1)), (2, .ref (ad r2)), (3, .ref (ad r3)), (4, .int x4)] → itN (m_2_search_16 r0 r1 r2 r3 Q) (fun _ _ => False) n x4 σ → W p l e R s m args below meth c H locs cells slots QW (F0 m 16 ls []) := by
  intro n
  induction n with
  | zero =>
    intro x4 σ H locs ls  hG hl hf
    exact hf.elim
  | succ n ih =>
    intro x4 σ H locs ls  hG hl hf
    exact w_2_search_16 S hR hk_r0 hk_r1 hk_r2 hk_r3  ih hG hl hf
set_option maxHeartbeats 4000000 in
set_option maxRecDepth 100000 in
theorem w_2_search_0 {r0 : Nat} {r1 : Nat} {r2 : Nat} {r3 : Nat} {Q : St → Prop} {σ : St} {H : Heap} {locs : List Loc} {ls : Array Slot} (S : SC A D ac st p m c prog_4_method_2_code 7 s args "SweeperRounds$Orders" R cells slots 4 100) (hR : RtV A D ac ad p l e R s m args below meth c prog_4_method_2_code cells slots QW Q) (hk_r0 : kd r0 = 2) (hk_r1 : kd r1 = 8) (hk_r2 : kd r2 = 8) (hk_r3 : kd r3 = 5) (hG : DG A D ac ad s σ H locs) (hl : lv_has ls 7 [(0, .ref (ad r0)), (1, .ref (ad r1)), (2, .ref (ad r2)), (3, .ref (ad r3))]) (hf : m_2_search r0 r1 r2 r3 Q σ) : W p l e R s m args below meth c H locs cells slots QW (F0 m 0 ls []) := by
  have hx := S.1.1
  have hb := S.1.2.1
  unfold m_2_search at hf
  refine lv_aload_n hx hb d_2_search_0 rfl (lv_at hl 0 rfl) ?_
  refine lv_aload_n hx hb d_2_search_1 rfl (lv_at hl 1 rfl) ?_
  refine gf_2_18 S hG hk_r1 d_2_search_2 ?_
  refine lv_bipush (v := (6 : Int32)) hx hb d_2_search_5 (by decide) ?_
  refine mmn S hl.1 wm_726 wm_472 wm_78 wm_473 (by decide) (Nat.le_of_ble_eq_true rfl) d_2_search_7 ?_
  refine pf_2_30 S hG hk_r0 d_2_search_10 (fun σ_1 eσ_1 H locs hG => ?_)
  have hf := hf σ_1 eσ_1
  refine lv_iconst (v := (0 : Int32)) hx hb d_2_search_13 (by decide) ?_
  refine lv_istore (lv' := [(4, .int (0 : Int32)), (0, .ref (ad r0)), (1, .ref (ad r1)), (2, .ref (ad r2)), (3, .ref (ad r3))]) hx hb d_2_search_14 hl (by decide) rfl (fun ls hl => ?_)
  exact lp_2_search_16 S hR hk_r0 hk_r1 hk_r2 hk_r3  FU _ _ _ _ _  hG (lv_sub hl [1, 2, 3, 4, 0] rfl) hf
theorem c_2_search (l : Launch) {D : va_G} {ac : Nat → ClassId} {ad st : Nat → Nat} {A : Nat → Prop} {σ : St} {r0 : Nat} {r1 : Nat} {r2 : Nat} {r3 : Nat} {Q : St → Prop} (hk_r0 : kd r0 = 2) (hk_r1 : kd r1 = 8) (hk_r2 : kd r2 = 8) (hk_r3 : kd r3 = 5) (hf : m_2_search r0 r1 r2 r3 Q σ) : Met l y_2_search (Cond.code y_2_search prog_4_method_2_code 7 none :: wA) { frames := 4, cells := 0, slots := 0, locals := 100 } (va_Pc [.ref (ad r0), .ref (ad r1), .ref (ad r2), .ref (ad r3)] (GSt A D ac ad st σ)) (va_Qv Q (GSt A D ac ad st) A) 0 0 A :=
  mkV l (by decide +kernel) rfl [.ref (ad r0), .ref (ad r1), .ref (ad r2), .ref (ad r3)] (Nat.le_of_ble_eq_true rfl) (fun p e s m args below meth c ls QW S hR hG hl => w_2_search_0 S hR hk_r0 hk_r1 hk_r2 hk_r3 hG hl hf)
set_option maxHeartbeats 4000000 in
set_option maxRecDepth 100000 in
theorem w_9_bestOrder_0 {r0 : Nat} {x1 : Int32} {x2 : Int32} {Q : Int32 → St → Prop} {σ : St} {H : Heap} {locs : List Loc} {ls : Array Slot} (S : SC A D ac st p m c prog_1_method_22_code 3 s args "SweeperRounds" R cells slots 5 126) (hR : RtI A D ac ad p l e R s m args below meth c prog_1_method_22_code cells slots QW Q) (hk_r0 : kd r0 = 9) (hG : DG A D ac ad s σ H locs) (hl : lv_has ls 3 [(0, .ref (ad r0)), (1, .int x1), (2, .int x2)]) (hf : m_9_bestOrder r0 x1 x2 Q σ) : W p l e R s m args below meth c H locs cells slots QW (F0 m 0 ls []) := by
  have hx := S.1.1
  have hb := S.1.2.1
  unfold m_9_bestOrder at hf
  refine lv_iload_n hx hb d_9_bestOrder_0 rfl (lv_at hl 1 rfl) ?_
  refine lv_if_ge (tgt := 6) hx hb d_9_bestOrder_1 (by decide) (fun hc => ?_) (fun hc => ?_)
  · have hf := hf.1 hc
    refine lv_aload_n hx hb d_9_bestOrder_6 rfl (lv_at hl 0 rfl) ?_
    refine gf_9_26 S hG hk_r0 d_9_bestOrder_7 ?_
    refine gf_9_108 S hG (kr_9_2 hk_r0) d_9_bestOrder_10 ?_
    refine lv_bipush (v := (6 : Int32)) hx hb d_9_bestOrder_13 (by decide) ?_
    refine lv_icmp_le (tgt := 21) hx hb d_9_bestOrder_15 (by decide) (fun hc => ?_) (fun hc => ?_)
    · have hf := hf.1 hc
      refine lv_iload_n hx hb d_9_bestOrder_21 rfl (lv_at hl 1 rfl) ?_
      refine lv_aload_n hx hb d_9_bestOrder_22 rfl (lv_at hl 0 rfl) ?_
      refine gf_9_26 S hG hk_r0 d_9_bestOrder_23 ?_
      refine gf_9_108 S hG (kr_9_2 hk_r0) d_9_bestOrder_26 ?_
      refine lv_icmp_lt (tgt := 35) hx hb d_9_bestOrder_29 (by decide) (fun hc => ?_) (fun hc => ?_)
      · have hf := hf.1 hc
        refine lv_aload_n hx hb d_9_bestOrder_35 rfl (lv_at hl 0 rfl) ?_
        refine gf_9_55 S hG hk_r0 d_9_bestOrder_36 ?_
        refine lv_aload_n hx hb d_9_bestOrder_39 rfl (lv_at hl 0 rfl) ?_
        refine gf_9_26 S hG hk_r0 d_9_bestOrder_40 ?_
        refine lv_aload_n hx hb d_9_bestOrder_43 rfl (lv_at hl 0 rfl) ?_
        refine gf_9_46 S hG hk_r0 d_9_bestOrder_44 ?_
        refine lv_aload_n hx hb d_9_bestOrder_47 rfl (lv_at hl 0 rfl) ?_
        refine gf_9_49 S hG hk_r0 d_9_bestOrder_48 ?_
        refine iv_9_248 S hl.1 hG (kr_9_7 hk_r0) (c_2_search l (kr_9_7 hk_r0) (kr_9_2 hk_r0) (kr_9_5 hk_r0) (kr_9_6 hk_r0) hf) ⟨Nat.le_of_ble_eq_true rfl, Nat.le_of_ble_eq_true rfl⟩ (Nat.le_of_ble_eq_true rfl) d_9_bestOrder_51 (fun σ_1 hf H locs hG => ?_)
        refine lv_iload_n hx hb d_9_bestOrder_54 rfl (lv_at hl 2 rfl) ?_
        refine lv_if_eq (tgt := 68) hx hb d_9_bestOrder_55 (by decide) (fun hc => ?_) (fun hc => ?_)
        · have hf := hf.1 hc
          refine lv_aload_n hx hb d_9_bestOrder_68 rfl (lv_at hl 0 rfl) ?_
          refine gf_9_55 S hG hk_r0 d_9_bestOrder_69 ?_
          refine gf_9_255 S hG (kr_9_7 hk_r0) d_9_bestOrder_72 ?_
          refine lv_iload_n hx hb d_9_bestOrder_75 rfl (lv_at hl 1 rfl) ?_
          refine mia S hG 28 rfl rfl (kr_2_0 (kr_9_7 hk_r0)) hf.1 d_9_bestOrder_76 ?_
          have hf := hf.2
          exact hR _ _ _ _ _ _ hG hf d_9_bestOrder_77
        · have hf := hf.2 hc
          refine lv_aload_n hx hb d_9_bestOrder_58 rfl (lv_at hl 0 rfl) ?_
          refine gf_9_55 S hG hk_r0 d_9_bestOrder_59 ?_
          refine gf_9_252 S hG (kr_9_7 hk_r0) d_9_bestOrder_62 ?_
          refine lv_goto (tgt := 77) hx hb d_9_bestOrder_65 (by decide) ?_
          exact hR _ _ _ _ _ _ hG hf d_9_bestOrder_77
      · have hf := hf.2 hc
        refine lv_bipush (v := (-9 : Int32)) hx hb d_9_bestOrder_32 (by decide) ?_
        exact hR _ _ _ _ _ _ hG hf d_9_bestOrder_34
    · have hf := hf.2 hc
      refine lv_bipush (v := (-2 : Int32)) hx hb d_9_bestOrder_18 (by decide) ?_
      exact hR _ _ _ _ _ _ hG hf d_9_bestOrder_20
  · have hf := hf.2 hc
    refine lv_iconst (v := (-1 : Int32)) hx hb d_9_bestOrder_4 (by decide) ?_
    exact hR _ _ _ _ _ _ hG hf d_9_bestOrder_5
theorem c_9_bestOrder (l : Launch) {D : va_G} {ac : Nat → ClassId} {ad st : Nat → Nat} {A : Nat → Prop} {σ : St} {r0 : Nat} {x1 : Int32} {x2 : Int32} {Q : Int32 → St → Prop} (hk_r0 : kd r0 = 9) (hf : m_9_bestOrder r0 x1 x2 Q σ) : Met l y_9_bestOrder (Cond.code y_9_bestOrder prog_1_method_22_code 3 (some .int) :: wA) { frames := 5, cells := 0, slots := 0, locals := 126 } (va_Pc [.ref (ad r0), .int x1, .int x2] (GSt A D ac ad st σ)) (va_Qi Q (GSt A D ac ad st) A) 0 0 A :=
  mkI l (by decide +kernel) rfl [.ref (ad r0), .int x1, .int x2] (Nat.le_of_ble_eq_true rfl) (fun p e s m args below meth c ls QW S hR hG hl => w_9_bestOrder_0 S hR hk_r0 hG hl hf)
set_option maxHeartbeats 4000000 in
set_option maxRecDepth 100000 in
theorem w_9_nightsUntil_0 {x0 : Int32} {x1 : Int32} {x2 : Int32} {Q : Int32 → St → Prop} {σ : St} {H : Heap} {locs : List Loc} {ls : Array Slot} (S : SC A D ac st p m c prog_1_method_31_code 3 s args "SweeperRounds" R cells slots 0 0) (hR : RtI A D ac ad p l e R s m args below meth c prog_1_method_31_code cells slots QW Q) (hG : DG A D ac ad s σ H locs) (hl : lv_has ls 3 [(0, .int x0), (1, .int x1), (2, .int x2)]) (hf : m_9_nightsUntil x0 x1 x2 Q σ) : W p l e R s m args below meth c H locs cells slots QW (F0 m 0 ls []) := by
  have hx := S.1.1
  have hb := S.1.2.1
  unfold m_9_nightsUntil at hf
  refine lv_iload_n hx hb d_9_nightsUntil_0 rfl (lv_at hl 1 rfl) ?_
  refine lv_iload_n hx hb d_9_nightsUntil_1 rfl (lv_at hl 0 rfl) ?_
  refine lv_icmp_lt (tgt := 7) hx hb d_9_nightsUntil_2 (by decide) (fun hc => ?_) (fun hc => ?_)
  · have hf := hf.1 hc
    refine lv_iload_n hx hb d_9_nightsUntil_7 rfl (lv_at hl 2 rfl) ?_
    refine lv_if_gt (tgt := 14) hx hb d_9_nightsUntil_8 (by decide) (fun hc => ?_) (fun hc => ?_)
    · have hf := hf.1 hc
      refine lv_iload_n hx hb d_9_nightsUntil_14 rfl (lv_at hl 0 rfl) ?_
      refine lv_iload_n hx hb d_9_nightsUntil_15 rfl (lv_at hl 1 rfl) ?_
      refine lv_isub hx hb d_9_nightsUntil_16 ?_
      refine lv_iload_n hx hb d_9_nightsUntil_17 rfl (lv_at hl 2 rfl) ?_
      refine lv_iadd hx hb d_9_nightsUntil_18 ?_
      refine lv_iconst (v := (1 : Int32)) hx hb d_9_nightsUntil_19 (by decide) ?_
      refine lv_isub hx hb d_9_nightsUntil_20 ?_
      refine lv_iload_n hx hb d_9_nightsUntil_21 rfl (lv_at hl 2 rfl) ?_
      refine lv_idiv hx hb d_9_nightsUntil_22 hf.1 ?_
      have hf := hf.2
      exact hR _ _ _ _ _ _ hG hf d_9_nightsUntil_23
    · have hf := hf.2 hc
      refine lv_bipush (v := (101 : Int32)) hx hb d_9_nightsUntil_11 (by decide) ?_
      exact hR _ _ _ _ _ _ hG hf d_9_nightsUntil_13
  · have hf := hf.2 hc
    refine lv_iconst (v := (0 : Int32)) hx hb d_9_nightsUntil_5 (by decide) ?_
    exact hR _ _ _ _ _ _ hG hf d_9_nightsUntil_6
theorem c_9_nightsUntil (l : Launch) {D : va_G} {ac : Nat → ClassId} {ad st : Nat → Nat} {A : Nat → Prop} {σ : St} {x0 : Int32} {x1 : Int32} {x2 : Int32} {Q : Int32 → St → Prop} (hf : m_9_nightsUntil x0 x1 x2 Q σ) : Met l y_9_nightsUntil (Cond.code y_9_nightsUntil prog_1_method_31_code 3 (some .int) :: wA) { frames := 0, cells := 0, slots := 0, locals := 0 } (va_Pc [.int x0, .int x1, .int x2] (GSt A D ac ad st σ)) (va_Qi Q (GSt A D ac ad st) A) 0 0 A :=
  mkI l (by decide +kernel) rfl [.int x0, .int x1, .int x2] (Nat.le_of_ble_eq_true rfl) (fun p e s m args below meth c ls QW S hR hG hl => w_9_nightsUntil_0 S hR hG hl hf)
set_option maxHeartbeats 4000000 in
set_option maxRecDepth 100000 in
theorem w_9_nightsTo_18 {r0 : Nat} {x1 : Int32} {Q : Int32 → St → Prop} {B18 : Int32 → Int32 → St → Prop} {x2 : Int32} {x3 : Int32} {σ : St} {H : Heap} {locs : List Loc} {ls : Array Slot} (S : SC A D ac st p m c prog_1_method_23_code 5 s args "SweeperRounds" R cells slots 2 43) (hR : RtI A D ac ad p l e R s m args below meth c prog_1_method_23_code cells slots QW Q) (hk_r0 : kd r0 = 9) (hB18 : ∀ (x2 : Int32) (x3 : Int32) (σ : St) (H : Heap) (locs : List Loc) (ls : Array Slot), DG A D ac ad s σ H locs → lv_has ls 5 [(0, .ref (ad r0)), (1, .int x1), (2, .int x2), (3, .int x3)] → B18 x2 x3 σ → W p l e R s m args below meth c H locs cells slots QW (F0 m 18 ls [])) (hG : DG A D ac ad s σ H locs) (hl : lv_has ls 5 [(0, .ref (ad r0)), (1, .int x1), (2, .int x2), (3, .int x3)]) (hf : m_9_nightsTo_18 r0 x1 Q B18 x2 x3 σ) : W p l e R s m args below meth c H locs cells slots QW (F0 m 18 ls []) := by
  have hx := S.1.1
  have hb := S.1.2.1
  unfold m_9_nightsTo_18 at hf
  refine lv_iload_n hx hb d_9_nightsTo_18 rfl (lv_at hl 3 rfl) ?_
  refine lv_aload_n hx hb d_9_nightsTo_19 rfl (lv_at hl 0 rfl) ?_
  refine gf_9_26 S hG hk_r0 d_9_nightsTo_20 ?_
  refine gf_9_70 S hG (kr_9_2 hk_r0) d_9_nightsTo_23 ?_
  refine lv_icmp_ge (tgt := 69) hx hb d_9_nightsTo_26 (by decide) (fun hc => ?_) (fun hc => ?_)
  · have hf := hf.1 hc
    refine lv_iload_n hx hb d_9_nightsTo_69 rfl (lv_at hl 2 rfl) ?_
    refine lv_bipush (v := (100 : Int32)) hx hb d_9_nightsTo_70 (by decide) ?_
    refine lv_icmp_gt (tgt := 79) hx hb d_9_nightsTo_72 (by decide) (fun hc => ?_) (fun hc => ?_)
    · have hf := hf.1 hc
      refine lv_bipush (v := (-9 : Int32)) hx hb d_9_nightsTo_79 (by decide) ?_
      exact hR _ _ _ _ _ _ hG hf d_9_nightsTo_81
    · have hf := hf.2 hc
      refine lv_iload_n hx hb d_9_nightsTo_75 rfl (lv_at hl 2 rfl) ?_
      refine lv_goto (tgt := 81) hx hb d_9_nightsTo_76 (by decide) ?_
      exact hR _ _ _ _ _ _ hG hf d_9_nightsTo_81
  · have hf := hf.2 hc
    refine lv_aload_n hx hb d_9_nightsTo_29 rfl (lv_at hl 0 rfl) ?_
    refine gf_9_26 S hG hk_r0 d_9_nightsTo_30 ?_
    refine gf_9_122 S hG (kr_9_2 hk_r0) d_9_nightsTo_33 ?_
    refine lv_iload_n hx hb d_9_nightsTo_36 rfl (lv_at hl 3 rfl) ?_
    refine mq3 S hG (kr_8_0 (kr_9_2 hk_r0)) hf.1 d_9_nightsTo_37 ?_
    have hi_1 := vin_lt hf.1
    have hf := hf.2
    refine lv_topr (fun r4_2 er4_2 => ?_)
    have hf := hf r4_2 er4_2
    have hk_r4_2 : kd r4_2 = 6 := er4_2 ▸ (ke_23 (kr_8_0 (kr_9_2 hk_r0)) hi_1)
    refine lv_astore (lv' := [(4, .ref (ad r4_2)), (0, .ref (ad r0)), (1, .int x1), (2, .int x2), (3, .int x3)]) hx hb d_9_nightsTo_38 hl (by decide) rfl (fun ls hl => ?_)
    refine lv_iload_n hx hb d_9_nightsTo_40 rfl (lv_at hl 3 rfl) ?_
    refine lv_iload_n hx hb d_9_nightsTo_41 rfl (lv_at hl 2 rfl) ?_
    refine lv_aload hx hb d_9_nightsTo_42 (lv_at hl 0 rfl) ?_
    refine iv_9_162 S hl.1 hG hk_r4_2 (c_6_greatestDirt l hk_r4_2 hf) ⟨Nat.le_of_ble_eq_true rfl, Nat.le_of_ble_eq_true rfl⟩ (Nat.le_of_ble_eq_true rfl) d_9_nightsTo_44 (fun v_4 σ_3 hf H locs hG => ?_)
    refine lv_aload_n hx hb d_9_nightsTo_47 rfl (lv_at hl 1 rfl) ?_
    refine gf_9_26 S hG hk_r0 d_9_nightsTo_48 ?_
    refine lv_aload hx hb d_9_nightsTo_51 (lv_at hl 0 rfl) ?_
    refine iv_9_258 S hl.1 hG (kr_9_2 hk_r0) (c_8_fallOn l (kr_9_2 hk_r0) hk_r4_2 hf) ⟨Nat.le_of_ble_eq_true rfl, Nat.le_of_ble_eq_true rfl⟩ (Nat.le_of_ble_eq_true rfl) d_9_nightsTo_53 (fun v_6 σ_5 hf H locs hG => ?_)
    refine iv_9_262 S hl.1 hG  (c_9_nightsUntil l  hf) ⟨Nat.le_of_ble_eq_true rfl, Nat.le_of_ble_eq_true rfl⟩ (Nat.le_of_ble_eq_true rfl) d_9_nightsTo_56 (fun v_8 σ_7 hf H locs hG => ?_)
    refine mmn S hl.1 wm_553 wm_472 wm_78 wm_473 (by decide) (Nat.le_of_ble_eq_true rfl) d_9_nightsTo_59 ?_
    refine lv_topi (fun x2_9 ex2_9 => ?_)
    have hf := hf x2_9 ex2_9
    refine lv_istore_n (lv' := [(2, .int x2_9), (4, .ref (ad r4_2)), (0, .ref (ad r0)), (1, .int x1), (3, .int x3)]) hx hb d_9_nightsTo_62 rfl hl (by decide) rfl (fun ls hl => ?_)
    obtain ⟨x3_10, ex3_10⟩ : ∃ y : Int32, y = x3 + 1 := ⟨_, rfl⟩
    have hf := hf x3_10 ex3_10
    refine lv_iinc (v := x3_10) (lv' := [(3, .int x3_10), (2, .int x2_9), (4, .ref (ad r4_2)), (0, .ref (ad r0)), (1, .int x1)]) hx hb d_9_nightsTo_63 hl (k := 4) rfl (by rw [ex3_10]; rfl) (by decide) rfl (fun ls hl => ?_)
    refine lv_goto (tgt := 18) hx hb d_9_nightsTo_66 (by decide) ?_
    exact hB18 _ _ _ _ _ _  hG (lv_sub hl [3, 4, 1, 0] rfl) hf
set_option maxHeartbeats 4000000 in
set_option maxRecDepth 100000 in
theorem lp_9_nightsTo_18 {r0 : Nat} {x1 : Int32} {Q : Int32 → St → Prop} (S : SC A D ac st p m c prog_1_method_23_code 5 s args "SweeperRounds" R cells slots 2 43) (hR : RtI A D ac ad p l e R s m args below meth c prog_1_method_23_code cells slots QW Q) (hk_r0 : kd r0 = 9) : ∀ (n : Nat) (x2 : Int32) (x3 : Int32) (σ : St) (H : Heap) (locs : List Loc) (ls : Array Slot), DG A D ac ad s σ H locs → lv_has ls 5 [(0, .ref (ad r0)), (1, .int x1), (2, .int x2), (3, .int x3)] → itN (m_9_nightsTo_18 r0 x1 Q) (fun _ _ _ => False) n x2 x3 σ → W p l e R s m args below meth c H locs cells slots QW (F0 m 18 ls []) := by
  intro n
  induction n with
  | zero =>
    intro x2 x3 σ H locs ls  hG hl hf
    exact hf.elim
  | succ n ih =>
    intro x2 x3 σ H locs ls  hG hl hf
    exact w_9_nightsTo_18 S hR hk_r0  ih hG hl hf
set_option maxHeartbeats 4000000 in
set_option maxRecDepth 100000 in
theorem w_9_nightsTo_0 {r0 : Nat} {x1 : Int32} {Q : Int32 → St → Prop} {σ : St} {H : Heap} {locs : List Loc} {ls : Array Slot} (S : SC A D ac st p m c prog_1_method_23_code 5 s args "SweeperRounds" R cells slots 2 43) (hR : RtI A D ac ad p l e R s m args below meth c prog_1_method_23_code cells slots QW Q) (hk_r0 : kd r0 = 9) (hG : DG A D ac ad s σ H locs) (hl : lv_has ls 5 [(0, .ref (ad r0)), (1, .int x1)]) (hf : m_9_nightsTo r0 x1 Q σ) : W p l e R s m args below meth c H locs cells slots QW (F0 m 0 ls []) := by
  have hx := S.1.1
  have hb := S.1.2.1
  unfold m_9_nightsTo at hf
  refine lv_iload_n hx hb d_9_nightsTo_0 rfl (lv_at hl 1 rfl) ?_
  refine lv_iconst (v := (1 : Int32)) hx hb d_9_nightsTo_1 (by decide) ?_
  refine lv_icmp_lt (tgt := 11) hx hb d_9_nightsTo_2 (by decide) (fun hc => ?_) (fun hc => ?_)
  · have hf := hf.1 hc
    refine lv_iconst (v := (-1 : Int32)) hx hb d_9_nightsTo_11 (by decide) ?_
    exact hR _ _ _ _ _ _ hG hf d_9_nightsTo_12
  · have hf := hf.2 hc
    refine lv_iload_n hx hb d_9_nightsTo_5 rfl (lv_at hl 1 rfl) ?_
    refine lv_bipush (v := (99 : Int32)) hx hb d_9_nightsTo_6 (by decide) ?_
    refine lv_icmp_le (tgt := 13) hx hb d_9_nightsTo_8 (by decide) (fun hc => ?_) (fun hc => ?_)
    · have hf := hf.1 hc
      refine lv_bipush (v := (101 : Int32)) hx hb d_9_nightsTo_13 (by decide) ?_
      refine lv_istore_n (lv' := [(2, .int (101 : Int32)), (0, .ref (ad r0)), (1, .int x1)]) hx hb d_9_nightsTo_15 rfl hl (by decide) rfl (fun ls hl => ?_)
      refine lv_iconst (v := (0 : Int32)) hx hb d_9_nightsTo_16 (by decide) ?_
      refine lv_istore_n (lv' := [(3, .int (0 : Int32)), (2, .int (101 : Int32)), (0, .ref (ad r0)), (1, .int x1)]) hx hb d_9_nightsTo_17 rfl hl (by decide) rfl (fun ls hl => ?_)
      exact lp_9_nightsTo_18 S hR hk_r0  FU _ _ _ _ _ _  hG (lv_sub hl [2, 3, 1, 0] rfl) hf
    · have hf := hf.2 hc
      refine lv_iconst (v := (-1 : Int32)) hx hb d_9_nightsTo_11 (by decide) ?_
      exact hR _ _ _ _ _ _ hG hf d_9_nightsTo_12
theorem c_9_nightsTo (l : Launch) {D : va_G} {ac : Nat → ClassId} {ad st : Nat → Nat} {A : Nat → Prop} {σ : St} {r0 : Nat} {x1 : Int32} {Q : Int32 → St → Prop} (hk_r0 : kd r0 = 9) (hf : m_9_nightsTo r0 x1 Q σ) : Met l y_9_nightsTo (Cond.code y_9_nightsTo prog_1_method_23_code 5 (some .int) :: wA) { frames := 2, cells := 0, slots := 0, locals := 43 } (va_Pc [.ref (ad r0), .int x1] (GSt A D ac ad st σ)) (va_Qi Q (GSt A D ac ad st) A) 0 0 A :=
  mkI l (by decide +kernel) rfl [.ref (ad r0), .int x1] (Nat.le_of_ble_eq_true rfl) (fun p e s m args below meth c ls QW S hR hG hl => w_9_nightsTo_0 S hR hk_r0 hG hl hf)
set_option maxHeartbeats 4000000 in
set_option maxRecDepth 100000 in
theorem w_9_account_0 {r0 : Nat} {x1 : Int32} {Q : Int32 → St → Prop} {σ : St} {H : Heap} {locs : List Loc} {ls : Array Slot} (S : SC A D ac st p m c prog_1_method_24_code 2 s args "SweeperRounds" R cells slots 4 86) (hR : RtI A D ac ad p l e R s m args below meth c prog_1_method_24_code cells slots QW Q) (hk_r0 : kd r0 = 9) (hG : DG A D ac ad s σ H locs) (hl : lv_has ls 2 [(0, .ref (ad r0)), (1, .int x1)]) (hf : m_9_account r0 x1 Q σ) : W p l e R s m args below meth c H locs cells slots QW (F0 m 0 ls []) := by
  have hx := S.1.1
  have hb := S.1.2.1
  unfold m_9_account at hf
  refine lv_iload_n hx hb d_9_account_0 rfl (lv_at hl 1 rfl) ?_
  refine lv_if_lt (tgt := 10) hx hb d_9_account_1 (by decide) (fun hc => ?_) (fun hc => ?_)
  · have hf := hf.1 hc
    refine lv_iconst (v := (-1 : Int32)) hx hb d_9_account_10 (by decide) ?_
    exact hR _ _ _ _ _ _ hG hf d_9_account_11
  · have hf := hf.2 hc
    refine lv_iload_n hx hb d_9_account_4 rfl (lv_at hl 1 rfl) ?_
    refine lv_bipush (v := (6 : Int32)) hx hb d_9_account_5 (by decide) ?_
    refine lv_icmp_le (tgt := 12) hx hb d_9_account_7 (by decide) (fun hc => ?_) (fun hc => ?_)
    · have hf := hf.1 hc
      refine lv_iload_n hx hb d_9_account_12 rfl (lv_at hl 1 rfl) ?_
      refine lv_bipush (v := (6 : Int32)) hx hb d_9_account_13 (by decide) ?_
      refine lv_icmp_ge (tgt := 30) hx hb d_9_account_15 (by decide) (fun hc => ?_) (fun hc => ?_)
      · have hf := hf.1 hc
        refine lv_aload_n hx hb d_9_account_30 rfl (lv_at hl 0 rfl) ?_
        refine gf_9_26 S hG hk_r0 d_9_account_31 ?_
        refine iv_9_221 S hl.1 hG (kr_9_2 hk_r0) (c_8_dirtOnStreets l (kr_9_2 hk_r0) hf) ⟨Nat.le_of_ble_eq_true rfl, Nat.le_of_ble_eq_true rfl⟩ (Nat.le_of_ble_eq_true rfl) d_9_account_34 (fun v_2 σ_1 hf H locs hG => ?_)
        exact hR _ _ _ _ _ _ hG hf d_9_account_37
      · have hf := hf.2 hc
        refine lv_aload_n hx hb d_9_account_18 rfl (lv_at hl 0 rfl) ?_
        refine gf_9_26 S hG hk_r0 d_9_account_19 ?_
        refine gf_9_265 S hG (kr_9_2 hk_r0) d_9_account_22 ?_
        refine lv_iload_n hx hb d_9_account_25 rfl (lv_at hl 1 rfl) ?_
        refine mia S hG 27 rfl rfl (kr_8_8 (kr_9_2 hk_r0)) hf.1 d_9_account_26 ?_
        have hf := hf.2
        refine lv_goto (tgt := 37) hx hb d_9_account_27 (by decide) ?_
        exact hR _ _ _ _ _ _ hG hf d_9_account_37
    · have hf := hf.2 hc
      refine lv_iconst (v := (-1 : Int32)) hx hb d_9_account_10 (by decide) ?_
      exact hR _ _ _ _ _ _ hG hf d_9_account_11
theorem c_9_account (l : Launch) {D : va_G} {ac : Nat → ClassId} {ad st : Nat → Nat} {A : Nat → Prop} {σ : St} {r0 : Nat} {x1 : Int32} {Q : Int32 → St → Prop} (hk_r0 : kd r0 = 9) (hf : m_9_account r0 x1 Q σ) : Met l y_9_account (Cond.code y_9_account prog_1_method_24_code 2 (some .int) :: wA) { frames := 4, cells := 0, slots := 0, locals := 86 } (va_Pc [.ref (ad r0), .int x1] (GSt A D ac ad st σ)) (va_Qi Q (GSt A D ac ad st) A) 0 0 A :=
  mkI l (by decide +kernel) rfl [.ref (ad r0), .int x1] (Nat.le_of_ble_eq_true rfl) (fun p e s m args below meth c ls QW S hR hG hl => w_9_account_0 S hR hk_r0 hG hl hf)
set_option maxHeartbeats 4000000 in
set_option maxRecDepth 100000 in
theorem w_0_restore_0 {r0 : Nat} {r1 : Nat} {Q : St → Prop} {σ : St} {H : Heap} {locs : List Loc} {ls : Array Slot} (S : SC A D ac st p m c prog_2_method_3_code 2 s args "SweeperRounds$History" R cells slots 2 44) (hR : RtV A D ac ad p l e R s m args below meth c prog_2_method_3_code cells slots QW Q) (hk_r0 : kd r0 = 0) (hk_r1 : kd r1 = 8) (hG : DG A D ac ad s σ H locs) (hl : lv_has ls 2 [(0, .ref (ad r0)), (1, .ref (ad r1))]) (hf : m_0_restore r0 r1 Q σ) : W p l e R s m args below meth c H locs cells slots QW (F0 m 0 ls []) := by
  have hx := S.1.1
  have hb := S.1.2.1
  unfold m_0_restore at hf
  refine lv_aload_n hx hb d_0_restore_0 rfl (lv_at hl 0 rfl) ?_
  refine lv_aload_n hx hb d_0_restore_1 rfl (lv_at hl 0 rfl) ?_
  refine gf_0_18 S hG hk_r0 d_0_restore_2 ?_
  refine lv_bipush (v := (8 : Int32)) hx hb d_0_restore_5 (by decide) ?_
  refine lv_iadd hx hb d_0_restore_7 ?_
  refine lv_iconst (v := (1 : Int32)) hx hb d_0_restore_8 (by decide) ?_
  refine lv_isub hx hb d_0_restore_9 ?_
  refine lv_bipush (v := (8 : Int32)) hx hb d_0_restore_10 (by decide) ?_
  refine lv_irem hx hb d_0_restore_12 (by decide) ?_
  refine pf_0_18 S hG hk_r0 d_0_restore_13 (fun σ_1 eσ_1 H locs hG => ?_)
  have hf := hf σ_1 eσ_1
  refine lv_aload_n hx hb d_0_restore_16 rfl (lv_at hl 1 rfl) ?_
  refine lv_aload_n hx hb d_0_restore_17 rfl (lv_at hl 0 rfl) ?_
  refine gf_0_11 S hG hk_r0 d_0_restore_18 ?_
  refine lv_aload_n hx hb d_0_restore_21 rfl (lv_at hl 0 rfl) ?_
  refine gf_0_18 S hG hk_r0 d_0_restore_22 ?_
  refine mq5 S hG (kr_0_0 hk_r0) hf.1 d_0_restore_25 ?_
  have hi_2 := vin_lt hf.1
  have hf := hf.2
  refine iv_0_22 S hl.1 hG hk_r1 (c_8_copyFrom l hk_r1 (ke_25 (kr_0_0 hk_r0) hi_2) hf) ⟨Nat.le_of_ble_eq_true rfl, Nat.le_of_ble_eq_true rfl⟩ (Nat.le_of_ble_eq_true rfl) d_0_restore_26 (fun σ_3 hf H locs hG => ?_)
  refine lv_aload_n hx hb d_0_restore_29 rfl (lv_at hl 0 rfl) ?_
  refine lv_dup hx hb d_0_restore_30 rfl ?_
  refine gf_0_26 S hG hk_r0 d_0_restore_31 ?_
  refine lv_iconst (v := (1 : Int32)) hx hb d_0_restore_34 (by decide) ?_
  refine lv_isub hx hb d_0_restore_35 ?_
  refine pf_0_26 S hG hk_r0 d_0_restore_36 (fun σ_5 eσ_5 H locs hG => ?_)
  have hf := hf σ_5 eσ_5
  exact hR _ _ _ _ _ hG hf d_0_restore_39
theorem c_0_restore (l : Launch) {D : va_G} {ac : Nat → ClassId} {ad st : Nat → Nat} {A : Nat → Prop} {σ : St} {r0 : Nat} {r1 : Nat} {Q : St → Prop} (hk_r0 : kd r0 = 0) (hk_r1 : kd r1 = 8) (hf : m_0_restore r0 r1 Q σ) : Met l y_0_restore (Cond.code y_0_restore prog_2_method_3_code 2 none :: wA) { frames := 2, cells := 0, slots := 0, locals := 44 } (va_Pc [.ref (ad r0), .ref (ad r1)] (GSt A D ac ad st σ)) (va_Qv Q (GSt A D ac ad st) A) 0 0 A :=
  mkV l (by decide +kernel) rfl [.ref (ad r0), .ref (ad r1)] (Nat.le_of_ble_eq_true rfl) (fun p e s m args below meth c ls QW S hR hG hl => w_0_restore_0 S hR hk_r0 hk_r1 hG hl hf)
set_option maxHeartbeats 4000000 in
set_option maxRecDepth 100000 in
theorem w_9_undo_0 {r0 : Nat} {Q : Int32 → St → Prop} {σ : St} {H : Heap} {locs : List Loc} {ls : Array Slot} (S : SC A D ac st p m c prog_1_method_25_code 1 s args "SweeperRounds" R cells slots 3 65) (hR : RtI A D ac ad p l e R s m args below meth c prog_1_method_25_code cells slots QW Q) (hk_r0 : kd r0 = 9) (hG : DG A D ac ad s σ H locs) (hl : lv_has ls 1 [(0, .ref (ad r0))]) (hf : m_9_undo r0 Q σ) : W p l e R s m args below meth c H locs cells slots QW (F0 m 0 ls []) := by
  have hx := S.1.1
  have hb := S.1.2.1
  unfold m_9_undo at hf
  refine lv_aload_n hx hb d_9_undo_0 rfl (lv_at hl 0 rfl) ?_
  refine gf_9_42 S hG hk_r0 d_9_undo_1 ?_
  refine gf_9_268 S hG (kr_9_4 hk_r0) d_9_undo_4 ?_
  refine lv_if_ne (tgt := 13) hx hb d_9_undo_7 (by decide) (fun hc => ?_) (fun hc => ?_)
  · have hf := hf.1 hc
    refine lv_aload_n hx hb d_9_undo_13 rfl (lv_at hl 0 rfl) ?_
    refine gf_9_42 S hG hk_r0 d_9_undo_14 ?_
    refine lv_aload_n hx hb d_9_undo_17 rfl (lv_at hl 0 rfl) ?_
    refine gf_9_26 S hG hk_r0 d_9_undo_18 ?_
    refine iv_9_271 S hl.1 hG (kr_9_4 hk_r0) (c_0_restore l (kr_9_4 hk_r0) (kr_9_2 hk_r0) hf) ⟨Nat.le_of_ble_eq_true rfl, Nat.le_of_ble_eq_true rfl⟩ (Nat.le_of_ble_eq_true rfl) d_9_undo_21 (fun σ_1 hf H locs hG => ?_)
    refine lv_aload_n hx hb d_9_undo_24 rfl (lv_at hl 0 rfl) ?_
    refine gf_9_42 S hG hk_r0 d_9_undo_25 ?_
    refine gf_9_268 S hG (kr_9_4 hk_r0) d_9_undo_28 ?_
    exact hR _ _ _ _ _ _ hG hf d_9_undo_31
  · have hf := hf.2 hc
    refine lv_bipush (v := (-2 : Int32)) hx hb d_9_undo_10 (by decide) ?_
    exact hR _ _ _ _ _ _ hG hf d_9_undo_12
theorem c_9_undo (l : Launch) {D : va_G} {ac : Nat → ClassId} {ad st : Nat → Nat} {A : Nat → Prop} {σ : St} {r0 : Nat} {Q : Int32 → St → Prop} (hk_r0 : kd r0 = 9) (hf : m_9_undo r0 Q σ) : Met l y_9_undo (Cond.code y_9_undo prog_1_method_25_code 1 (some .int) :: wA) { frames := 3, cells := 0, slots := 0, locals := 65 } (va_Pc [.ref (ad r0)] (GSt A D ac ad st σ)) (va_Qi Q (GSt A D ac ad st) A) 0 0 A :=
  mkI l (by decide +kernel) rfl [.ref (ad r0)] (Nat.le_of_ble_eq_true rfl) (fun p e s m args below meth c ls QW S hR hG hl => w_9_undo_0 S hR hk_r0 hG hl hf)
set_option maxHeartbeats 4000000 in
set_option maxRecDepth 100000 in
theorem w_9_count_0 {r0 : Nat} {x1 : Int32} {Q : Int32 → St → Prop} {σ : St} {H : Heap} {locs : List Loc} {ls : Array Slot} (S : SC A D ac st p m c prog_1_method_26_code 2 s args "SweeperRounds" R cells slots 1 20) (hR : RtI A D ac ad p l e R s m args below meth c prog_1_method_26_code cells slots QW Q) (hk_r0 : kd r0 = 9) (hG : DG A D ac ad s σ H locs) (hl : lv_has ls 2 [(0, .ref (ad r0)), (1, .int x1)]) (hf : m_9_count r0 x1 Q σ) : W p l e R s m args below meth c H locs cells slots QW (F0 m 0 ls []) := by
  have hx := S.1.1
  have hb := S.1.2.1
  unfold m_9_count at hf
  refine lv_iload_n hx hb d_9_count_0 rfl (lv_at hl 1 rfl) ?_
  refine lv_topi (fun q_1 eq_1 => ?_)
  rcases sw_0_14 q_1 with hq_1 | hq_1 | hq_1 | hq_1 | hq_1 | hq_1 | hq_1 | hq_1 | hq_1 | hq_1 | hq_1 | hq_1 | hq_1 | hq_1 | hq_1 | hq_1
  · rw [eq_1] at hq_1 ⊢
    refine lv_tableOut (tgt := 208) hx hb d_9_count_1 hq_1 (by decide) ?_
    have hf := hf.1 hq_1
    refine lv_iconst (v := (-1 : Int32)) hx hb d_9_count_208 (by decide) ?_
    exact hR _ _ _ _ _ _ hG hf d_9_count_209
  · subst hq_1
    refine lv_tableIn (off := 75) (tgt := 76) hx hb d_9_count_1 (by decide) (by decide) (by decide) (by decide) ?_
    have hf := hf.2.1 eq_1.symm
    refine lv_aload_n hx hb d_9_count_76 rfl (lv_at hl 0 rfl) ?_
    refine gf_9_26 S hG hk_r0 d_9_count_77 ?_
    refine gf_9_70 S hG (kr_9_2 hk_r0) d_9_count_80 ?_
    exact hR _ _ _ _ _ _ hG hf d_9_count_83
  · subst hq_1
    refine lv_tableIn (off := 83) (tgt := 84) hx hb d_9_count_1 (by decide) (by decide) (by decide) (by decide) ?_
    have hf := hf.2.2.1 eq_1.symm
    refine lv_aload_n hx hb d_9_count_84 rfl (lv_at hl 0 rfl) ?_
    refine gf_9_26 S hG hk_r0 d_9_count_85 ?_
    refine gf_9_108 S hG (kr_9_2 hk_r0) d_9_count_88 ?_
    exact hR _ _ _ _ _ _ hG hf d_9_count_91
  · subst hq_1
    refine lv_tableIn (off := 91) (tgt := 92) hx hb d_9_count_1 (by decide) (by decide) (by decide) (by decide) ?_
    have hf := hf.2.2.2.1 eq_1.symm
    refine lv_aload_n hx hb d_9_count_92 rfl (lv_at hl 0 rfl) ?_
    refine gf_9_26 S hG hk_r0 d_9_count_93 ?_
    refine gf_9_174 S hG (kr_9_2 hk_r0) d_9_count_96 ?_
    refine lv_iconst (v := (0 : Int32)) hx hb d_9_count_99 (by decide) ?_
    refine mia S hG 26 rfl rfl (kr_8_5 (kr_9_2 hk_r0)) hf.1 d_9_count_100 ?_
    have hf := hf.2
    exact hR _ _ _ _ _ _ hG hf d_9_count_101
  · subst hq_1
    refine lv_tableIn (off := 101) (tgt := 102) hx hb d_9_count_1 (by decide) (by decide) (by decide) (by decide) ?_
    have hf := hf.2.2.2.2.1 eq_1.symm
    refine lv_aload_n hx hb d_9_count_102 rfl (lv_at hl 0 rfl) ?_
    refine gf_9_26 S hG hk_r0 d_9_count_103 ?_
    refine gf_9_274 S hG (kr_9_2 hk_r0) d_9_count_106 ?_
    exact hR _ _ _ _ _ _ hG hf d_9_count_109
  · subst hq_1
    refine lv_tableIn (off := 109) (tgt := 110) hx hb d_9_count_1 (by decide) (by decide) (by decide) (by decide) ?_
    have hf := hf.2.2.2.2.2.1 eq_1.symm
    refine lv_aload_n hx hb d_9_count_110 rfl (lv_at hl 0 rfl) ?_
    refine gf_9_26 S hG hk_r0 d_9_count_111 ?_
    refine gf_9_277 S hG (kr_9_2 hk_r0) d_9_count_114 ?_
    exact hR _ _ _ _ _ _ hG hf d_9_count_117
  · subst hq_1
    refine lv_tableIn (off := 117) (tgt := 118) hx hb d_9_count_1 (by decide) (by decide) (by decide) (by decide) ?_
    have hf := hf.2.2.2.2.2.2.1 eq_1.symm
    refine lv_aload_n hx hb d_9_count_118 rfl (lv_at hl 0 rfl) ?_
    refine gf_9_26 S hG hk_r0 d_9_count_119 ?_
    refine gf_9_174 S hG (kr_9_2 hk_r0) d_9_count_122 ?_
    refine lv_iconst (v := (1 : Int32)) hx hb d_9_count_125 (by decide) ?_
    refine mia S hG 26 rfl rfl (kr_8_5 (kr_9_2 hk_r0)) hf.1 d_9_count_126 ?_
    have hf := hf.2
    exact hR _ _ _ _ _ _ hG hf d_9_count_127
  · subst hq_1
    refine lv_tableIn (off := 127) (tgt := 128) hx hb d_9_count_1 (by decide) (by decide) (by decide) (by decide) ?_
    have hf := hf.2.2.2.2.2.2.2.1 eq_1.symm
    refine lv_aload_n hx hb d_9_count_128 rfl (lv_at hl 0 rfl) ?_
    refine gf_9_26 S hG hk_r0 d_9_count_129 ?_
    refine gf_9_174 S hG (kr_9_2 hk_r0) d_9_count_132 ?_
    refine lv_iconst (v := (2 : Int32)) hx hb d_9_count_135 (by decide) ?_
    refine mia S hG 26 rfl rfl (kr_8_5 (kr_9_2 hk_r0)) hf.1 d_9_count_136 ?_
    have hf := hf.2
    exact hR _ _ _ _ _ _ hG hf d_9_count_137
  · subst hq_1
    refine lv_tableIn (off := 137) (tgt := 138) hx hb d_9_count_1 (by decide) (by decide) (by decide) (by decide) ?_
    have hf := hf.2.2.2.2.2.2.2.2.1 eq_1.symm
    refine lv_aload_n hx hb d_9_count_138 rfl (lv_at hl 0 rfl) ?_
    refine gf_9_26 S hG hk_r0 d_9_count_139 ?_
    refine gf_9_174 S hG (kr_9_2 hk_r0) d_9_count_142 ?_
    refine lv_iconst (v := (3 : Int32)) hx hb d_9_count_145 (by decide) ?_
    refine mia S hG 26 rfl rfl (kr_8_5 (kr_9_2 hk_r0)) hf.1 d_9_count_146 ?_
    have hf := hf.2
    exact hR _ _ _ _ _ _ hG hf d_9_count_147
  · subst hq_1
    refine lv_tableIn (off := 147) (tgt := 148) hx hb d_9_count_1 (by decide) (by decide) (by decide) (by decide) ?_
    have hf := hf.2.2.2.2.2.2.2.2.2.1 eq_1.symm
    refine lv_aload_n hx hb d_9_count_148 rfl (lv_at hl 0 rfl) ?_
    refine gf_9_26 S hG hk_r0 d_9_count_149 ?_
    refine gf_9_174 S hG (kr_9_2 hk_r0) d_9_count_152 ?_
    refine lv_iconst (v := (4 : Int32)) hx hb d_9_count_155 (by decide) ?_
    refine mia S hG 26 rfl rfl (kr_8_5 (kr_9_2 hk_r0)) hf.1 d_9_count_156 ?_
    have hf := hf.2
    exact hR _ _ _ _ _ _ hG hf d_9_count_157
  · subst hq_1
    refine lv_tableIn (off := 157) (tgt := 158) hx hb d_9_count_1 (by decide) (by decide) (by decide) (by decide) ?_
    have hf := hf.2.2.2.2.2.2.2.2.2.2.1 eq_1.symm
    refine lv_aload_n hx hb d_9_count_158 rfl (lv_at hl 0 rfl) ?_
    refine gf_9_26 S hG hk_r0 d_9_count_159 ?_
    refine gf_9_174 S hG (kr_9_2 hk_r0) d_9_count_162 ?_
    refine lv_iconst (v := (5 : Int32)) hx hb d_9_count_165 (by decide) ?_
    refine mia S hG 26 rfl rfl (kr_8_5 (kr_9_2 hk_r0)) hf.1 d_9_count_166 ?_
    have hf := hf.2
    exact hR _ _ _ _ _ _ hG hf d_9_count_167
  · subst hq_1
    refine lv_tableIn (off := 167) (tgt := 168) hx hb d_9_count_1 (by decide) (by decide) (by decide) (by decide) ?_
    have hf := hf.2.2.2.2.2.2.2.2.2.2.2.1 eq_1.symm
    refine lv_aload_n hx hb d_9_count_168 rfl (lv_at hl 0 rfl) ?_
    refine gf_9_26 S hG hk_r0 d_9_count_169 ?_
    refine iv_9_134 S hl.1 hG (kr_9_2 hk_r0) (c_8_grip l (kr_9_2 hk_r0) hf) ⟨Nat.le_of_ble_eq_true rfl, Nat.le_of_ble_eq_true rfl⟩ (Nat.le_of_ble_eq_true rfl) d_9_count_172 (fun v_3 σ_2 hf H locs hG => ?_)
    exact hR _ _ _ _ _ _ hG hf d_9_count_175
  · subst hq_1
    refine lv_tableIn (off := 175) (tgt := 176) hx hb d_9_count_1 (by decide) (by decide) (by decide) (by decide) ?_
    have hf := hf.2.2.2.2.2.2.2.2.2.2.2.2.1 eq_1.symm
    refine lv_aload_n hx hb d_9_count_176 rfl (lv_at hl 0 rfl) ?_
    refine gf_9_26 S hG hk_r0 d_9_count_177 ?_
    refine gf_9_227 S hG (kr_9_2 hk_r0) d_9_count_180 ?_
    exact hR _ _ _ _ _ _ hG hf d_9_count_183
  · subst hq_1
    refine lv_tableIn (off := 183) (tgt := 184) hx hb d_9_count_1 (by decide) (by decide) (by decide) (by decide) ?_
    have hf := hf.2.2.2.2.2.2.2.2.2.2.2.2.2.1 eq_1.symm
    refine lv_aload_n hx hb d_9_count_184 rfl (lv_at hl 0 rfl) ?_
    refine gf_9_26 S hG hk_r0 d_9_count_185 ?_
    refine gf_9_280 S hG (kr_9_2 hk_r0) d_9_count_188 ?_
    exact hR _ _ _ _ _ _ hG hf d_9_count_191
  · subst hq_1
    refine lv_tableIn (off := 191) (tgt := 192) hx hb d_9_count_1 (by decide) (by decide) (by decide) (by decide) ?_
    have hf := hf.2.2.2.2.2.2.2.2.2.2.2.2.2.2.1 eq_1.symm
    refine lv_aload_n hx hb d_9_count_192 rfl (lv_at hl 0 rfl) ?_
    refine gf_9_10 S hG hk_r0 d_9_count_193 ?_
    refine gf_9_63 S hG (kr_9_0 hk_r0) d_9_count_196 ?_
    exact hR _ _ _ _ _ _ hG hf d_9_count_199
  · subst hq_1
    refine lv_tableIn (off := 199) (tgt := 200) hx hb d_9_count_1 (by decide) (by decide) (by decide) (by decide) ?_
    have hf := hf.2.2.2.2.2.2.2.2.2.2.2.2.2.2.2 eq_1.symm
    refine lv_aload_n hx hb d_9_count_200 rfl (lv_at hl 0 rfl) ?_
    refine gf_9_42 S hG hk_r0 d_9_count_201 ?_
    refine gf_9_268 S hG (kr_9_4 hk_r0) d_9_count_204 ?_
    exact hR _ _ _ _ _ _ hG hf d_9_count_207
theorem c_9_count (l : Launch) {D : va_G} {ac : Nat → ClassId} {ad st : Nat → Nat} {A : Nat → Prop} {σ : St} {r0 : Nat} {x1 : Int32} {Q : Int32 → St → Prop} (hk_r0 : kd r0 = 9) (hf : m_9_count r0 x1 Q σ) : Met l y_9_count (Cond.code y_9_count prog_1_method_26_code 2 (some .int) :: wA) { frames := 1, cells := 0, slots := 0, locals := 20 } (va_Pc [.ref (ad r0), .int x1] (GSt A D ac ad st σ)) (va_Qi Q (GSt A D ac ad st) A) 0 0 A :=
  mkI l (by decide +kernel) rfl [.ref (ad r0), .int x1] (Nat.le_of_ble_eq_true rfl) (fun p e s m args below meth c ls QW S hR hG hl => w_9_count_0 S hR hk_r0 hG hl hf)
end MB
