theorem d_6_dirtOfSide_0 : decode prog_8_method_4_code 0 = .ok (.iconst 0, 1) := by decide +kernel
theorem d_6_dirtOfSide_1 : decode prog_8_method_4_code 1 = .ok (.istore_n 2, 1) := by decide +kernel
theorem d_6_dirtOfSide_2 : decode prog_8_method_4_code 2 = .ok (.iconst 0, 1) := by decide +kernel
theorem d_6_dirtOfSide_3 : decode prog_8_method_4_code 3 = .ok (.istore_n 3, 1) := by decide +kernel
theorem d_6_dirtOfSide_4 : decode prog_8_method_4_code 4 = .ok (.iload_n 3, 1) := by decide +kernel
theorem d_6_dirtOfSide_5 : decode prog_8_method_4_code 5 = .ok (.aload_n 0, 1) := by decide +kernel
theorem d_6_dirtOfSide_6 : decode prog_8_method_4_code 6 = .ok (.getfield 19, 3) := by decide +kernel
theorem d_6_dirtOfSide_9 : decode prog_8_method_4_code 9 = .ok (.if_icmp .ge 22, 3) := by decide +kernel
theorem d_6_dirtOfSide_12 : decode prog_8_method_4_code 12 = .ok (.iload_n 2, 1) := by decide +kernel
theorem d_6_dirtOfSide_13 : decode prog_8_method_4_code 13 = .ok (.aload_n 0, 1) := by decide +kernel
theorem d_6_dirtOfSide_14 : decode prog_8_method_4_code 14 = .ok (.getfield 9, 3) := by decide +kernel
theorem d_6_dirtOfSide_17 : decode prog_8_method_4_code 17 = .ok (.iload_n 1, 1) := by decide +kernel
theorem d_6_dirtOfSide_18 : decode prog_8_method_4_code 18 = .ok (.iload_n 3, 1) := by decide +kernel
theorem d_6_dirtOfSide_19 : decode prog_8_method_4_code 19 = .ok (.invokestatic 29, 3) := by decide +kernel
theorem d_6_dirtOfSide_22 : decode prog_8_method_4_code 22 = .ok (.iaload, 1) := by decide +kernel
theorem d_6_dirtOfSide_23 : decode prog_8_method_4_code 23 = .ok (.iadd, 1) := by decide +kernel
theorem d_6_dirtOfSide_24 : decode prog_8_method_4_code 24 = .ok (.istore_n 2, 1) := by decide +kernel
theorem d_6_dirtOfSide_25 : decode prog_8_method_4_code 25 = .ok (.iinc 3 1, 3) := by decide +kernel
theorem d_6_dirtOfSide_28 : decode prog_8_method_4_code 28 = .ok (.goto (-24), 3) := by decide +kernel
theorem d_6_dirtOfSide_31 : decode prog_8_method_4_code 31 = .ok (.iload_n 2, 1) := by decide +kernel
theorem d_6_dirtOfSide_32 : decode prog_8_method_4_code 32 = .ok (.ireturn, 1) := by decide +kernel
def m_6_dirtOfSide_4 (r0 : Nat) (x1 : Int32) (Q : Int32 → St → Prop) (B4 : Int32 → Int32 → St → Prop) (x2 : Int32) (x3 : Int32) (σ : St) : Prop :=
  (((σ.1 r0 0) ≤ x3 → Q x2 σ) ∧ (¬ (σ.1 r0 0) ≤ x3 → m_9_placeOf x1 x3 (fun (v_2 : Int32) (σ_1 : St) => vp_in v_2 40 ∧ ∀ x2_3 : Int32, x2_3 = (x2 + (σ_1.1 (r0 + 1) (v_2).toNatClampNeg)) → ∀ x3_4 : Int32, x3_4 = x3 + 1 → B4 x2_3 x3_4 σ_1) σ))
def m_6_dirtOfSide (r0 : Nat) (x1 : Int32) (Q : Int32 → St → Prop) (σ : St) : Prop :=
  itN (m_6_dirtOfSide_4 r0 x1 Q) (fun _ _ _ => False) FU (0 : Int32) (0 : Int32) σ
theorem d_6_parkedCells_0 : decode prog_8_method_6_code 0 = .ok (.iconst 0, 1) := by decide +kernel
theorem d_6_parkedCells_1 : decode prog_8_method_6_code 1 = .ok (.istore_n 1, 1) := by decide +kernel
theorem d_6_parkedCells_2 : decode prog_8_method_6_code 2 = .ok (.iconst 0, 1) := by decide +kernel
theorem d_6_parkedCells_3 : decode prog_8_method_6_code 3 = .ok (.istore_n 2, 1) := by decide +kernel
theorem d_6_parkedCells_4 : decode prog_8_method_6_code 4 = .ok (.iload_n 2, 1) := by decide +kernel
theorem d_6_parkedCells_5 : decode prog_8_method_6_code 5 = .ok (.aload_n 0, 1) := by decide +kernel
theorem d_6_parkedCells_6 : decode prog_8_method_6_code 6 = .ok (.getfield 19, 3) := by decide +kernel
theorem d_6_parkedCells_9 : decode prog_8_method_6_code 9 = .ok (.if_icmp .ge 51, 3) := by decide +kernel
theorem d_6_parkedCells_12 : decode prog_8_method_6_code 12 = .ok (.iload_n 1, 1) := by decide +kernel
theorem d_6_parkedCells_13 : decode prog_8_method_6_code 13 = .ok (.aload_n 0, 1) := by decide +kernel
theorem d_6_parkedCells_14 : decode prog_8_method_6_code 14 = .ok (.getfield 15, 3) := by decide +kernel
theorem d_6_parkedCells_17 : decode prog_8_method_6_code 17 = .ok (.iconst 0, 1) := by decide +kernel
theorem d_6_parkedCells_18 : decode prog_8_method_6_code 18 = .ok (.iload_n 2, 1) := by decide +kernel
theorem d_6_parkedCells_19 : decode prog_8_method_6_code 19 = .ok (.invokestatic 29, 3) := by decide +kernel
theorem d_6_parkedCells_22 : decode prog_8_method_6_code 22 = .ok (.baload, 1) := by decide +kernel
theorem d_6_parkedCells_23 : decode prog_8_method_6_code 23 = .ok (.ifCond .eq 7, 3) := by decide +kernel
theorem d_6_parkedCells_26 : decode prog_8_method_6_code 26 = .ok (.iconst 1, 1) := by decide +kernel
theorem d_6_parkedCells_27 : decode prog_8_method_6_code 27 = .ok (.goto 4, 3) := by decide +kernel
theorem d_6_parkedCells_30 : decode prog_8_method_6_code 30 = .ok (.iconst 0, 1) := by decide +kernel
theorem d_6_parkedCells_31 : decode prog_8_method_6_code 31 = .ok (.iadd, 1) := by decide +kernel
theorem d_6_parkedCells_32 : decode prog_8_method_6_code 32 = .ok (.istore_n 1, 1) := by decide +kernel
theorem d_6_parkedCells_33 : decode prog_8_method_6_code 33 = .ok (.iload_n 1, 1) := by decide +kernel
theorem d_6_parkedCells_34 : decode prog_8_method_6_code 34 = .ok (.aload_n 0, 1) := by decide +kernel
theorem d_6_parkedCells_35 : decode prog_8_method_6_code 35 = .ok (.getfield 15, 3) := by decide +kernel
theorem d_6_parkedCells_38 : decode prog_8_method_6_code 38 = .ok (.iconst 1, 1) := by decide +kernel
theorem d_6_parkedCells_39 : decode prog_8_method_6_code 39 = .ok (.iload_n 2, 1) := by decide +kernel
theorem d_6_parkedCells_40 : decode prog_8_method_6_code 40 = .ok (.invokestatic 29, 3) := by decide +kernel
theorem d_6_parkedCells_43 : decode prog_8_method_6_code 43 = .ok (.baload, 1) := by decide +kernel
theorem d_6_parkedCells_44 : decode prog_8_method_6_code 44 = .ok (.ifCond .eq 7, 3) := by decide +kernel
theorem d_6_parkedCells_47 : decode prog_8_method_6_code 47 = .ok (.iconst 1, 1) := by decide +kernel
theorem d_6_parkedCells_48 : decode prog_8_method_6_code 48 = .ok (.goto 4, 3) := by decide +kernel
theorem d_6_parkedCells_51 : decode prog_8_method_6_code 51 = .ok (.iconst 0, 1) := by decide +kernel
theorem d_6_parkedCells_52 : decode prog_8_method_6_code 52 = .ok (.iadd, 1) := by decide +kernel
theorem d_6_parkedCells_53 : decode prog_8_method_6_code 53 = .ok (.istore_n 1, 1) := by decide +kernel
theorem d_6_parkedCells_54 : decode prog_8_method_6_code 54 = .ok (.iinc 2 1, 3) := by decide +kernel
theorem d_6_parkedCells_57 : decode prog_8_method_6_code 57 = .ok (.goto (-53), 3) := by decide +kernel
theorem d_6_parkedCells_60 : decode prog_8_method_6_code 60 = .ok (.iload_n 1, 1) := by decide +kernel
theorem d_6_parkedCells_61 : decode prog_8_method_6_code 61 = .ok (.ireturn, 1) := by decide +kernel
def m_6_parkedCells_31 (r0 : Nat) (x2 : Int32) (B4 : Int32 → Int32 → St → Prop) (Q : Int32 → St → Prop) (t0 : Int32) (t1 : Int32) (σ : St) : Prop :=
  ∀ x1_1 : Int32, x1_1 = (t1 + t0) → m_9_placeOf (1 : Int32) x2 (fun (v_3 : Int32) (σ_2 : St) => vp_in v_3 40 ∧ (((σ_2.1 (r0 + 2) (v_3).toNatClampNeg) = 0 → ∀ x1_4 : Int32, x1_4 = (x1_1 + (0 : Int32)) → ∀ x2_5 : Int32, x2_5 = x2 + 1 → B4 x1_4 x2_5 σ_2) ∧ (¬ (σ_2.1 (r0 + 2) (v_3).toNatClampNeg) = 0 → ∀ x1_6 : Int32, x1_6 = (x1_1 + (1 : Int32)) → ∀ x2_7 : Int32, x2_7 = x2 + 1 → B4 x1_6 x2_7 σ_2))) σ
def m_6_parkedCells_4 (r0 : Nat) (Q : Int32 → St → Prop) (B4 : Int32 → Int32 → St → Prop) (x1 : Int32) (x2 : Int32) (σ : St) : Prop :=
  (((σ.1 r0 0) ≤ x2 → Q x1 σ) ∧ (¬ (σ.1 r0 0) ≤ x2 → m_9_placeOf (0 : Int32) x2 (fun (v_2 : Int32) (σ_1 : St) => vp_in v_2 40 ∧ (((σ_1.1 (r0 + 2) (v_2).toNatClampNeg) = 0 → m_6_parkedCells_31 r0 x2 B4 Q  (0 : Int32) x1 σ_1) ∧ (¬ (σ_1.1 (r0 + 2) (v_2).toNatClampNeg) = 0 → m_6_parkedCells_31 r0 x2 B4 Q  (1 : Int32) x1 σ_1))) σ))
def m_6_parkedCells (r0 : Nat) (Q : Int32 → St → Prop) (σ : St) : Prop :=
  itN (m_6_parkedCells_4 r0 Q) (fun _ _ _ => False) FU (0 : Int32) (0 : Int32) σ
theorem d_6_greatestDirt_0 : decode prog_8_method_7_code 0 = .ok (.iconst 0, 1) := by decide +kernel
theorem d_6_greatestDirt_1 : decode prog_8_method_7_code 1 = .ok (.istore_n 1, 1) := by decide +kernel
theorem d_6_greatestDirt_2 : decode prog_8_method_7_code 2 = .ok (.iconst 0, 1) := by decide +kernel
theorem d_6_greatestDirt_3 : decode prog_8_method_7_code 3 = .ok (.istore_n 2, 1) := by decide +kernel
theorem d_6_greatestDirt_4 : decode prog_8_method_7_code 4 = .ok (.iload_n 2, 1) := by decide +kernel
theorem d_6_greatestDirt_5 : decode prog_8_method_7_code 5 = .ok (.aload_n 0, 1) := by decide +kernel
theorem d_6_greatestDirt_6 : decode prog_8_method_7_code 6 = .ok (.getfield 19, 3) := by decide +kernel
theorem d_6_greatestDirt_9 : decode prog_8_method_7_code 9 = .ok (.if_icmp .ge 39, 3) := by decide +kernel
theorem d_6_greatestDirt_12 : decode prog_8_method_7_code 12 = .ok (.iload_n 1, 1) := by decide +kernel
theorem d_6_greatestDirt_13 : decode prog_8_method_7_code 13 = .ok (.aload_n 0, 1) := by decide +kernel
theorem d_6_greatestDirt_14 : decode prog_8_method_7_code 14 = .ok (.getfield 9, 3) := by decide +kernel
theorem d_6_greatestDirt_17 : decode prog_8_method_7_code 17 = .ok (.iconst 0, 1) := by decide +kernel
theorem d_6_greatestDirt_18 : decode prog_8_method_7_code 18 = .ok (.iload_n 2, 1) := by decide +kernel
theorem d_6_greatestDirt_19 : decode prog_8_method_7_code 19 = .ok (.invokestatic 29, 3) := by decide +kernel
theorem d_6_greatestDirt_22 : decode prog_8_method_7_code 22 = .ok (.iaload, 1) := by decide +kernel
theorem d_6_greatestDirt_23 : decode prog_8_method_7_code 23 = .ok (.invokestatic 37, 3) := by decide +kernel
theorem d_6_greatestDirt_26 : decode prog_8_method_7_code 26 = .ok (.istore_n 1, 1) := by decide +kernel
theorem d_6_greatestDirt_27 : decode prog_8_method_7_code 27 = .ok (.iload_n 1, 1) := by decide +kernel
theorem d_6_greatestDirt_28 : decode prog_8_method_7_code 28 = .ok (.aload_n 0, 1) := by decide +kernel
theorem d_6_greatestDirt_29 : decode prog_8_method_7_code 29 = .ok (.getfield 9, 3) := by decide +kernel
theorem d_6_greatestDirt_32 : decode prog_8_method_7_code 32 = .ok (.iconst 1, 1) := by decide +kernel
theorem d_6_greatestDirt_33 : decode prog_8_method_7_code 33 = .ok (.iload_n 2, 1) := by decide +kernel
theorem d_6_greatestDirt_34 : decode prog_8_method_7_code 34 = .ok (.invokestatic 29, 3) := by decide +kernel
theorem d_6_greatestDirt_37 : decode prog_8_method_7_code 37 = .ok (.iaload, 1) := by decide +kernel
theorem d_6_greatestDirt_38 : decode prog_8_method_7_code 38 = .ok (.invokestatic 37, 3) := by decide +kernel
theorem d_6_greatestDirt_41 : decode prog_8_method_7_code 41 = .ok (.istore_n 1, 1) := by decide +kernel
theorem d_6_greatestDirt_42 : decode prog_8_method_7_code 42 = .ok (.iinc 2 1, 3) := by decide +kernel
theorem d_6_greatestDirt_45 : decode prog_8_method_7_code 45 = .ok (.goto (-41), 3) := by decide +kernel
theorem d_6_greatestDirt_48 : decode prog_8_method_7_code 48 = .ok (.iload_n 1, 1) := by decide +kernel
theorem d_6_greatestDirt_49 : decode prog_8_method_7_code 49 = .ok (.ireturn, 1) := by decide +kernel
def m_6_greatestDirt_4 (r0 : Nat) (Q : Int32 → St → Prop) (B4 : Int32 → Int32 → St → Prop) (x1 : Int32) (x2 : Int32) (σ : St) : Prop :=
  (((σ.1 r0 0) ≤ x2 → Q x1 σ) ∧ (¬ (σ.1 r0 0) ≤ x2 → m_9_placeOf (0 : Int32) x2 (fun (v_2 : Int32) (σ_1 : St) => vp_in v_2 40 ∧ ∀ x1_3 : Int32, x1_3 = (if x1 < (σ_1.1 (r0 + 1) (v_2).toNatClampNeg) then (σ_1.1 (r0 + 1) (v_2).toNatClampNeg) else x1) → m_9_placeOf (1 : Int32) x2 (fun (v_5 : Int32) (σ_4 : St) => vp_in v_5 40 ∧ ∀ x1_6 : Int32, x1_6 = (if x1_3 < (σ_4.1 (r0 + 1) (v_5).toNatClampNeg) then (σ_4.1 (r0 + 1) (v_5).toNatClampNeg) else x1_3) → ∀ x2_7 : Int32, x2_7 = x2 + 1 → B4 x1_6 x2_7 σ_4) σ_1) σ))
def m_6_greatestDirt (r0 : Nat) (Q : Int32 → St → Prop) (σ : St) : Prop :=
  itN (m_6_greatestDirt_4 r0 Q) (fun _ _ _ => False) FU (0 : Int32) (0 : Int32) σ
theorem d_8_legsIn_0 : decode prog_10_method_7_code 0 = .ok (.iconst 0, 1) := by decide +kernel
theorem d_8_legsIn_1 : decode prog_10_method_7_code 1 = .ok (.istore_n 2, 1) := by decide +kernel
theorem d_8_legsIn_2 : decode prog_10_method_7_code 2 = .ok (.iconst 0, 1) := by decide +kernel
theorem d_8_legsIn_3 : decode prog_10_method_7_code 3 = .ok (.istore_n 3, 1) := by decide +kernel
theorem d_8_legsIn_4 : decode prog_10_method_7_code 4 = .ok (.iload_n 3, 1) := by decide +kernel
theorem d_8_legsIn_5 : decode prog_10_method_7_code 5 = .ok (.aload_n 0, 1) := by decide +kernel
theorem d_8_legsIn_6 : decode prog_10_method_7_code 6 = .ok (.getfield 59, 3) := by decide +kernel
theorem d_8_legsIn_9 : decode prog_10_method_7_code 9 = .ok (.if_icmp .ge 30, 3) := by decide +kernel
theorem d_8_legsIn_12 : decode prog_10_method_7_code 12 = .ok (.iload_n 2, 1) := by decide +kernel
theorem d_8_legsIn_13 : decode prog_10_method_7_code 13 = .ok (.aload_n 0, 1) := by decide +kernel
theorem d_8_legsIn_14 : decode prog_10_method_7_code 14 = .ok (.getfield 19, 3) := by decide +kernel
theorem d_8_legsIn_17 : decode prog_10_method_7_code 17 = .ok (.iload_n 3, 1) := by decide +kernel
theorem d_8_legsIn_18 : decode prog_10_method_7_code 18 = .ok (.aaload, 1) := by decide +kernel
theorem d_8_legsIn_19 : decode prog_10_method_7_code 19 = .ok (.getfield 92, 3) := by decide +kernel
theorem d_8_legsIn_22 : decode prog_10_method_7_code 22 = .ok (.iload_n 1, 1) := by decide +kernel
theorem d_8_legsIn_23 : decode prog_10_method_7_code 23 = .ok (.if_icmp .ne 7, 3) := by decide +kernel
theorem d_8_legsIn_26 : decode prog_10_method_7_code 26 = .ok (.iconst 1, 1) := by decide +kernel
theorem d_8_legsIn_27 : decode prog_10_method_7_code 27 = .ok (.goto 4, 3) := by decide +kernel
theorem d_8_legsIn_30 : decode prog_10_method_7_code 30 = .ok (.iconst 0, 1) := by decide +kernel
theorem d_8_legsIn_31 : decode prog_10_method_7_code 31 = .ok (.iadd, 1) := by decide +kernel
theorem d_8_legsIn_32 : decode prog_10_method_7_code 32 = .ok (.istore_n 2, 1) := by decide +kernel
theorem d_8_legsIn_33 : decode prog_10_method_7_code 33 = .ok (.iinc 3 1, 3) := by decide +kernel
theorem d_8_legsIn_36 : decode prog_10_method_7_code 36 = .ok (.goto (-32), 3) := by decide +kernel
theorem d_8_legsIn_39 : decode prog_10_method_7_code 39 = .ok (.iload_n 2, 1) := by decide +kernel
theorem d_8_legsIn_40 : decode prog_10_method_7_code 40 = .ok (.ireturn, 1) := by decide +kernel
def m_8_legsIn_4 (r0 : Nat) (x1 : Int32) (Q : Int32 → St → Prop) (B4 : Int32 → Int32 → St → Prop) (x2 : Int32) (x3 : Int32) (σ : St) : Prop :=
  (((σ.1 r0 3) ≤ x3 → Q x2 σ) ∧ (¬ (σ.1 r0 3) ≤ x3 → vp_in x3 10 ∧ ((¬ (σ.1 ((r0 + 2) + 22 + (x3).toNatClampNeg) 0) = x1 → ∀ x2_2 : Int32, x2_2 = (x2 + (0 : Int32)) → ∀ x3_3 : Int32, x3_3 = x3 + 1 → B4 x2_2 x3_3 σ) ∧ ((σ.1 ((r0 + 2) + 22 + (x3).toNatClampNeg) 0) = x1 → ∀ x2_4 : Int32, x2_4 = (x2 + (1 : Int32)) → ∀ x3_5 : Int32, x3_5 = x3 + 1 → B4 x2_4 x3_5 σ))))
def m_8_legsIn (r0 : Nat) (x1 : Int32) (Q : Int32 → St → Prop) (σ : St) : Prop :=
  itN (m_8_legsIn_4 r0 x1 Q) (fun _ _ _ => False) FU (0 : Int32) (0 : Int32) σ
theorem d_9_street_0 : decode prog_1_method_11_code 0 = .ok (.aload_n 0, 1) := by decide +kernel
theorem d_9_street_1 : decode prog_1_method_11_code 1 = .ok (.getfield 26, 3) := by decide +kernel
theorem d_9_street_4 : decode prog_1_method_11_code 4 = .ok (.iload_n 1, 1) := by decide +kernel
theorem d_9_street_5 : decode prog_1_method_11_code 5 = .ok (.invokevirtual 100, 3) := by decide +kernel
theorem d_9_street_8 : decode prog_1_method_11_code 8 = .ok (.ifCond .ne 5, 3) := by decide +kernel
theorem d_9_street_11 : decode prog_1_method_11_code 11 = .ok (.iconst (-1), 1) := by decide +kernel
theorem d_9_street_12 : decode prog_1_method_11_code 12 = .ok (.ireturn, 1) := by decide +kernel
theorem d_9_street_13 : decode prog_1_method_11_code 13 = .ok (.aload_n 0, 1) := by decide +kernel
theorem d_9_street_14 : decode prog_1_method_11_code 14 = .ok (.getfield 26, 3) := by decide +kernel
theorem d_9_street_17 : decode prog_1_method_11_code 17 = .ok (.getfield 122, 3) := by decide +kernel
theorem d_9_street_20 : decode prog_1_method_11_code 20 = .ok (.iload_n 1, 1) := by decide +kernel
theorem d_9_street_21 : decode prog_1_method_11_code 21 = .ok (.aaload, 1) := by decide +kernel
theorem d_9_street_22 : decode prog_1_method_11_code 22 = .ok (.astore_n 3, 1) := by decide +kernel
theorem d_9_street_23 : decode prog_1_method_11_code 23 = .ok (.iload_n 2, 1) := by decide +kernel
theorem d_9_street_24 : decode prog_1_method_11_code 24 = .ok (.tableswitch 94 0 7 #[48, 53, 58, 63, 69, 75, 80, 85], 48) := by decide +kernel
theorem d_9_street_72 : decode prog_1_method_11_code 72 = .ok (.aload_n 3, 1) := by decide +kernel
theorem d_9_street_73 : decode prog_1_method_11_code 73 = .ok (.getfield 91, 3) := by decide +kernel
theorem d_9_street_76 : decode prog_1_method_11_code 76 = .ok (.ireturn, 1) := by decide +kernel
theorem d_9_street_77 : decode prog_1_method_11_code 77 = .ok (.aload_n 3, 1) := by decide +kernel
theorem d_9_street_78 : decode prog_1_method_11_code 78 = .ok (.getfield 149, 3) := by decide +kernel
theorem d_9_street_81 : decode prog_1_method_11_code 81 = .ok (.ireturn, 1) := by decide +kernel
theorem d_9_street_82 : decode prog_1_method_11_code 82 = .ok (.aload_n 3, 1) := by decide +kernel
theorem d_9_street_83 : decode prog_1_method_11_code 83 = .ok (.getfield 152, 3) := by decide +kernel
theorem d_9_street_86 : decode prog_1_method_11_code 86 = .ok (.ireturn, 1) := by decide +kernel
theorem d_9_street_87 : decode prog_1_method_11_code 87 = .ok (.aload_n 3, 1) := by decide +kernel
theorem d_9_street_88 : decode prog_1_method_11_code 88 = .ok (.iconst 0, 1) := by decide +kernel
theorem d_9_street_89 : decode prog_1_method_11_code 89 = .ok (.invokevirtual 155, 3) := by decide +kernel
theorem d_9_street_92 : decode prog_1_method_11_code 92 = .ok (.ireturn, 1) := by decide +kernel
theorem d_9_street_93 : decode prog_1_method_11_code 93 = .ok (.aload_n 3, 1) := by decide +kernel
theorem d_9_street_94 : decode prog_1_method_11_code 94 = .ok (.iconst 1, 1) := by decide +kernel
theorem d_9_street_95 : decode prog_1_method_11_code 95 = .ok (.invokevirtual 155, 3) := by decide +kernel
theorem d_9_street_98 : decode prog_1_method_11_code 98 = .ok (.ireturn, 1) := by decide +kernel
theorem d_9_street_99 : decode prog_1_method_11_code 99 = .ok (.aload_n 3, 1) := by decide +kernel
theorem d_9_street_100 : decode prog_1_method_11_code 100 = .ok (.invokevirtual 159, 3) := by decide +kernel
theorem d_9_street_103 : decode prog_1_method_11_code 103 = .ok (.ireturn, 1) := by decide +kernel
theorem d_9_street_104 : decode prog_1_method_11_code 104 = .ok (.aload_n 3, 1) := by decide +kernel
theorem d_9_street_105 : decode prog_1_method_11_code 105 = .ok (.invokevirtual 162, 3) := by decide +kernel
theorem d_9_street_108 : decode prog_1_method_11_code 108 = .ok (.ireturn, 1) := by decide +kernel
theorem d_9_street_109 : decode prog_1_method_11_code 109 = .ok (.aload_n 0, 1) := by decide +kernel
theorem d_9_street_110 : decode prog_1_method_11_code 110 = .ok (.getfield 26, 3) := by decide +kernel
theorem d_9_street_113 : decode prog_1_method_11_code 113 = .ok (.iload_n 1, 1) := by decide +kernel
theorem d_9_street_114 : decode prog_1_method_11_code 114 = .ok (.invokevirtual 165, 3) := by decide +kernel
theorem d_9_street_117 : decode prog_1_method_11_code 117 = .ok (.ireturn, 1) := by decide +kernel
theorem d_9_street_118 : decode prog_1_method_11_code 118 = .ok (.iconst (-1), 1) := by decide +kernel
theorem d_9_street_119 : decode prog_1_method_11_code 119 = .ok (.ireturn, 1) := by decide +kernel
def m_9_street (r0 : Nat) (x1 : Int32) (x2 : Int32) (Q : Int32 → St → Prop) (σ : St) : Prop :=
  m_8_hasStreet (r0 + 7) x1 (fun (v_2 : Int32) (σ_1 : St) => ((¬ v_2 = 0 → vp_in x1 6 ∧ ∀ r3_4 : Nat, r3_4 = (((r0 + 7) + 1) + 5 + 3 * (x1).toNatClampNeg) → (((x2.toInt < 0 ∨ 7 < x2.toInt) → Q (-1 : Int32) σ_1) ∧ (x2 = 0 → Q (σ_1.1 r3_4 0) σ_1) ∧ (x2 = 1 → Q (σ_1.1 r3_4 1) σ_1) ∧ (x2 = 2 → Q (σ_1.1 r3_4 2) σ_1) ∧ (x2 = 3 → m_6_dirtOfSide r3_4 (0 : Int32) (fun (v_7 : Int32) (σ_6 : St) => Q v_7 σ_6) σ_1) ∧ (x2 = 4 → m_6_dirtOfSide r3_4 (1 : Int32) (fun (v_9 : Int32) (σ_8 : St) => Q v_9 σ_8) σ_1) ∧ (x2 = 5 → m_6_parkedCells r3_4 (fun (v_11 : Int32) (σ_10 : St) => Q v_11 σ_10) σ_1) ∧ (x2 = 6 → m_6_greatestDirt r3_4 (fun (v_13 : Int32) (σ_12 : St) => Q v_13 σ_12) σ_1) ∧ (x2 = 7 → m_8_legsIn (r0 + 7) x1 (fun (v_15 : Int32) (σ_14 : St) => Q v_15 σ_14) σ_1))) ∧ (v_2 = 0 → Q (-1 : Int32) σ_1))) σ
theorem d_8_leastSetting_0 : decode prog_10_method_15_code 0 = .ok (.iload_n 1, 1) := by decide +kernel
theorem d_8_leastSetting_1 : decode prog_10_method_15_code 1 = .ok (.iconst 1, 1) := by decide +kernel
theorem d_8_leastSetting_2 : decode prog_10_method_15_code 2 = .ok (.if_icmp .ne 18, 3) := by decide +kernel
theorem d_8_leastSetting_5 : decode prog_10_method_15_code 5 = .ok (.getstatic 120, 3) := by decide +kernel
theorem d_8_leastSetting_8 : decode prog_10_method_15_code 8 = .ok (.iload_n 1, 1) := by decide +kernel
theorem d_8_leastSetting_9 : decode prog_10_method_15_code 9 = .ok (.iaload, 1) := by decide +kernel
theorem d_8_leastSetting_10 : decode prog_10_method_15_code 10 = .ok (.aload_n 0, 1) := by decide +kernel
theorem d_8_leastSetting_11 : decode prog_10_method_15_code 11 = .ok (.getfield 69, 3) := by decide +kernel
theorem d_8_leastSetting_14 : decode prog_10_method_15_code 14 = .ok (.invokestatic 114, 3) := by decide +kernel
theorem d_8_leastSetting_17 : decode prog_10_method_15_code 17 = .ok (.goto 8, 3) := by decide +kernel
theorem d_8_leastSetting_20 : decode prog_10_method_15_code 20 = .ok (.getstatic 120, 3) := by decide +kernel
theorem d_8_leastSetting_23 : decode prog_10_method_15_code 23 = .ok (.iload_n 1, 1) := by decide +kernel
theorem d_8_leastSetting_24 : decode prog_10_method_15_code 24 = .ok (.iaload, 1) := by decide +kernel
theorem d_8_leastSetting_25 : decode prog_10_method_15_code 25 = .ok (.ireturn, 1) := by decide +kernel
def m_8_leastSetting (r0 : Nat) (x1 : Int32) (Q : Int32 → St → Prop) (σ : St) : Prop :=
  ((¬ x1 = (1 : Int32) → vp_in x1 6 ∧ Q (stV 1 (x1).toNatClampNeg) σ) ∧ (x1 = (1 : Int32) → vp_in x1 6 ∧ Q (if (stV 1 (x1).toNatClampNeg) < (σ.1 r0 7) then (σ.1 r0 7) else (stV 1 (x1).toNatClampNeg)) σ))
theorem d_9_set_0 : decode prog_1_method_12_code 0 = .ok (.iload_n 1, 1) := by decide +kernel
theorem d_9_set_1 : decode prog_1_method_12_code 1 = .ok (.ifCond .lt 30, 3) := by decide +kernel
theorem d_9_set_4 : decode prog_1_method_12_code 4 = .ok (.iload_n 1, 1) := by decide +kernel
theorem d_9_set_5 : decode prog_1_method_12_code 5 = .ok (.bipush 6, 2) := by decide +kernel
theorem d_9_set_7 : decode prog_1_method_12_code 7 = .ok (.if_icmp .ge 24, 3) := by decide +kernel
theorem d_9_set_10 : decode prog_1_method_12_code 10 = .ok (.iload_n 2, 1) := by decide +kernel
theorem d_9_set_11 : decode prog_1_method_12_code 11 = .ok (.aload_n 0, 1) := by decide +kernel
theorem d_9_set_12 : decode prog_1_method_12_code 12 = .ok (.getfield 26, 3) := by decide +kernel
theorem d_9_set_15 : decode prog_1_method_12_code 15 = .ok (.iload_n 1, 1) := by decide +kernel
theorem d_9_set_16 : decode prog_1_method_12_code 16 = .ok (.invokevirtual 168, 3) := by decide +kernel
theorem d_9_set_19 : decode prog_1_method_12_code 19 = .ok (.if_icmp .lt 12, 3) := by decide +kernel
theorem d_9_set_22 : decode prog_1_method_12_code 22 = .ok (.iload_n 2, 1) := by decide +kernel
theorem d_9_set_23 : decode prog_1_method_12_code 23 = .ok (.getstatic 171, 3) := by decide +kernel
theorem d_9_set_26 : decode prog_1_method_12_code 26 = .ok (.iload_n 1, 1) := by decide +kernel
theorem d_9_set_27 : decode prog_1_method_12_code 27 = .ok (.iaload, 1) := by decide +kernel
theorem d_9_set_28 : decode prog_1_method_12_code 28 = .ok (.if_icmp .le 5, 3) := by decide +kernel
theorem d_9_set_31 : decode prog_1_method_12_code 31 = .ok (.iconst (-1), 1) := by decide +kernel
theorem d_9_set_32 : decode prog_1_method_12_code 32 = .ok (.ireturn, 1) := by decide +kernel
theorem d_9_set_33 : decode prog_1_method_12_code 33 = .ok (.aload_n 0, 1) := by decide +kernel
theorem d_9_set_34 : decode prog_1_method_12_code 34 = .ok (.getfield 42, 3) := by decide +kernel
theorem d_9_set_37 : decode prog_1_method_12_code 37 = .ok (.aload_n 0, 1) := by decide +kernel
theorem d_9_set_38 : decode prog_1_method_12_code 38 = .ok (.getfield 26, 3) := by decide +kernel
theorem d_9_set_41 : decode prog_1_method_12_code 41 = .ok (.invokevirtual 80, 3) := by decide +kernel
theorem d_9_set_44 : decode prog_1_method_12_code 44 = .ok (.aload_n 0, 1) := by decide +kernel
theorem d_9_set_45 : decode prog_1_method_12_code 45 = .ok (.getfield 26, 3) := by decide +kernel
theorem d_9_set_48 : decode prog_1_method_12_code 48 = .ok (.getfield 174, 3) := by decide +kernel
theorem d_9_set_51 : decode prog_1_method_12_code 51 = .ok (.iload_n 1, 1) := by decide +kernel
theorem d_9_set_52 : decode prog_1_method_12_code 52 = .ok (.iaload, 1) := by decide +kernel
theorem d_9_set_53 : decode prog_1_method_12_code 53 = .ok (.istore_n 3, 1) := by decide +kernel
theorem d_9_set_54 : decode prog_1_method_12_code 54 = .ok (.aload_n 0, 1) := by decide +kernel
theorem d_9_set_55 : decode prog_1_method_12_code 55 = .ok (.getfield 26, 3) := by decide +kernel
theorem d_9_set_58 : decode prog_1_method_12_code 58 = .ok (.getfield 174, 3) := by decide +kernel
theorem d_9_set_61 : decode prog_1_method_12_code 61 = .ok (.iload_n 1, 1) := by decide +kernel
theorem d_9_set_62 : decode prog_1_method_12_code 62 = .ok (.iload_n 2, 1) := by decide +kernel
theorem d_9_set_63 : decode prog_1_method_12_code 63 = .ok (.iastore, 1) := by decide +kernel
theorem d_9_set_64 : decode prog_1_method_12_code 64 = .ok (.iload_n 3, 1) := by decide +kernel
theorem d_9_set_65 : decode prog_1_method_12_code 65 = .ok (.ireturn, 1) := by decide +kernel
def m_9_set (r0 : Nat) (x1 : Int32) (x2 : Int32) (Q : Int32 → St → Prop) (σ : St) : Prop :=
  ((x1 < 0 → Q (-1 : Int32) σ) ∧ (¬ x1 < 0 → (((6 : Int32) ≤ x1 → Q (-1 : Int32) σ) ∧ (¬ (6 : Int32) ≤ x1 → m_8_leastSetting (r0 + 7) x1 (fun (v_2 : Int32) (σ_1 : St) => ((x2 < v_2 → Q (-1 : Int32) σ_1) ∧ (¬ x2 < v_2 → vp_in x1 6 ∧ ((x2 ≤ (stV 2 (x1).toNatClampNeg) → m_0_remember (r0 + 42) (r0 + 7) (fun (σ_3 : St) => vp_in x1 6 ∧ ∀ x3_5 : Int32, x3_5 = (σ_3.1 ((r0 + 7) + 3) (x1).toNatClampNeg) → vp_in x1 6 ∧ ∀ σ_6 : St, σ_6 = wr σ_3 ((r0 + 7) + 3) (x1).toNatClampNeg x2 → Q x3_5 σ_6) σ_1) ∧ (¬ x2 ≤ (stV 2 (x1).toNatClampNeg) → Q (-1 : Int32) σ_1))))) σ))))
theorem d_8_appendLeg_0 : decode prog_10_method_12_code 0 = .ok (.aload_n 0, 1) := by decide +kernel
theorem d_8_appendLeg_1 : decode prog_10_method_12_code 1 = .ok (.getfield 19, 3) := by decide +kernel
theorem d_8_appendLeg_4 : decode prog_10_method_12_code 4 = .ok (.aload_n 0, 1) := by decide +kernel
theorem d_8_appendLeg_5 : decode prog_10_method_12_code 5 = .ok (.getfield 59, 3) := by decide +kernel
theorem d_8_appendLeg_8 : decode prog_10_method_12_code 8 = .ok (.aaload, 1) := by decide +kernel
theorem d_8_appendLeg_9 : decode prog_10_method_12_code 9 = .ok (.astore_n 3, 1) := by decide +kernel
theorem d_8_appendLeg_10 : decode prog_10_method_12_code 10 = .ok (.aload_n 3, 1) := by decide +kernel
theorem d_8_appendLeg_11 : decode prog_10_method_12_code 11 = .ok (.iload_n 1, 1) := by decide +kernel
theorem d_8_appendLeg_12 : decode prog_10_method_12_code 12 = .ok (.putfield 92, 3) := by decide +kernel
theorem d_8_appendLeg_15 : decode prog_10_method_12_code 15 = .ok (.aload_n 3, 1) := by decide +kernel
theorem d_8_appendLeg_16 : decode prog_10_method_12_code 16 = .ok (.iload_n 2, 1) := by decide +kernel
theorem d_8_appendLeg_17 : decode prog_10_method_12_code 17 = .ok (.putfield 108, 3) := by decide +kernel
theorem d_8_appendLeg_20 : decode prog_10_method_12_code 20 = .ok (.aload_n 0, 1) := by decide +kernel
theorem d_8_appendLeg_21 : decode prog_10_method_12_code 21 = .ok (.dup, 1) := by decide +kernel
theorem d_8_appendLeg_22 : decode prog_10_method_12_code 22 = .ok (.getfield 59, 3) := by decide +kernel
theorem d_8_appendLeg_25 : decode prog_10_method_12_code 25 = .ok (.iconst 1, 1) := by decide +kernel
theorem d_8_appendLeg_26 : decode prog_10_method_12_code 26 = .ok (.iadd, 1) := by decide +kernel
theorem d_8_appendLeg_27 : decode prog_10_method_12_code 27 = .ok (.putfield 59, 3) := by decide +kernel
theorem d_8_appendLeg_30 : decode prog_10_method_12_code 30 = .ok (.aload_n 0, 1) := by decide +kernel
theorem d_8_appendLeg_31 : decode prog_10_method_12_code 31 = .ok (.iconst 0, 1) := by decide +kernel
theorem d_8_appendLeg_32 : decode prog_10_method_12_code 32 = .ok (.putfield 65, 3) := by decide +kernel
theorem d_8_appendLeg_35 : decode prog_10_method_12_code 35 = .ok (.aload_n 0, 1) := by decide +kernel
theorem d_8_appendLeg_36 : decode prog_10_method_12_code 36 = .ok (.getfield 59, 3) := by decide +kernel
theorem d_8_appendLeg_39 : decode prog_10_method_12_code 39 = .ok (.iconst 1, 1) := by decide +kernel
theorem d_8_appendLeg_40 : decode prog_10_method_12_code 40 = .ok (.isub, 1) := by decide +kernel
theorem d_8_appendLeg_41 : decode prog_10_method_12_code 41 = .ok (.ireturn, 1) := by decide +kernel
def m_8_appendLeg (r0 : Nat) (x1 : Int32) (x2 : Int32) (Q : Int32 → St → Prop) (σ : St) : Prop :=
  vp_in (σ.1 r0 3) 10 ∧ ∀ r3_2 : Nat, r3_2 = ((r0 + 2) + 22 + ((σ.1 r0 3)).toNatClampNeg) → ∀ σ_3 : St, σ_3 = wr σ r3_2 0 x1 → ∀ σ_4 : St, σ_4 = wr σ_3 r3_2 1 x2 → ∀ σ_5 : St, σ_5 = wr σ_4 r0 3 ((σ_4.1 r0 3) + (1 : Int32)) → ∀ σ_6 : St, σ_6 = wr σ_5 r0 4 (0 : Int32) → Q ((σ_6.1 r0 3) - (1 : Int32)) σ_6
theorem d_9_addLeg_0 : decode prog_1_method_13_code 0 = .ok (.aload_n 0, 1) := by decide +kernel
theorem d_9_addLeg_1 : decode prog_1_method_13_code 1 = .ok (.getfield 26, 3) := by decide +kernel
theorem d_9_addLeg_4 : decode prog_1_method_13_code 4 = .ok (.iload_n 1, 1) := by decide +kernel
theorem d_9_addLeg_5 : decode prog_1_method_13_code 5 = .ok (.invokevirtual 100, 3) := by decide +kernel
theorem d_9_addLeg_8 : decode prog_1_method_13_code 8 = .ok (.ifCond .eq 12, 3) := by decide +kernel
theorem d_9_addLeg_11 : decode prog_1_method_13_code 11 = .ok (.iload_n 2, 1) := by decide +kernel
theorem d_9_addLeg_12 : decode prog_1_method_13_code 12 = .ok (.ifCond .lt 8, 3) := by decide +kernel
theorem d_9_addLeg_15 : decode prog_1_method_13_code 15 = .ok (.iload_n 2, 1) := by decide +kernel
theorem d_9_addLeg_16 : decode prog_1_method_13_code 16 = .ok (.iconst 2, 1) := by decide +kernel
theorem d_9_addLeg_17 : decode prog_1_method_13_code 17 = .ok (.if_icmp .lt 5, 3) := by decide +kernel
theorem d_9_addLeg_20 : decode prog_1_method_13_code 20 = .ok (.iconst (-1), 1) := by decide +kernel
theorem d_9_addLeg_21 : decode prog_1_method_13_code 21 = .ok (.ireturn, 1) := by decide +kernel
theorem d_9_addLeg_22 : decode prog_1_method_13_code 22 = .ok (.aload_n 0, 1) := by decide +kernel
theorem d_9_addLeg_23 : decode prog_1_method_13_code 23 = .ok (.getfield 26, 3) := by decide +kernel
theorem d_9_addLeg_26 : decode prog_1_method_13_code 26 = .ok (.getfield 108, 3) := by decide +kernel
theorem d_9_addLeg_29 : decode prog_1_method_13_code 29 = .ok (.bipush 10, 2) := by decide +kernel
theorem d_9_addLeg_31 : decode prog_1_method_13_code 31 = .ok (.if_icmp .lt 6, 3) := by decide +kernel
theorem d_9_addLeg_34 : decode prog_1_method_13_code 34 = .ok (.bipush (-3), 2) := by decide +kernel
theorem d_9_addLeg_36 : decode prog_1_method_13_code 36 = .ok (.ireturn, 1) := by decide +kernel
theorem d_9_addLeg_37 : decode prog_1_method_13_code 37 = .ok (.aload_n 0, 1) := by decide +kernel
theorem d_9_addLeg_38 : decode prog_1_method_13_code 38 = .ok (.getfield 42, 3) := by decide +kernel
theorem d_9_addLeg_41 : decode prog_1_method_13_code 41 = .ok (.aload_n 0, 1) := by decide +kernel
theorem d_9_addLeg_42 : decode prog_1_method_13_code 42 = .ok (.getfield 26, 3) := by decide +kernel
theorem d_9_addLeg_45 : decode prog_1_method_13_code 45 = .ok (.invokevirtual 80, 3) := by decide +kernel
theorem d_9_addLeg_48 : decode prog_1_method_13_code 48 = .ok (.aload_n 0, 1) := by decide +kernel
theorem d_9_addLeg_49 : decode prog_1_method_13_code 49 = .ok (.getfield 26, 3) := by decide +kernel
theorem d_9_addLeg_52 : decode prog_1_method_13_code 52 = .ok (.iload_n 1, 1) := by decide +kernel
theorem d_9_addLeg_53 : decode prog_1_method_13_code 53 = .ok (.iload_n 2, 1) := by decide +kernel
theorem d_9_addLeg_54 : decode prog_1_method_13_code 54 = .ok (.invokevirtual 177, 3) := by decide +kernel
theorem d_9_addLeg_57 : decode prog_1_method_13_code 57 = .ok (.ireturn, 1) := by decide +kernel
def m_9_addLeg (r0 : Nat) (x1 : Int32) (x2 : Int32) (Q : Int32 → St → Prop) (σ : St) : Prop :=
  m_8_hasStreet (r0 + 7) x1 (fun (v_2 : Int32) (σ_1 : St) => ((v_2 = 0 → Q (-1 : Int32) σ_1) ∧ (¬ v_2 = 0 → ((x2 < 0 → Q (-1 : Int32) σ_1) ∧ (¬ x2 < 0 → ((x2 < (2 : Int32) → (((σ_1.1 (r0 + 7) 3) < (10 : Int32) → m_0_remember (r0 + 42) (r0 + 7) (fun (σ_3 : St) => m_8_appendLeg (r0 + 7) x1 x2 (fun (v_6 : Int32) (σ_5 : St) => Q v_6 σ_5) σ_3) σ_1) ∧ (¬ (σ_1.1 (r0 + 7) 3) < (10 : Int32) → Q (-3 : Int32) σ_1))) ∧ (¬ x2 < (2 : Int32) → Q (-1 : Int32) σ_1))))))) σ
theorem d_8_hasLeg_0 : decode prog_10_method_5_code 0 = .ok (.iload_n 1, 1) := by decide +kernel
theorem d_8_hasLeg_1 : decode prog_10_method_5_code 1 = .ok (.ifCond .lt 15, 3) := by decide +kernel
theorem d_8_hasLeg_4 : decode prog_10_method_5_code 4 = .ok (.iload_n 1, 1) := by decide +kernel
theorem d_8_hasLeg_5 : decode prog_10_method_5_code 5 = .ok (.aload_n 0, 1) := by decide +kernel
theorem d_8_hasLeg_6 : decode prog_10_method_5_code 6 = .ok (.getfield 59, 3) := by decide +kernel
theorem d_8_hasLeg_9 : decode prog_10_method_5_code 9 = .ok (.if_icmp .ge 7, 3) := by decide +kernel
theorem d_8_hasLeg_12 : decode prog_10_method_5_code 12 = .ok (.iconst 1, 1) := by decide +kernel
theorem d_8_hasLeg_13 : decode prog_10_method_5_code 13 = .ok (.goto 4, 3) := by decide +kernel
theorem d_8_hasLeg_16 : decode prog_10_method_5_code 16 = .ok (.iconst 0, 1) := by decide +kernel
theorem d_8_hasLeg_17 : decode prog_10_method_5_code 17 = .ok (.ireturn, 1) := by decide +kernel
def m_8_hasLeg (r0 : Nat) (x1 : Int32) (Q : Int32 → St → Prop) (σ : St) : Prop :=
  ((x1 < 0 → Q (0 : Int32) σ) ∧ (¬ x1 < 0 → (((σ.1 r0 3) ≤ x1 → Q (0 : Int32) σ) ∧ (¬ (σ.1 r0 3) ≤ x1 → Q (1 : Int32) σ))))
theorem d_9_leg_0 : decode prog_1_method_15_code 0 = .ok (.aload_n 0, 1) := by decide +kernel
theorem d_9_leg_1 : decode prog_1_method_15_code 1 = .ok (.getfield 26, 3) := by decide +kernel
theorem d_9_leg_4 : decode prog_1_method_15_code 4 = .ok (.iload_n 1, 1) := by decide +kernel
theorem d_9_leg_5 : decode prog_1_method_15_code 5 = .ok (.invokevirtual 180, 3) := by decide +kernel
theorem d_9_leg_8 : decode prog_1_method_15_code 8 = .ok (.ifCond .eq 12, 3) := by decide +kernel
theorem d_9_leg_11 : decode prog_1_method_15_code 11 = .ok (.iload_n 2, 1) := by decide +kernel
theorem d_9_leg_12 : decode prog_1_method_15_code 12 = .ok (.ifCond .lt 8, 3) := by decide +kernel
theorem d_9_leg_15 : decode prog_1_method_15_code 15 = .ok (.iload_n 2, 1) := by decide +kernel
theorem d_9_leg_16 : decode prog_1_method_15_code 16 = .ok (.iconst 3, 1) := by decide +kernel
theorem d_9_leg_17 : decode prog_1_method_15_code 17 = .ok (.if_icmp .le 5, 3) := by decide +kernel
theorem d_9_leg_20 : decode prog_1_method_15_code 20 = .ok (.iconst (-1), 1) := by decide +kernel
theorem d_9_leg_21 : decode prog_1_method_15_code 21 = .ok (.ireturn, 1) := by decide +kernel
theorem d_9_leg_22 : decode prog_1_method_15_code 22 = .ok (.aload_n 0, 1) := by decide +kernel
theorem d_9_leg_23 : decode prog_1_method_15_code 23 = .ok (.getfield 26, 3) := by decide +kernel
theorem d_9_leg_26 : decode prog_1_method_15_code 26 = .ok (.getfield 186, 3) := by decide +kernel
theorem d_9_leg_29 : decode prog_1_method_15_code 29 = .ok (.iload_n 1, 1) := by decide +kernel
theorem d_9_leg_30 : decode prog_1_method_15_code 30 = .ok (.aaload, 1) := by decide +kernel
theorem d_9_leg_31 : decode prog_1_method_15_code 31 = .ok (.astore_n 3, 1) := by decide +kernel
theorem d_9_leg_32 : decode prog_1_method_15_code 32 = .ok (.iload_n 2, 1) := by decide +kernel
theorem d_9_leg_33 : decode prog_1_method_15_code 33 = .ok (.ifCond .ne 8, 3) := by decide +kernel
theorem d_9_leg_36 : decode prog_1_method_15_code 36 = .ok (.aload_n 3, 1) := by decide +kernel
theorem d_9_leg_37 : decode prog_1_method_15_code 37 = .ok (.getfield 190, 3) := by decide +kernel
theorem d_9_leg_40 : decode prog_1_method_15_code 40 = .ok (.ireturn, 1) := by decide +kernel
theorem d_9_leg_41 : decode prog_1_method_15_code 41 = .ok (.iload_n 2, 1) := by decide +kernel
theorem d_9_leg_42 : decode prog_1_method_15_code 42 = .ok (.iconst 1, 1) := by decide +kernel
theorem d_9_leg_43 : decode prog_1_method_15_code 43 = .ok (.if_icmp .ne 8, 3) := by decide +kernel
theorem d_9_leg_46 : decode prog_1_method_15_code 46 = .ok (.aload_n 3, 1) := by decide +kernel
theorem d_9_leg_47 : decode prog_1_method_15_code 47 = .ok (.getfield 195, 3) := by decide +kernel
theorem d_9_leg_50 : decode prog_1_method_15_code 50 = .ok (.ireturn, 1) := by decide +kernel
theorem d_9_leg_51 : decode prog_1_method_15_code 51 = .ok (.aload_n 0, 1) := by decide +kernel
theorem d_9_leg_52 : decode prog_1_method_15_code 52 = .ok (.getfield 26, 3) := by decide +kernel
theorem d_9_leg_55 : decode prog_1_method_15_code 55 = .ok (.getfield 198, 3) := by decide +kernel
theorem d_9_leg_58 : decode prog_1_method_15_code 58 = .ok (.ifCond .ne 6, 3) := by decide +kernel
theorem d_9_leg_61 : decode prog_1_method_15_code 61 = .ok (.bipush (-2), 2) := by decide +kernel
theorem d_9_leg_63 : decode prog_1_method_15_code 63 = .ok (.ireturn, 1) := by decide +kernel
theorem d_9_leg_64 : decode prog_1_method_15_code 64 = .ok (.iload_n 2, 1) := by decide +kernel
theorem d_9_leg_65 : decode prog_1_method_15_code 65 = .ok (.iconst 2, 1) := by decide +kernel
theorem d_9_leg_66 : decode prog_1_method_15_code 66 = .ok (.if_icmp .ne 10, 3) := by decide +kernel
theorem d_9_leg_69 : decode prog_1_method_15_code 69 = .ok (.aload_n 3, 1) := by decide +kernel
theorem d_9_leg_70 : decode prog_1_method_15_code 70 = .ok (.getfield 202, 3) := by decide +kernel
theorem d_9_leg_73 : decode prog_1_method_15_code 73 = .ok (.goto 7, 3) := by decide +kernel
theorem d_9_leg_76 : decode prog_1_method_15_code 76 = .ok (.aload_n 3, 1) := by decide +kernel
theorem d_9_leg_77 : decode prog_1_method_15_code 77 = .ok (.getfield 205, 3) := by decide +kernel
theorem d_9_leg_80 : decode prog_1_method_15_code 80 = .ok (.ireturn, 1) := by decide +kernel
def m_9_leg (r0 : Nat) (x1 : Int32) (x2 : Int32) (Q : Int32 → St → Prop) (σ : St) : Prop :=
  m_8_hasLeg (r0 + 7) x1 (fun (v_2 : Int32) (σ_1 : St) => ((v_2 = 0 → Q (-1 : Int32) σ_1) ∧ (¬ v_2 = 0 → ((x2 < 0 → Q (-1 : Int32) σ_1) ∧ (¬ x2 < 0 → ((x2 ≤ (3 : Int32) → vp_in x1 10 ∧ ∀ r3_4 : Nat, r3_4 = (((r0 + 7) + 2) + 22 + (x1).toNatClampNeg) → ((¬ x2 = 0 → ((¬ x2 = (1 : Int32) → ((¬ (σ_1.1 (r0 + 7) 4) = 0 → ((¬ x2 = (2 : Int32) → Q (σ_1.1 r3_4 3) σ_1) ∧ (x2 = (2 : Int32) → Q (σ_1.1 r3_4 2) σ_1))) ∧ ((σ_1.1 (r0 + 7) 4) = 0 → Q (-2 : Int32) σ_1))) ∧ (x2 = (1 : Int32) → Q (σ_1.1 r3_4 1) σ_1))) ∧ (x2 = 0 → Q (σ_1.1 r3_4 0) σ_1))) ∧ (¬ x2 ≤ (3 : Int32) → Q (-1 : Int32) σ_1))))))) σ
theorem d_4_clear_0 : decode prog_6_method_2_code 0 = .ok (.aload_n 0, 1) := by decide +kernel
theorem d_4_clear_1 : decode prog_6_method_2_code 1 = .ok (.iconst 0, 1) := by decide +kernel
theorem d_4_clear_2 : decode prog_6_method_2_code 2 = .ok (.putfield 9, 3) := by decide +kernel
theorem d_4_clear_5 : decode prog_6_method_2_code 5 = .ok (.aload_n 0, 1) := by decide +kernel
theorem d_4_clear_6 : decode prog_6_method_2_code 6 = .ok (.iconst 0, 1) := by decide +kernel
theorem d_4_clear_7 : decode prog_6_method_2_code 7 = .ok (.putfield 15, 3) := by decide +kernel
theorem d_4_clear_10 : decode prog_6_method_2_code 10 = .ok (.aload_n 0, 1) := by decide +kernel
theorem d_4_clear_11 : decode prog_6_method_2_code 11 = .ok (.iconst 0, 1) := by decide +kernel
theorem d_4_clear_12 : decode prog_6_method_2_code 12 = .ok (.putfield 18, 3) := by decide +kernel
theorem d_4_clear_15 : decode prog_6_method_2_code 15 = .ok (.aload_n 0, 1) := by decide +kernel
theorem d_4_clear_16 : decode prog_6_method_2_code 16 = .ok (.iconst 0, 1) := by decide +kernel
theorem d_4_clear_17 : decode prog_6_method_2_code 17 = .ok (.putfield 21, 3) := by decide +kernel
theorem d_4_clear_20 : decode prog_6_method_2_code 20 = .ok (.aload_n 0, 1) := by decide +kernel
theorem d_4_clear_21 : decode prog_6_method_2_code 21 = .ok (.iconst 0, 1) := by decide +kernel
theorem d_4_clear_22 : decode prog_6_method_2_code 22 = .ok (.putfield 24, 3) := by decide +kernel
theorem d_4_clear_25 : decode prog_6_method_2_code 25 = .ok (.aload_n 0, 1) := by decide +kernel
theorem d_4_clear_26 : decode prog_6_method_2_code 26 = .ok (.iconst 0, 1) := by decide +kernel
theorem d_4_clear_27 : decode prog_6_method_2_code 27 = .ok (.putfield 27, 3) := by decide +kernel
theorem d_4_clear_30 : decode prog_6_method_2_code 30 = .ok (.return_, 1) := by decide +kernel
def m_4_clear (r0 : Nat) (Q : St → Prop) (σ : St) : Prop :=
  ∀ σ_1 : St, σ_1 = wr σ r0 0 (0 : Int32) → ∀ σ_2 : St, σ_2 = wr σ_1 r0 1 (0 : Int32) → ∀ σ_3 : St, σ_3 = wr σ_2 r0 2 (0 : Int32) → ∀ σ_4 : St, σ_4 = wr σ_3 r0 3 (0 : Int32) → ∀ σ_5 : St, σ_5 = wr σ_4 r0 4 (0 : Int32) → ∀ σ_6 : St, σ_6 = wr σ_5 r0 5 (0 : Int32) → Q σ_6
theorem d_5_driveTo_0 : decode prog_7_method_4_code 0 = .ok (.aload_n 0, 1) := by decide +kernel
theorem d_5_driveTo_1 : decode prog_7_method_4_code 1 = .ok (.getfield 9, 3) := by decide +kernel
theorem d_5_driveTo_4 : decode prog_7_method_4_code 4 = .ok (.getfield 48, 3) := by decide +kernel
theorem d_5_driveTo_7 : decode prog_7_method_4_code 7 = .ok (.iload_n 1, 1) := by decide +kernel
theorem d_5_driveTo_8 : decode prog_7_method_4_code 8 = .ok (.aaload, 1) := by decide +kernel
theorem d_5_driveTo_9 : decode prog_7_method_4_code 9 = .ok (.getfield 92, 3) := by decide +kernel
theorem d_5_driveTo_12 : decode prog_7_method_4_code 12 = .ok (.istore_n 2, 1) := by decide +kernel
theorem d_5_driveTo_13 : decode prog_7_method_4_code 13 = .ok (.aload_n 0, 1) := by decide +kernel
theorem d_5_driveTo_14 : decode prog_7_method_4_code 14 = .ok (.getfield 26, 3) := by decide +kernel
theorem d_5_driveTo_17 : decode prog_7_method_4_code 17 = .ok (.iconst (-1), 1) := by decide +kernel
theorem d_5_driveTo_18 : decode prog_7_method_4_code 18 = .ok (.if_icmp .ne 8, 3) := by decide +kernel
theorem d_5_driveTo_21 : decode prog_7_method_4_code 21 = .ok (.bipush 10, 2) := by decide +kernel
theorem d_5_driveTo_23 : decode prog_7_method_4_code 23 = .ok (.iload_n 2, 1) := by decide +kernel
theorem d_5_driveTo_24 : decode prog_7_method_4_code 24 = .ok (.imul, 1) := by decide +kernel
theorem d_5_driveTo_25 : decode prog_7_method_4_code 25 = .ok (.ireturn, 1) := by decide +kernel
theorem d_5_driveTo_26 : decode prog_7_method_4_code 26 = .ok (.aload_n 0, 1) := by decide +kernel
theorem d_5_driveTo_27 : decode prog_7_method_4_code 27 = .ok (.getfield 26, 3) := by decide +kernel
theorem d_5_driveTo_30 : decode prog_7_method_4_code 30 = .ok (.iload_n 1, 1) := by decide +kernel
theorem d_5_driveTo_31 : decode prog_7_method_4_code 31 = .ok (.if_icmp .ne 5, 3) := by decide +kernel
theorem d_5_driveTo_34 : decode prog_7_method_4_code 34 = .ok (.iconst 0, 1) := by decide +kernel
theorem d_5_driveTo_35 : decode prog_7_method_4_code 35 = .ok (.ireturn, 1) := by decide +kernel
theorem d_5_driveTo_36 : decode prog_7_method_4_code 36 = .ok (.iload_n 2, 1) := by decide +kernel
theorem d_5_driveTo_37 : decode prog_7_method_4_code 37 = .ok (.aload_n 0, 1) := by decide +kernel
theorem d_5_driveTo_38 : decode prog_7_method_4_code 38 = .ok (.getfield 9, 3) := by decide +kernel
theorem d_5_driveTo_41 : decode prog_7_method_4_code 41 = .ok (.getfield 48, 3) := by decide +kernel
theorem d_5_driveTo_44 : decode prog_7_method_4_code 44 = .ok (.aload_n 0, 1) := by decide +kernel
theorem d_5_driveTo_45 : decode prog_7_method_4_code 45 = .ok (.getfield 26, 3) := by decide +kernel
theorem d_5_driveTo_48 : decode prog_7_method_4_code 48 = .ok (.aaload, 1) := by decide +kernel
theorem d_5_driveTo_49 : decode prog_7_method_4_code 49 = .ok (.getfield 92, 3) := by decide +kernel
theorem d_5_driveTo_52 : decode prog_7_method_4_code 52 = .ok (.isub, 1) := by decide +kernel
theorem d_5_driveTo_53 : decode prog_7_method_4_code 53 = .ok (.invokestatic 95, 3) := by decide +kernel
theorem d_5_driveTo_56 : decode prog_7_method_4_code 56 = .ok (.istore_n 3, 1) := by decide +kernel
theorem d_5_driveTo_57 : decode prog_7_method_4_code 57 = .ok (.bipush 10, 2) := by decide +kernel
theorem d_5_driveTo_59 : decode prog_7_method_4_code 59 = .ok (.iload_n 3, 1) := by decide +kernel
theorem d_5_driveTo_60 : decode prog_7_method_4_code 60 = .ok (.imul, 1) := by decide +kernel
theorem d_5_driveTo_61 : decode prog_7_method_4_code 61 = .ok (.bipush 50, 2) := by decide +kernel
theorem d_5_driveTo_63 : decode prog_7_method_4_code 63 = .ok (.iadd, 1) := by decide +kernel
theorem d_5_driveTo_64 : decode prog_7_method_4_code 64 = .ok (.ireturn, 1) := by decide +kernel
def m_5_driveTo (r0 : Nat) (x1 : Int32) (Q : Int32 → St → Prop) (σ : St) : Prop :=
  vp_in x1 6 ∧ ∀ x2_2 : Int32, x2_2 = (σ.1 (((rfR r0) + 1) + 5 + 3 * (x1).toNatClampNeg) 1) → ((¬ (σ.1 r0 1) = (-1 : Int32) → ((¬ (σ.1 r0 1) = x1 → vp_in (σ.1 r0 1) 6 ∧ ∀ x3_4 : Int32, x3_4 = (if 0 ≤ (x2_2 - (σ.1 (((rfR r0) + 1) + 5 + 3 * ((σ.1 r0 1)).toNatClampNeg) 1)) then (x2_2 - (σ.1 (((rfR r0) + 1) + 5 + 3 * ((σ.1 r0 1)).toNatClampNeg) 1)) else 0 - (x2_2 - (σ.1 (((rfR r0) + 1) + 5 + 3 * ((σ.1 r0 1)).toNatClampNeg) 1))) → Q (((10 : Int32) * x3_4) + (50 : Int32)) σ) ∧ ((σ.1 r0 1) = x1 → Q (0 : Int32) σ))) ∧ ((σ.1 r0 1) = (-1 : Int32) → Q ((10 : Int32) * x2_2) σ))
theorem d_6_driveToDump_0 : decode prog_8_method_11_code 0 = .ok (.bipush 10, 2) := by decide +kernel
theorem d_6_driveToDump_2 : decode prog_8_method_11_code 2 = .ok (.aload_n 0, 1) := by decide +kernel
theorem d_6_driveToDump_3 : decode prog_8_method_11_code 3 = .ok (.getfield 23, 3) := by decide +kernel
theorem d_6_driveToDump_6 : decode prog_8_method_11_code 6 = .ok (.imul, 1) := by decide +kernel
theorem d_6_driveToDump_7 : decode prog_8_method_11_code 7 = .ok (.ireturn, 1) := by decide +kernel
def m_6_driveToDump (r0 : Nat) (Q : Int32 → St → Prop) (σ : St) : Prop :=
  Q ((10 : Int32) * (σ.1 r0 1)) σ
theorem d_5_fits_0 : decode prog_7_method_5_code 0 = .ok (.aload_n 0, 1) := by decide +kernel
theorem d_5_fits_1 : decode prog_7_method_5_code 1 = .ok (.getfield 9, 3) := by decide +kernel
theorem d_5_fits_4 : decode prog_7_method_5_code 4 = .ok (.getfield 15, 3) := by decide +kernel
theorem d_5_fits_7 : decode prog_7_method_5_code 7 = .ok (.getfield 89, 3) := by decide +kernel
theorem d_5_fits_10 : decode prog_7_method_5_code 10 = .ok (.iload_n 1, 1) := by decide +kernel
theorem d_5_fits_11 : decode prog_7_method_5_code 11 = .ok (.iadd, 1) := by decide +kernel
theorem d_5_fits_12 : decode prog_7_method_5_code 12 = .ok (.aload_n 2, 1) := by decide +kernel
theorem d_5_fits_13 : decode prog_7_method_5_code 13 = .ok (.invokevirtual 100, 3) := by decide +kernel
theorem d_5_fits_16 : decode prog_7_method_5_code 16 = .ok (.iadd, 1) := by decide +kernel
theorem d_5_fits_17 : decode prog_7_method_5_code 17 = .ok (.aload_n 0, 1) := by decide +kernel
theorem d_5_fits_18 : decode prog_7_method_5_code 18 = .ok (.getfield 9, 3) := by decide +kernel
theorem d_5_fits_21 : decode prog_7_method_5_code 21 = .ok (.getfield 104, 3) := by decide +kernel
theorem d_5_fits_24 : decode prog_7_method_5_code 24 = .ok (.iconst 3, 1) := by decide +kernel
theorem d_5_fits_25 : decode prog_7_method_5_code 25 = .ok (.iaload, 1) := by decide +kernel
theorem d_5_fits_26 : decode prog_7_method_5_code 26 = .ok (.if_icmp .gt 7, 3) := by decide +kernel
theorem d_5_fits_29 : decode prog_7_method_5_code 29 = .ok (.iconst 1, 1) := by decide +kernel
theorem d_5_fits_30 : decode prog_7_method_5_code 30 = .ok (.goto 4, 3) := by decide +kernel
theorem d_5_fits_33 : decode prog_7_method_5_code 33 = .ok (.iconst 0, 1) := by decide +kernel
theorem d_5_fits_34 : decode prog_7_method_5_code 34 = .ok (.ireturn, 1) := by decide +kernel
def m_5_fits (r0 : Nat) (x1 : Int32) (r2 : Nat) (Q : Int32 → St → Prop) (σ : St) : Prop :=
  m_6_driveToDump r2 (fun (v_2 : Int32) (σ_1 : St) => vp_in (3 : Int32) 6 ∧ (((σ_1.1 ((rfR r0) + 3) ((3 : Int32)).toNatClampNeg) < (((σ.1 ((rfR r0) + 5) 1) + x1) + v_2) → Q (0 : Int32) σ_1) ∧ (¬ (σ_1.1 ((rfR r0) + 3) ((3 : Int32)).toNatClampNeg) < (((σ.1 ((rfR r0) + 5) 1) + x1) + v_2) → Q (1 : Int32) σ_1))) σ
theorem d_5_driveToLeg_0 : decode prog_7_method_3_code 0 = .ok (.aload_n 0, 1) := by decide +kernel
theorem d_5_driveToLeg_1 : decode prog_7_method_3_code 1 = .ok (.aload_n 1, 1) := by decide +kernel
theorem d_5_driveToLeg_2 : decode prog_7_method_3_code 2 = .ok (.getfield 52, 3) := by decide +kernel
theorem d_5_driveToLeg_5 : decode prog_7_method_3_code 5 = .ok (.invokevirtual 81, 3) := by decide +kernel
theorem d_5_driveToLeg_8 : decode prog_7_method_3_code 8 = .ok (.istore_n 3, 1) := by decide +kernel
theorem d_5_driveToLeg_9 : decode prog_7_method_3_code 9 = .ok (.aload_n 0, 1) := by decide +kernel
theorem d_5_driveToLeg_10 : decode prog_7_method_3_code 10 = .ok (.iload_n 3, 1) := by decide +kernel
theorem d_5_driveToLeg_11 : decode prog_7_method_3_code 11 = .ok (.aload_n 2, 1) := by decide +kernel
theorem d_5_driveToLeg_12 : decode prog_7_method_3_code 12 = .ok (.invokevirtual 85, 3) := by decide +kernel
theorem d_5_driveToLeg_15 : decode prog_7_method_3_code 15 = .ok (.ifCond .ne 5, 3) := by decide +kernel
theorem d_5_driveToLeg_18 : decode prog_7_method_3_code 18 = .ok (.iconst 1, 1) := by decide +kernel
theorem d_5_driveToLeg_19 : decode prog_7_method_3_code 19 = .ok (.ireturn, 1) := by decide +kernel
theorem d_5_driveToLeg_20 : decode prog_7_method_3_code 20 = .ok (.aload_n 0, 1) := by decide +kernel
theorem d_5_driveToLeg_21 : decode prog_7_method_3_code 21 = .ok (.getfield 9, 3) := by decide +kernel
theorem d_5_driveToLeg_24 : decode prog_7_method_3_code 24 = .ok (.getfield 15, 3) := by decide +kernel
theorem d_5_driveToLeg_27 : decode prog_7_method_3_code 27 = .ok (.dup, 1) := by decide +kernel
theorem d_5_driveToLeg_28 : decode prog_7_method_3_code 28 = .ok (.getfield 89, 3) := by decide +kernel
theorem d_5_driveToLeg_31 : decode prog_7_method_3_code 31 = .ok (.iload_n 3, 1) := by decide +kernel
theorem d_5_driveToLeg_32 : decode prog_7_method_3_code 32 = .ok (.iadd, 1) := by decide +kernel
theorem d_5_driveToLeg_33 : decode prog_7_method_3_code 33 = .ok (.putfield 89, 3) := by decide +kernel
theorem d_5_driveToLeg_36 : decode prog_7_method_3_code 36 = .ok (.aload_n 0, 1) := by decide +kernel
theorem d_5_driveToLeg_37 : decode prog_7_method_3_code 37 = .ok (.aload_n 1, 1) := by decide +kernel
theorem d_5_driveToLeg_38 : decode prog_7_method_3_code 38 = .ok (.getfield 52, 3) := by decide +kernel
theorem d_5_driveToLeg_41 : decode prog_7_method_3_code 41 = .ok (.putfield 26, 3) := by decide +kernel
theorem d_5_driveToLeg_44 : decode prog_7_method_3_code 44 = .ok (.iconst 0, 1) := by decide +kernel
theorem d_5_driveToLeg_45 : decode prog_7_method_3_code 45 = .ok (.ireturn, 1) := by decide +kernel
def m_5_driveToLeg (r0 : Nat) (r1 : Nat) (r2 : Nat) (Q : Int32 → St → Prop) (σ : St) : Prop :=
  m_5_driveTo r0 (σ.1 r1 0) (fun (v_2 : Int32) (σ_1 : St) => m_5_fits r0 v_2 r2 (fun (v_4 : Int32) (σ_3 : St) => ((¬ v_4 = 0 → ∀ σ_5 : St, σ_5 = wr σ_3 ((rfR r0) + 5) 1 ((σ_3.1 ((rfR r0) + 5) 1) + v_2) → ∀ σ_6 : St, σ_6 = wr σ_5 r0 1 (σ_5.1 r1 0) → Q (0 : Int32) σ_6) ∧ (v_4 = 0 → Q (1 : Int32) σ_3))) σ_1) σ
theorem d_5_unitsForCell_0 : decode prog_7_method_7_code 0 = .ok (.bipush 12, 2) := by decide +kernel
theorem d_5_unitsForCell_2 : decode prog_7_method_7_code 2 = .ok (.iconst 1, 1) := by decide +kernel
theorem d_5_unitsForCell_3 : decode prog_7_method_7_code 3 = .ok (.aload_n 0, 1) := by decide +kernel
theorem d_5_unitsForCell_4 : decode prog_7_method_7_code 4 = .ok (.getfield 9, 3) := by decide +kernel
theorem d_5_unitsForCell_7 : decode prog_7_method_7_code 7 = .ok (.getfield 104, 3) := by decide +kernel
theorem d_5_unitsForCell_10 : decode prog_7_method_7_code 10 = .ok (.iconst 0, 1) := by decide +kernel
theorem d_5_unitsForCell_11 : decode prog_7_method_7_code 11 = .ok (.iaload, 1) := by decide +kernel
theorem d_5_unitsForCell_12 : decode prog_7_method_7_code 12 = .ok (.invokestatic 125, 3) := by decide +kernel
theorem d_5_unitsForCell_15 : decode prog_7_method_7_code 15 = .ok (.idiv, 1) := by decide +kernel
theorem d_5_unitsForCell_16 : decode prog_7_method_7_code 16 = .ok (.ireturn, 1) := by decide +kernel
def m_5_unitsForCell (r0 : Nat) (Q : Int32 → St → Prop) (σ : St) : Prop :=
  vp_in (0 : Int32) 6 ∧ ¬ (if (1 : Int32) < (σ.1 ((rfR r0) + 3) ((0 : Int32)).toNatClampNeg) then (σ.1 ((rfR r0) + 3) ((0 : Int32)).toNatClampNeg) else (1 : Int32)) = 0 ∧ Q ((12 : Int32) / (if (1 : Int32) < (σ.1 ((rfR r0) + 3) ((0 : Int32)).toNatClampNeg) then (σ.1 ((rfR r0) + 3) ((0 : Int32)).toNatClampNeg) else (1 : Int32))) σ
theorem d_5_sweepOnce_0 : decode prog_7_method_8_code 0 = .ok (.aload_n 2, 1) := by decide +kernel
theorem d_5_sweepOnce_1 : decode prog_7_method_8_code 1 = .ok (.iload_n 3, 1) := by decide +kernel
theorem d_5_sweepOnce_2 : decode prog_7_method_8_code 2 = .ok (.aload_n 0, 1) := by decide +kernel
theorem d_5_sweepOnce_3 : decode prog_7_method_8_code 3 = .ok (.getfield 9, 3) := by decide +kernel
theorem d_5_sweepOnce_6 : decode prog_7_method_8_code 6 = .ok (.invokevirtual 128, 3) := by decide +kernel
theorem d_5_sweepOnce_9 : decode prog_7_method_8_code 9 = .ok (.invokevirtual 131, 3) := by decide +kernel
theorem d_5_sweepOnce_12 : decode prog_7_method_8_code 12 = .ok (.istore 4, 2) := by decide +kernel
theorem d_5_sweepOnce_14 : decode prog_7_method_8_code 14 = .ok (.iload 4, 2) := by decide +kernel
theorem d_5_sweepOnce_16 : decode prog_7_method_8_code 16 = .ok (.aload_n 0, 1) := by decide +kernel
theorem d_5_sweepOnce_17 : decode prog_7_method_8_code 17 = .ok (.getfield 9, 3) := by decide +kernel
theorem d_5_sweepOnce_20 : decode prog_7_method_8_code 20 = .ok (.invokevirtual 116, 3) := by decide +kernel
theorem d_5_sweepOnce_23 : decode prog_7_method_8_code 23 = .ok (.invokestatic 134, 3) := by decide +kernel
theorem d_5_sweepOnce_26 : decode prog_7_method_8_code 26 = .ok (.istore 5, 2) := by decide +kernel
theorem d_5_sweepOnce_28 : decode prog_7_method_8_code 28 = .ok (.aload_n 2, 1) := by decide +kernel
theorem d_5_sweepOnce_29 : decode prog_7_method_8_code 29 = .ok (.getfield 137, 3) := by decide +kernel
theorem d_5_sweepOnce_32 : decode prog_7_method_8_code 32 = .ok (.iload_n 3, 1) := by decide +kernel
theorem d_5_sweepOnce_33 : decode prog_7_method_8_code 33 = .ok (.dup2, 1) := by decide +kernel
theorem d_5_sweepOnce_34 : decode prog_7_method_8_code 34 = .ok (.iaload, 1) := by decide +kernel
theorem d_5_sweepOnce_35 : decode prog_7_method_8_code 35 = .ok (.iload 5, 2) := by decide +kernel
theorem d_5_sweepOnce_37 : decode prog_7_method_8_code 37 = .ok (.isub, 1) := by decide +kernel
theorem d_5_sweepOnce_38 : decode prog_7_method_8_code 38 = .ok (.iastore, 1) := by decide +kernel
theorem d_5_sweepOnce_39 : decode prog_7_method_8_code 39 = .ok (.aload_n 0, 1) := by decide +kernel
theorem d_5_sweepOnce_40 : decode prog_7_method_8_code 40 = .ok (.getfield 9, 3) := by decide +kernel
theorem d_5_sweepOnce_43 : decode prog_7_method_8_code 43 = .ok (.dup, 1) := by decide +kernel
theorem d_5_sweepOnce_44 : decode prog_7_method_8_code 44 = .ok (.getfield 140, 3) := by decide +kernel
theorem d_5_sweepOnce_47 : decode prog_7_method_8_code 47 = .ok (.iload 5, 2) := by decide +kernel
theorem d_5_sweepOnce_49 : decode prog_7_method_8_code 49 = .ok (.iadd, 1) := by decide +kernel
theorem d_5_sweepOnce_50 : decode prog_7_method_8_code 50 = .ok (.putfield 140, 3) := by decide +kernel
theorem d_5_sweepOnce_53 : decode prog_7_method_8_code 53 = .ok (.aload_n 1, 1) := by decide +kernel
theorem d_5_sweepOnce_54 : decode prog_7_method_8_code 54 = .ok (.dup, 1) := by decide +kernel
theorem d_5_sweepOnce_55 : decode prog_7_method_8_code 55 = .ok (.getfield 42, 3) := by decide +kernel
theorem d_5_sweepOnce_58 : decode prog_7_method_8_code 58 = .ok (.iload 5, 2) := by decide +kernel
theorem d_5_sweepOnce_60 : decode prog_7_method_8_code 60 = .ok (.iadd, 1) := by decide +kernel
theorem d_5_sweepOnce_61 : decode prog_7_method_8_code 61 = .ok (.putfield 42, 3) := by decide +kernel
theorem d_5_sweepOnce_64 : decode prog_7_method_8_code 64 = .ok (.aload_n 0, 1) := by decide +kernel
theorem d_5_sweepOnce_65 : decode prog_7_method_8_code 65 = .ok (.getfield 9, 3) := by decide +kernel
theorem d_5_sweepOnce_68 : decode prog_7_method_8_code 68 = .ok (.getfield 15, 3) := by decide +kernel
theorem d_5_sweepOnce_71 : decode prog_7_method_8_code 71 = .ok (.dup, 1) := by decide +kernel
theorem d_5_sweepOnce_72 : decode prog_7_method_8_code 72 = .ok (.getfield 143, 3) := by decide +kernel
theorem d_5_sweepOnce_75 : decode prog_7_method_8_code 75 = .ok (.iload 5, 2) := by decide +kernel
theorem d_5_sweepOnce_77 : decode prog_7_method_8_code 77 = .ok (.iadd, 1) := by decide +kernel
theorem d_5_sweepOnce_78 : decode prog_7_method_8_code 78 = .ok (.putfield 143, 3) := by decide +kernel
theorem d_5_sweepOnce_81 : decode prog_7_method_8_code 81 = .ok (.aload_n 0, 1) := by decide +kernel
theorem d_5_sweepOnce_82 : decode prog_7_method_8_code 82 = .ok (.getfield 9, 3) := by decide +kernel
theorem d_5_sweepOnce_85 : decode prog_7_method_8_code 85 = .ok (.getfield 144, 3) := by decide +kernel
theorem d_5_sweepOnce_88 : decode prog_7_method_8_code 88 = .ok (.iconst 1, 1) := by decide +kernel
theorem d_5_sweepOnce_89 : decode prog_7_method_8_code 89 = .ok (.iload 5, 2) := by decide +kernel
theorem d_5_sweepOnce_91 : decode prog_7_method_8_code 91 = .ok (.aload_n 0, 1) := by decide +kernel
theorem d_5_sweepOnce_92 : decode prog_7_method_8_code 92 = .ok (.getfield 9, 3) := by decide +kernel
theorem d_5_sweepOnce_95 : decode prog_7_method_8_code 95 = .ok (.getfield 104, 3) := by decide +kernel
theorem d_5_sweepOnce_98 : decode prog_7_method_8_code 98 = .ok (.iconst 0, 1) := by decide +kernel
theorem d_5_sweepOnce_99 : decode prog_7_method_8_code 99 = .ok (.iaload, 1) := by decide +kernel
theorem d_5_sweepOnce_100 : decode prog_7_method_8_code 100 = .ok (.imul, 1) := by decide +kernel
theorem d_5_sweepOnce_101 : decode prog_7_method_8_code 101 = .ok (.bipush 20, 2) := by decide +kernel
theorem d_5_sweepOnce_103 : decode prog_7_method_8_code 103 = .ok (.idiv, 1) := by decide +kernel
theorem d_5_sweepOnce_104 : decode prog_7_method_8_code 104 = .ok (.iadd, 1) := by decide +kernel
theorem d_5_sweepOnce_105 : decode prog_7_method_8_code 105 = .ok (.invokestatic 134, 3) := by decide +kernel
theorem d_5_sweepOnce_108 : decode prog_7_method_8_code 108 = .ok (.istore 6, 2) := by decide +kernel
theorem d_5_sweepOnce_110 : decode prog_7_method_8_code 110 = .ok (.aload_n 0, 1) := by decide +kernel
theorem d_5_sweepOnce_111 : decode prog_7_method_8_code 111 = .ok (.getfield 9, 3) := by decide +kernel
theorem d_5_sweepOnce_114 : decode prog_7_method_8_code 114 = .ok (.dup, 1) := by decide +kernel
theorem d_5_sweepOnce_115 : decode prog_7_method_8_code 115 = .ok (.getfield 144, 3) := by decide +kernel
theorem d_5_sweepOnce_118 : decode prog_7_method_8_code 118 = .ok (.iload 6, 2) := by decide +kernel
theorem d_5_sweepOnce_120 : decode prog_7_method_8_code 120 = .ok (.isub, 1) := by decide +kernel
theorem d_5_sweepOnce_121 : decode prog_7_method_8_code 121 = .ok (.putfield 144, 3) := by decide +kernel
theorem d_5_sweepOnce_124 : decode prog_7_method_8_code 124 = .ok (.aload_n 0, 1) := by decide +kernel
theorem d_5_sweepOnce_125 : decode prog_7_method_8_code 125 = .ok (.getfield 9, 3) := by decide +kernel
theorem d_5_sweepOnce_128 : decode prog_7_method_8_code 128 = .ok (.getfield 15, 3) := by decide +kernel
theorem d_5_sweepOnce_131 : decode prog_7_method_8_code 131 = .ok (.dup, 1) := by decide +kernel
theorem d_5_sweepOnce_132 : decode prog_7_method_8_code 132 = .ok (.getfield 147, 3) := by decide +kernel
theorem d_5_sweepOnce_135 : decode prog_7_method_8_code 135 = .ok (.iload 6, 2) := by decide +kernel
theorem d_5_sweepOnce_137 : decode prog_7_method_8_code 137 = .ok (.iadd, 1) := by decide +kernel
theorem d_5_sweepOnce_138 : decode prog_7_method_8_code 138 = .ok (.putfield 147, 3) := by decide +kernel
theorem d_5_sweepOnce_141 : decode prog_7_method_8_code 141 = .ok (.iload 4, 2) := by decide +kernel
theorem d_5_sweepOnce_143 : decode prog_7_method_8_code 143 = .ok (.iload 5, 2) := by decide +kernel
theorem d_5_sweepOnce_145 : decode prog_7_method_8_code 145 = .ok (.if_icmp .ne 7, 3) := by decide +kernel
theorem d_5_sweepOnce_148 : decode prog_7_method_8_code 148 = .ok (.iconst 1, 1) := by decide +kernel
theorem d_5_sweepOnce_149 : decode prog_7_method_8_code 149 = .ok (.goto 4, 3) := by decide +kernel
theorem d_5_sweepOnce_152 : decode prog_7_method_8_code 152 = .ok (.iconst 0, 1) := by decide +kernel
theorem d_5_sweepOnce_153 : decode prog_7_method_8_code 153 = .ok (.ireturn, 1) := by decide +kernel
def m_5_sweepOnce (r0 : Nat) (r1 : Nat) (r2 : Nat) (x3 : Int32) (Q : Int32 → St → Prop) (σ : St) : Prop :=
  m_8_grip (rfR r0) (fun (v_2 : Int32) (σ_1 : St) => m_6_couldGive r2 x3 v_2 (fun (v_4 : Int32) (σ_3 : St) => m_8_room (rfR r0) (fun (v_6 : Int32) (σ_5 : St) => ∀ x5_7 : Int32, x5_7 = (if v_6 < v_4 then v_6 else v_4) → vp_in x3 40 ∧ vp_in x3 40 ∧ ∀ σ_8 : St, σ_8 = wr σ_5 (r2 + 1) (x3).toNatClampNeg ((σ_5.1 (r2 + 1) (x3).toNatClampNeg) - x5_7) → ∀ σ_9 : St, σ_9 = wr σ_8 (rfR r0) 7 ((σ_8.1 (rfR r0) 7) + x5_7) → ∀ σ_10 : St, σ_10 = wr σ_9 r1 3 ((σ_9.1 r1 3) + x5_7) → ∀ σ_11 : St, σ_11 = wr σ_10 ((rfR r0) + 5) 3 ((σ_10.1 ((rfR r0) + 5) 3) + x5_7) → vp_in (0 : Int32) 6 ∧ ∀ x6_12 : Int32, x6_12 = (if ((1 : Int32) + ((x5_7 * (σ_11.1 ((rfR r0) + 3) ((0 : Int32)).toNatClampNeg)) / (20 : Int32))) < (σ_11.1 (rfR r0) 6) then ((1 : Int32) + ((x5_7 * (σ_11.1 ((rfR r0) + 3) ((0 : Int32)).toNatClampNeg)) / (20 : Int32))) else (σ_11.1 (rfR r0) 6)) → ∀ σ_13 : St, σ_13 = wr σ_11 (rfR r0) 6 ((σ_11.1 (rfR r0) 6) - x6_12) → ∀ σ_14 : St, σ_14 = wr σ_13 ((rfR r0) + 5) 4 ((σ_13.1 ((rfR r0) + 5) 4) + x6_12) → ((¬ v_4 = x5_7 → Q (0 : Int32) σ_14) ∧ (v_4 = x5_7 → Q (1 : Int32) σ_14))) σ_3) σ_1) σ
section MB
variable {p : Program} {l : Launch} {e : Env} {R : Room} {s : State} {m : MethodId} {args : Array Value} {below : List Frame} {meth : Method} {c : Code} {cells slots : Nat} {QW : State → Prop}
variable {D : va_G} {ac : Nat → ClassId} {ad : Nat → Nat} {st : SS} {A : Nat → Prop}
set_option maxHeartbeats 4000000 in
set_option maxRecDepth 100000 in
theorem w_6_dirtOfSide_4 {r0 : Nat} {x1 : Int32} {Q : Int32 → St → Prop} {B4 : Int32 → Int32 → St → Prop} {x2 : Int32} {x3 : Int32} {σ : St} {H : Heap} {locs : List Loc} {ls : Array Slot} (S : SC A D ac st p m c prog_8_method_4_code 4 s args "SweeperRounds$Street" R cells slots 1 21) (hR : RtI A D ac ad p l e R s m args below meth c prog_8_method_4_code cells slots QW Q) (hk_r0 : kd r0 = 6) (hB4 : ∀ (x2 : Int32) (x3 : Int32) (σ : St) (H : Heap) (locs : List Loc) (ls : Array Slot), DG A D ac ad s σ H locs → lv_has ls 4 [(0, .ref (ad r0)), (1, .int x1), (2, .int x2), (3, .int x3)] → B4 x2 x3 σ → W p l e R s m args below meth c H locs cells slots QW (F0 m 4 ls [])) (hG : DG A D ac ad s σ H locs) (hl : lv_has ls 4 [(0, .ref (ad r0)), (1, .int x1), (2, .int x2), (3, .int x3)]) (hf : m_6_dirtOfSide_4 r0 x1 Q B4 x2 x3 σ) : W p l e R s m args below meth c H locs cells slots QW (F0 m 4 ls []) := by
  have hx := S.1.1
  have hb := S.1.2.1
  unfold m_6_dirtOfSide_4 at hf
  refine lv_iload_n hx hb d_6_dirtOfSide_4 rfl (lv_at hl 3 rfl) ?_
  refine lv_aload_n hx hb d_6_dirtOfSide_5 rfl (lv_at hl 0 rfl) ?_
  refine gf_6_19 S hG hk_r0 d_6_dirtOfSide_6 ?_
  refine lv_icmp_ge (tgt := 31) hx hb d_6_dirtOfSide_9 (by decide) (fun hc => ?_) (fun hc => ?_)
  · have hf := hf.1 hc
    refine lv_iload_n hx hb d_6_dirtOfSide_31 rfl (lv_at hl 2 rfl) ?_
    exact hR _ _ _ _ _ _ hG hf d_6_dirtOfSide_32
  · have hf := hf.2 hc
    refine lv_iload_n hx hb d_6_dirtOfSide_12 rfl (lv_at hl 2 rfl) ?_
    refine lv_aload_n hx hb d_6_dirtOfSide_13 rfl (lv_at hl 0 rfl) ?_
    refine gf_6_9 S hG hk_r0 d_6_dirtOfSide_14 ?_
    refine lv_iload_n hx hb d_6_dirtOfSide_17 rfl (lv_at hl 1 rfl) ?_
    refine lv_iload_n hx hb d_6_dirtOfSide_18 rfl (lv_at hl 3 rfl) ?_
    refine iv_6_29 S hl.1 hG  (c_9_placeOf l  hf) ⟨Nat.le_of_ble_eq_true rfl, Nat.le_of_ble_eq_true rfl⟩ (Nat.le_of_ble_eq_true rfl) d_6_dirtOfSide_19 (fun v_2 σ_1 hf H locs hG => ?_)
    refine mia S hG 20 rfl rfl (kr_6_3 hk_r0) hf.1 d_6_dirtOfSide_22 ?_
    have hf := hf.2
    refine lv_iadd hx hb d_6_dirtOfSide_23 ?_
    refine lv_topi (fun x2_3 ex2_3 => ?_)
    have hf := hf x2_3 ex2_3
    refine lv_istore_n (lv' := [(2, .int x2_3), (0, .ref (ad r0)), (1, .int x1), (3, .int x3)]) hx hb d_6_dirtOfSide_24 rfl hl (by decide) rfl (fun ls hl => ?_)
    obtain ⟨x3_4, ex3_4⟩ : ∃ y : Int32, y = x3 + 1 := ⟨_, rfl⟩
    have hf := hf x3_4 ex3_4
    refine lv_iinc (v := x3_4) (lv' := [(3, .int x3_4), (2, .int x2_3), (0, .ref (ad r0)), (1, .int x1)]) hx hb d_6_dirtOfSide_25 hl (k := 3) rfl (by rw [ex3_4]; rfl) (by decide) rfl (fun ls hl => ?_)
    refine lv_goto (tgt := 4) hx hb d_6_dirtOfSide_28 (by decide) ?_
    exact hB4 _ _ _ _ _ _   hG (lv_sub hl [2, 3, 1, 0] rfl) hf
set_option maxHeartbeats 4000000 in
set_option maxRecDepth 100000 in
theorem lp_6_dirtOfSide_4 {r0 : Nat} {x1 : Int32} {Q : Int32 → St → Prop} (S : SC A D ac st p m c prog_8_method_4_code 4 s args "SweeperRounds$Street" R cells slots 1 21) (hR : RtI A D ac ad p l e R s m args below meth c prog_8_method_4_code cells slots QW Q) (hk_r0 : kd r0 = 6) : ∀ (n : Nat) (x2 : Int32) (x3 : Int32) (σ : St) (H : Heap) (locs : List Loc) (ls : Array Slot), DG A D ac ad s σ H locs → lv_has ls 4 [(0, .ref (ad r0)), (1, .int x1), (2, .int x2), (3, .int x3)] → itN (m_6_dirtOfSide_4 r0 x1 Q) (fun _ _ _ => False) n x2 x3 σ → W p l e R s m args below meth c H locs cells slots QW (F0 m 4 ls []) := by
  intro n
  induction n with
  | zero =>
    intro x2 x3 σ H locs ls  hG hl hf
    exact hf.elim
  | succ n ih =>
    intro x2 x3 σ H locs ls  hG hl hf
    exact w_6_dirtOfSide_4 S hR hk_r0  ih hG hl hf
set_option maxHeartbeats 4000000 in
set_option maxRecDepth 100000 in
theorem w_6_dirtOfSide_0 {r0 : Nat} {x1 : Int32} {Q : Int32 → St → Prop} {σ : St} {H : Heap} {locs : List Loc} {ls : Array Slot} (S : SC A D ac st p m c prog_8_method_4_code 4 s args "SweeperRounds$Street" R cells slots 1 21) (hR : RtI A D ac ad p l e R s m args below meth c prog_8_method_4_code cells slots QW Q) (hk_r0 : kd r0 = 6) (hG : DG A D ac ad s σ H locs) (hl : lv_has ls 4 [(0, .ref (ad r0)), (1, .int x1)]) (hf : m_6_dirtOfSide r0 x1 Q σ) : W p l e R s m args below meth c H locs cells slots QW (F0 m 0 ls []) := by
  have hx := S.1.1
  have hb := S.1.2.1
  unfold m_6_dirtOfSide at hf
  refine lv_iconst (v := (0 : Int32)) hx hb d_6_dirtOfSide_0 (by decide) ?_
  refine lv_istore_n (lv' := [(2, .int (0 : Int32)), (0, .ref (ad r0)), (1, .int x1)]) hx hb d_6_dirtOfSide_1 rfl hl (by decide) rfl (fun ls hl => ?_)
  refine lv_iconst (v := (0 : Int32)) hx hb d_6_dirtOfSide_2 (by decide) ?_
  refine lv_istore_n (lv' := [(3, .int (0 : Int32)), (2, .int (0 : Int32)), (0, .ref (ad r0)), (1, .int x1)]) hx hb d_6_dirtOfSide_3 rfl hl (by decide) rfl (fun ls hl => ?_)
  exact lp_6_dirtOfSide_4 S hR hk_r0  FU _ _ _ _ _ _  hG (lv_sub hl [2, 3, 1, 0] rfl) hf
theorem c_6_dirtOfSide (l : Launch) {D : va_G} {ac : Nat → ClassId} {ad : Nat → Nat} {st : SS} {A : Nat → Prop} {σ : St} {r0 : Nat} {x1 : Int32} {Q : Int32 → St → Prop} (hk_r0 : kd r0 = 6) (hf : m_6_dirtOfSide r0 x1 Q σ) : Met l y_6_dirtOfSide (Cond.code y_6_dirtOfSide prog_8_method_4_code 4 (some .int) :: wA) { frames := 1, cells := 0, slots := 0, locals := 21 } (va_Pc [.ref (ad r0), .int x1] (GSt A D ac ad st σ)) (va_Qi Q (GSt A D ac ad st) A) 0 0 A :=
  mkI l (by decide +kernel) rfl [.ref (ad r0), .int x1] (Nat.le_of_ble_eq_true rfl) (fun p e s m args below meth c ls QW S hR hG hl => w_6_dirtOfSide_0 S hR hk_r0 hG hl hf)
set_option maxHeartbeats 4000000 in
set_option maxRecDepth 100000 in
theorem w_6_parkedCells_31 {r0 : Nat} {x2 : Int32} {B4 : Int32 → Int32 → St → Prop} {Q : Int32 → St → Prop} {t0 : Int32} {t1 : Int32} {σ : St} {H : Heap} {locs : List Loc} {ls : Array Slot} (S : SC A D ac st p m c prog_8_method_6_code 3 s args "SweeperRounds$Street" R cells slots 1 21) (hR : RtI A D ac ad p l e R s m args below meth c prog_8_method_6_code cells slots QW Q) (hk_r0 : kd r0 = 6) (hB4 : ∀ (x1 : Int32) (x2 : Int32) (σ : St) (H : Heap) (locs : List Loc) (ls : Array Slot), DG A D ac ad s σ H locs → lv_has ls 3 [(0, .ref (ad r0)), (1, .int x1), (2, .int x2)] → B4 x1 x2 σ → W p l e R s m args below meth c H locs cells slots QW (F0 m 4 ls [])) (hG : DG A D ac ad s σ H locs) (hl : lv_has ls 3 [(0, .ref (ad r0)), (2, .int x2)]) (hf : m_6_parkedCells_31 r0 x2 B4 Q t0 t1 σ) : W p l e R s m args below meth c H locs cells slots QW (F0 m 31 ls [.int t0, .int t1]) := by
  have hx := S.1.1
  have hb := S.1.2.1
  unfold m_6_parkedCells_31 at hf
  refine lv_iadd hx hb d_6_parkedCells_31 ?_
  refine lv_topi (fun x1_1 ex1_1 => ?_)
  have hf := hf x1_1 ex1_1
  refine lv_istore_n (lv' := [(1, .int x1_1), (0, .ref (ad r0)), (2, .int x2)]) hx hb d_6_parkedCells_32 rfl hl (by decide) rfl (fun ls hl => ?_)
  refine lv_iload_n hx hb d_6_parkedCells_33 rfl (lv_at hl 0 rfl) ?_
  refine lv_aload_n hx hb d_6_parkedCells_34 rfl (lv_at hl 1 rfl) ?_
  refine gf_6_15 S hG hk_r0 d_6_parkedCells_35 ?_
  refine lv_iconst (v := (1 : Int32)) hx hb d_6_parkedCells_38 (by decide) ?_
  refine lv_iload_n hx hb d_6_parkedCells_39 rfl (lv_at hl 2 rfl) ?_
  refine iv_6_29 S hl.1 hG  (c_9_placeOf l  hf) ⟨Nat.le_of_ble_eq_true rfl, Nat.le_of_ble_eq_true rfl⟩ (Nat.le_of_ble_eq_true rfl) d_6_parkedCells_40 (fun v_3 σ_2 hf H locs hG => ?_)
  refine mza S hG (kr_6_4 hk_r0) hf.1 d_6_parkedCells_43 ?_
  have hf := hf.2
  refine lv_if_eq (tgt := 51) hx hb d_6_parkedCells_44 (by decide) (fun hc => ?_) (fun hc => ?_)
  · have hf := hf.1 hc
    refine lv_iconst (v := (0 : Int32)) hx hb d_6_parkedCells_51 (by decide) ?_
    refine lv_iadd hx hb d_6_parkedCells_52 ?_
    refine lv_topi (fun x1_4 ex1_4 => ?_)
    have hf := hf x1_4 ex1_4
    refine lv_istore_n (lv' := [(1, .int x1_4), (0, .ref (ad r0)), (2, .int x2)]) hx hb d_6_parkedCells_53 rfl hl (by decide) rfl (fun ls hl => ?_)
    obtain ⟨x2_5, ex2_5⟩ : ∃ y : Int32, y = x2 + 1 := ⟨_, rfl⟩
    have hf := hf x2_5 ex2_5
    refine lv_iinc (v := x2_5) (lv' := [(2, .int x2_5), (1, .int x1_4), (0, .ref (ad r0))]) hx hb d_6_parkedCells_54 hl (k := 2) rfl (by rw [ex2_5]; rfl) (by decide) rfl (fun ls hl => ?_)
    refine lv_goto (tgt := 4) hx hb d_6_parkedCells_57 (by decide) ?_
    exact hB4 _ _ _ _ _ _   hG (lv_sub hl [2, 1, 0] rfl) hf
  · have hf := hf.2 hc
    refine lv_iconst (v := (1 : Int32)) hx hb d_6_parkedCells_47 (by decide) ?_
    refine lv_goto (tgt := 52) hx hb d_6_parkedCells_48 (by decide) ?_
    refine lv_iadd hx hb d_6_parkedCells_52 ?_
    refine lv_topi (fun x1_6 ex1_6 => ?_)
    have hf := hf x1_6 ex1_6
    refine lv_istore_n (lv' := [(1, .int x1_6), (0, .ref (ad r0)), (2, .int x2)]) hx hb d_6_parkedCells_53 rfl hl (by decide) rfl (fun ls hl => ?_)
    obtain ⟨x2_7, ex2_7⟩ : ∃ y : Int32, y = x2 + 1 := ⟨_, rfl⟩
    have hf := hf x2_7 ex2_7
    refine lv_iinc (v := x2_7) (lv' := [(2, .int x2_7), (1, .int x1_6), (0, .ref (ad r0))]) hx hb d_6_parkedCells_54 hl (k := 2) rfl (by rw [ex2_7]; rfl) (by decide) rfl (fun ls hl => ?_)
    refine lv_goto (tgt := 4) hx hb d_6_parkedCells_57 (by decide) ?_
    exact hB4 _ _ _ _ _ _   hG (lv_sub hl [2, 1, 0] rfl) hf
set_option maxHeartbeats 4000000 in
set_option maxRecDepth 100000 in
theorem w_6_parkedCells_4 {r0 : Nat} {Q : Int32 → St → Prop} {B4 : Int32 → Int32 → St → Prop} {x1 : Int32} {x2 : Int32} {σ : St} {H : Heap} {locs : List Loc} {ls : Array Slot} (S : SC A D ac st p m c prog_8_method_6_code 3 s args "SweeperRounds$Street" R cells slots 1 21) (hR : RtI A D ac ad p l e R s m args below meth c prog_8_method_6_code cells slots QW Q) (hk_r0 : kd r0 = 6) (hB4 : ∀ (x1 : Int32) (x2 : Int32) (σ : St) (H : Heap) (locs : List Loc) (ls : Array Slot), DG A D ac ad s σ H locs → lv_has ls 3 [(0, .ref (ad r0)), (1, .int x1), (2, .int x2)] → B4 x1 x2 σ → W p l e R s m args below meth c H locs cells slots QW (F0 m 4 ls [])) (hG : DG A D ac ad s σ H locs) (hl : lv_has ls 3 [(0, .ref (ad r0)), (1, .int x1), (2, .int x2)]) (hf : m_6_parkedCells_4 r0 Q B4 x1 x2 σ) : W p l e R s m args below meth c H locs cells slots QW (F0 m 4 ls []) := by
  have hx := S.1.1
  have hb := S.1.2.1
  unfold m_6_parkedCells_4 at hf
  refine lv_iload_n hx hb d_6_parkedCells_4 rfl (lv_at hl 2 rfl) ?_
  refine lv_aload_n hx hb d_6_parkedCells_5 rfl (lv_at hl 0 rfl) ?_
  refine gf_6_19 S hG hk_r0 d_6_parkedCells_6 ?_
  refine lv_icmp_ge (tgt := 60) hx hb d_6_parkedCells_9 (by decide) (fun hc => ?_) (fun hc => ?_)
  · have hf := hf.1 hc
    refine lv_iload_n hx hb d_6_parkedCells_60 rfl (lv_at hl 1 rfl) ?_
    exact hR _ _ _ _ _ _ hG hf d_6_parkedCells_61
  · have hf := hf.2 hc
    refine lv_iload_n hx hb d_6_parkedCells_12 rfl (lv_at hl 1 rfl) ?_
    refine lv_aload_n hx hb d_6_parkedCells_13 rfl (lv_at hl 0 rfl) ?_
    refine gf_6_15 S hG hk_r0 d_6_parkedCells_14 ?_
    refine lv_iconst (v := (0 : Int32)) hx hb d_6_parkedCells_17 (by decide) ?_
    refine lv_iload_n hx hb d_6_parkedCells_18 rfl (lv_at hl 2 rfl) ?_
    refine iv_6_29 S hl.1 hG  (c_9_placeOf l  hf) ⟨Nat.le_of_ble_eq_true rfl, Nat.le_of_ble_eq_true rfl⟩ (Nat.le_of_ble_eq_true rfl) d_6_parkedCells_19 (fun v_2 σ_1 hf H locs hG => ?_)
    refine mza S hG (kr_6_4 hk_r0) hf.1 d_6_parkedCells_22 ?_
    have hf := hf.2
    refine lv_if_eq (tgt := 30) hx hb d_6_parkedCells_23 (by decide) (fun hc => ?_) (fun hc => ?_)
    · have hf := hf.1 hc
      refine lv_iconst (v := (0 : Int32)) hx hb d_6_parkedCells_30 (by decide) ?_
      exact w_6_parkedCells_31 S hR hk_r0   hB4 hG (lv_sub hl [0, 2] rfl) hf
    · have hf := hf.2 hc
      refine lv_iconst (v := (1 : Int32)) hx hb d_6_parkedCells_26 (by decide) ?_
      refine lv_goto (tgt := 31) hx hb d_6_parkedCells_27 (by decide) ?_
      exact w_6_parkedCells_31 S hR hk_r0   hB4 hG (lv_sub hl [0, 2] rfl) hf
set_option maxHeartbeats 4000000 in
set_option maxRecDepth 100000 in
theorem lp_6_parkedCells_4 {r0 : Nat} {Q : Int32 → St → Prop} (S : SC A D ac st p m c prog_8_method_6_code 3 s args "SweeperRounds$Street" R cells slots 1 21) (hR : RtI A D ac ad p l e R s m args below meth c prog_8_method_6_code cells slots QW Q) (hk_r0 : kd r0 = 6) : ∀ (n : Nat) (x1 : Int32) (x2 : Int32) (σ : St) (H : Heap) (locs : List Loc) (ls : Array Slot), DG A D ac ad s σ H locs → lv_has ls 3 [(0, .ref (ad r0)), (1, .int x1), (2, .int x2)] → itN (m_6_parkedCells_4 r0 Q) (fun _ _ _ => False) n x1 x2 σ → W p l e R s m args below meth c H locs cells slots QW (F0 m 4 ls []) := by
  intro n
  induction n with
  | zero =>
    intro x1 x2 σ H locs ls  hG hl hf
    exact hf.elim
  | succ n ih =>
    intro x1 x2 σ H locs ls  hG hl hf
    exact w_6_parkedCells_4 S hR hk_r0  ih hG hl hf
set_option maxHeartbeats 4000000 in
set_option maxRecDepth 100000 in
theorem w_6_parkedCells_0 {r0 : Nat} {Q : Int32 → St → Prop} {σ : St} {H : Heap} {locs : List Loc} {ls : Array Slot} (S : SC A D ac st p m c prog_8_method_6_code 3 s args "SweeperRounds$Street" R cells slots 1 21) (hR : RtI A D ac ad p l e R s m args below meth c prog_8_method_6_code cells slots QW Q) (hk_r0 : kd r0 = 6) (hG : DG A D ac ad s σ H locs) (hl : lv_has ls 3 [(0, .ref (ad r0))]) (hf : m_6_parkedCells r0 Q σ) : W p l e R s m args below meth c H locs cells slots QW (F0 m 0 ls []) := by
  have hx := S.1.1
  have hb := S.1.2.1
  unfold m_6_parkedCells at hf
  refine lv_iconst (v := (0 : Int32)) hx hb d_6_parkedCells_0 (by decide) ?_
  refine lv_istore_n (lv' := [(1, .int (0 : Int32)), (0, .ref (ad r0))]) hx hb d_6_parkedCells_1 rfl hl (by decide) rfl (fun ls hl => ?_)
  refine lv_iconst (v := (0 : Int32)) hx hb d_6_parkedCells_2 (by decide) ?_
  refine lv_istore_n (lv' := [(2, .int (0 : Int32)), (1, .int (0 : Int32)), (0, .ref (ad r0))]) hx hb d_6_parkedCells_3 rfl hl (by decide) rfl (fun ls hl => ?_)
  exact lp_6_parkedCells_4 S hR hk_r0  FU _ _ _ _ _ _  hG (lv_sub hl [2, 1, 0] rfl) hf
theorem c_6_parkedCells (l : Launch) {D : va_G} {ac : Nat → ClassId} {ad : Nat → Nat} {st : SS} {A : Nat → Prop} {σ : St} {r0 : Nat} {Q : Int32 → St → Prop} (hk_r0 : kd r0 = 6) (hf : m_6_parkedCells r0 Q σ) : Met l y_6_parkedCells (Cond.code y_6_parkedCells prog_8_method_6_code 3 (some .int) :: wA) { frames := 1, cells := 0, slots := 0, locals := 21 } (va_Pc [.ref (ad r0)] (GSt A D ac ad st σ)) (va_Qi Q (GSt A D ac ad st) A) 0 0 A :=
  mkI l (by decide +kernel) rfl [.ref (ad r0)] (Nat.le_of_ble_eq_true rfl) (fun p e s m args below meth c ls QW S hR hG hl => w_6_parkedCells_0 S hR hk_r0 hG hl hf)
set_option maxHeartbeats 4000000 in
set_option maxRecDepth 100000 in
theorem w_6_greatestDirt_4 {r0 : Nat} {Q : Int32 → St → Prop} {B4 : Int32 → Int32 → St → Prop} {x1 : Int32} {x2 : Int32} {σ : St} {H : Heap} {locs : List Loc} {ls : Array Slot} (S : SC A D ac st p m c prog_8_method_7_code 3 s args "SweeperRounds$Street" R cells slots 1 21) (hR : RtI A D ac ad p l e R s m args below meth c prog_8_method_7_code cells slots QW Q) (hk_r0 : kd r0 = 6) (hB4 : ∀ (x1 : Int32) (x2 : Int32) (σ : St) (H : Heap) (locs : List Loc) (ls : Array Slot), DG A D ac ad s σ H locs → lv_has ls 3 [(0, .ref (ad r0)), (1, .int x1), (2, .int x2)] → B4 x1 x2 σ → W p l e R s m args below meth c H locs cells slots QW (F0 m 4 ls [])) (hG : DG A D ac ad s σ H locs) (hl : lv_has ls 3 [(0, .ref (ad r0)), (1, .int x1), (2, .int x2)]) (hf : m_6_greatestDirt_4 r0 Q B4 x1 x2 σ) : W p l e R s m args below meth c H locs cells slots QW (F0 m 4 ls []) := by
  have hx := S.1.1
  have hb := S.1.2.1
  unfold m_6_greatestDirt_4 at hf
  refine lv_iload_n hx hb d_6_greatestDirt_4 rfl (lv_at hl 2 rfl) ?_
  refine lv_aload_n hx hb d_6_greatestDirt_5 rfl (lv_at hl 0 rfl) ?_
  refine gf_6_19 S hG hk_r0 d_6_greatestDirt_6 ?_
  refine lv_icmp_ge (tgt := 48) hx hb d_6_greatestDirt_9 (by decide) (fun hc => ?_) (fun hc => ?_)
  · have hf := hf.1 hc
    refine lv_iload_n hx hb d_6_greatestDirt_48 rfl (lv_at hl 1 rfl) ?_
    exact hR _ _ _ _ _ _ hG hf d_6_greatestDirt_49
  · have hf := hf.2 hc
    refine lv_iload_n hx hb d_6_greatestDirt_12 rfl (lv_at hl 1 rfl) ?_
    refine lv_aload_n hx hb d_6_greatestDirt_13 rfl (lv_at hl 0 rfl) ?_
    refine gf_6_9 S hG hk_r0 d_6_greatestDirt_14 ?_
    refine lv_iconst (v := (0 : Int32)) hx hb d_6_greatestDirt_17 (by decide) ?_
    refine lv_iload_n hx hb d_6_greatestDirt_18 rfl (lv_at hl 2 rfl) ?_
    refine iv_6_29 S hl.1 hG  (c_9_placeOf l  hf) ⟨Nat.le_of_ble_eq_true rfl, Nat.le_of_ble_eq_true rfl⟩ (Nat.le_of_ble_eq_true rfl) d_6_greatestDirt_19 (fun v_2 σ_1 hf H locs hG => ?_)
    refine mia S hG 20 rfl rfl (kr_6_3 hk_r0) hf.1 d_6_greatestDirt_22 ?_
    have hf := hf.2
    refine mmx S hl.1 wm_396 wm_355 wm_20 wm_356 (by decide) (Nat.le_of_ble_eq_true rfl) d_6_greatestDirt_23 ?_
    refine lv_topi (fun x1_3 ex1_3 => ?_)
    have hf := hf x1_3 ex1_3
    refine lv_istore_n (lv' := [(1, .int x1_3), (0, .ref (ad r0)), (2, .int x2)]) hx hb d_6_greatestDirt_26 rfl hl (by decide) rfl (fun ls hl => ?_)
    refine lv_iload_n hx hb d_6_greatestDirt_27 rfl (lv_at hl 0 rfl) ?_
    refine lv_aload_n hx hb d_6_greatestDirt_28 rfl (lv_at hl 1 rfl) ?_
    refine gf_6_9 S hG hk_r0 d_6_greatestDirt_29 ?_
    refine lv_iconst (v := (1 : Int32)) hx hb d_6_greatestDirt_32 (by decide) ?_
    refine lv_iload_n hx hb d_6_greatestDirt_33 rfl (lv_at hl 2 rfl) ?_
    refine iv_6_29 S hl.1 hG  (c_9_placeOf l  hf) ⟨Nat.le_of_ble_eq_true rfl, Nat.le_of_ble_eq_true rfl⟩ (Nat.le_of_ble_eq_true rfl) d_6_greatestDirt_34 (fun v_5 σ_4 hf H locs hG => ?_)
    refine mia S hG 20 rfl rfl (kr_6_3 hk_r0) hf.1 d_6_greatestDirt_37 ?_
    have hf := hf.2
    refine mmx S hl.1 wm_396 wm_355 wm_20 wm_356 (by decide) (Nat.le_of_ble_eq_true rfl) d_6_greatestDirt_38 ?_
    refine lv_topi (fun x1_6 ex1_6 => ?_)
    have hf := hf x1_6 ex1_6
    refine lv_istore_n (lv' := [(1, .int x1_6), (0, .ref (ad r0)), (2, .int x2)]) hx hb d_6_greatestDirt_41 rfl hl (by decide) rfl (fun ls hl => ?_)
    obtain ⟨x2_7, ex2_7⟩ : ∃ y : Int32, y = x2 + 1 := ⟨_, rfl⟩
    have hf := hf x2_7 ex2_7
    refine lv_iinc (v := x2_7) (lv' := [(2, .int x2_7), (1, .int x1_6), (0, .ref (ad r0))]) hx hb d_6_greatestDirt_42 hl (k := 2) rfl (by rw [ex2_7]; rfl) (by decide) rfl (fun ls hl => ?_)
    refine lv_goto (tgt := 4) hx hb d_6_greatestDirt_45 (by decide) ?_
    exact hB4 _ _ _ _ _ _   hG (lv_sub hl [2, 1, 0] rfl) hf
set_option maxHeartbeats 4000000 in
set_option maxRecDepth 100000 in
theorem lp_6_greatestDirt_4 {r0 : Nat} {Q : Int32 → St → Prop} (S : SC A D ac st p m c prog_8_method_7_code 3 s args "SweeperRounds$Street" R cells slots 1 21) (hR : RtI A D ac ad p l e R s m args below meth c prog_8_method_7_code cells slots QW Q) (hk_r0 : kd r0 = 6) : ∀ (n : Nat) (x1 : Int32) (x2 : Int32) (σ : St) (H : Heap) (locs : List Loc) (ls : Array Slot), DG A D ac ad s σ H locs → lv_has ls 3 [(0, .ref (ad r0)), (1, .int x1), (2, .int x2)] → itN (m_6_greatestDirt_4 r0 Q) (fun _ _ _ => False) n x1 x2 σ → W p l e R s m args below meth c H locs cells slots QW (F0 m 4 ls []) := by
  intro n
  induction n with
  | zero =>
    intro x1 x2 σ H locs ls  hG hl hf
    exact hf.elim
  | succ n ih =>
    intro x1 x2 σ H locs ls  hG hl hf
    exact w_6_greatestDirt_4 S hR hk_r0  ih hG hl hf
set_option maxHeartbeats 4000000 in
set_option maxRecDepth 100000 in
theorem w_6_greatestDirt_0 {r0 : Nat} {Q : Int32 → St → Prop} {σ : St} {H : Heap} {locs : List Loc} {ls : Array Slot} (S : SC A D ac st p m c prog_8_method_7_code 3 s args "SweeperRounds$Street" R cells slots 1 21) (hR : RtI A D ac ad p l e R s m args below meth c prog_8_method_7_code cells slots QW Q) (hk_r0 : kd r0 = 6) (hG : DG A D ac ad s σ H locs) (hl : lv_has ls 3 [(0, .ref (ad r0))]) (hf : m_6_greatestDirt r0 Q σ) : W p l e R s m args below meth c H locs cells slots QW (F0 m 0 ls []) := by
  have hx := S.1.1
  have hb := S.1.2.1
  unfold m_6_greatestDirt at hf
  refine lv_iconst (v := (0 : Int32)) hx hb d_6_greatestDirt_0 (by decide) ?_
  refine lv_istore_n (lv' := [(1, .int (0 : Int32)), (0, .ref (ad r0))]) hx hb d_6_greatestDirt_1 rfl hl (by decide) rfl (fun ls hl => ?_)
  refine lv_iconst (v := (0 : Int32)) hx hb d_6_greatestDirt_2 (by decide) ?_
  refine lv_istore_n (lv' := [(2, .int (0 : Int32)), (1, .int (0 : Int32)), (0, .ref (ad r0))]) hx hb d_6_greatestDirt_3 rfl hl (by decide) rfl (fun ls hl => ?_)
  exact lp_6_greatestDirt_4 S hR hk_r0  FU _ _ _ _ _ _  hG (lv_sub hl [2, 1, 0] rfl) hf
theorem c_6_greatestDirt (l : Launch) {D : va_G} {ac : Nat → ClassId} {ad : Nat → Nat} {st : SS} {A : Nat → Prop} {σ : St} {r0 : Nat} {Q : Int32 → St → Prop} (hk_r0 : kd r0 = 6) (hf : m_6_greatestDirt r0 Q σ) : Met l y_6_greatestDirt (Cond.code y_6_greatestDirt prog_8_method_7_code 3 (some .int) :: wA) { frames := 1, cells := 0, slots := 0, locals := 21 } (va_Pc [.ref (ad r0)] (GSt A D ac ad st σ)) (va_Qi Q (GSt A D ac ad st) A) 0 0 A :=
  mkI l (by decide +kernel) rfl [.ref (ad r0)] (Nat.le_of_ble_eq_true rfl) (fun p e s m args below meth c ls QW S hR hG hl => w_6_greatestDirt_0 S hR hk_r0 hG hl hf)
set_option maxHeartbeats 4000000 in
set_option maxRecDepth 100000 in
theorem w_8_legsIn_4 {r0 : Nat} {x1 : Int32} {Q : Int32 → St → Prop} {B4 : Int32 → Int32 → St → Prop} {x2 : Int32} {x3 : Int32} {σ : St} {H : Heap} {locs : List Loc} {ls : Array Slot} (S : SC A D ac st p m c prog_10_method_7_code 4 s args "SweeperRounds$World" R cells slots 0 0) (hR : RtI A D ac ad p l e R s m args below meth c prog_10_method_7_code cells slots QW Q) (hk_r0 : kd r0 = 8) (hB4 : ∀ (x2 : Int32) (x3 : Int32) (σ : St) (H : Heap) (locs : List Loc) (ls : Array Slot), DG A D ac ad s σ H locs → lv_has ls 4 [(0, .ref (ad r0)), (1, .int x1), (2, .int x2), (3, .int x3)] → B4 x2 x3 σ → W p l e R s m args below meth c H locs cells slots QW (F0 m 4 ls [])) (hG : DG A D ac ad s σ H locs) (hl : lv_has ls 4 [(0, .ref (ad r0)), (1, .int x1), (2, .int x2), (3, .int x3)]) (hf : m_8_legsIn_4 r0 x1 Q B4 x2 x3 σ) : W p l e R s m args below meth c H locs cells slots QW (F0 m 4 ls []) := by
  have hx := S.1.1
  have hb := S.1.2.1
  unfold m_8_legsIn_4 at hf
  refine lv_iload_n hx hb d_8_legsIn_4 rfl (lv_at hl 3 rfl) ?_
  refine lv_aload_n hx hb d_8_legsIn_5 rfl (lv_at hl 0 rfl) ?_
  refine gf_8_59 S hG hk_r0 d_8_legsIn_6 ?_
  refine lv_icmp_ge (tgt := 39) hx hb d_8_legsIn_9 (by decide) (fun hc => ?_) (fun hc => ?_)
  · have hf := hf.1 hc
    refine lv_iload_n hx hb d_8_legsIn_39 rfl (lv_at hl 2 rfl) ?_
    exact hR _ _ _ _ _ _ hG hf d_8_legsIn_40
  · have hf := hf.2 hc
    refine lv_iload_n hx hb d_8_legsIn_12 rfl (lv_at hl 2 rfl) ?_
    refine lv_aload_n hx hb d_8_legsIn_13 rfl (lv_at hl 0 rfl) ?_
    refine gf_8_19 S hG hk_r0 d_8_legsIn_14 ?_
    refine lv_iload_n hx hb d_8_legsIn_17 rfl (lv_at hl 3 rfl) ?_
    refine mq4 S hG (kr_8_2 hk_r0) hf.1 d_8_legsIn_18 ?_
    have hi_1 := vin_lt hf.1
    have hf := hf.2
    refine gf_8_92 S hG (ke_24 (kr_8_2 hk_r0) hi_1) d_8_legsIn_19 ?_
    refine lv_iload_n hx hb d_8_legsIn_22 rfl (lv_at hl 1 rfl) ?_
    refine lv_icmp_ne (tgt := 30) hx hb d_8_legsIn_23 (by decide) (fun hc => ?_) (fun hc => ?_)
    · have hf := hf.1 hc
      refine lv_iconst (v := (0 : Int32)) hx hb d_8_legsIn_30 (by decide) ?_
      refine lv_iadd hx hb d_8_legsIn_31 ?_
      refine lv_topi (fun x2_2 ex2_2 => ?_)
      have hf := hf x2_2 ex2_2
      refine lv_istore_n (lv' := [(2, .int x2_2), (0, .ref (ad r0)), (1, .int x1), (3, .int x3)]) hx hb d_8_legsIn_32 rfl hl (by decide) rfl (fun ls hl => ?_)
      obtain ⟨x3_3, ex3_3⟩ : ∃ y : Int32, y = x3 + 1 := ⟨_, rfl⟩
      have hf := hf x3_3 ex3_3
      refine lv_iinc (v := x3_3) (lv' := [(3, .int x3_3), (2, .int x2_2), (0, .ref (ad r0)), (1, .int x1)]) hx hb d_8_legsIn_33 hl (k := 3) rfl (by rw [ex3_3]; rfl) (by decide) rfl (fun ls hl => ?_)
      refine lv_goto (tgt := 4) hx hb d_8_legsIn_36 (by decide) ?_
      exact hB4 _ _ _ _ _ _   hG (lv_sub hl [2, 3, 1, 0] rfl) hf
    · have hf := hf.2 hc
      refine lv_iconst (v := (1 : Int32)) hx hb d_8_legsIn_26 (by decide) ?_
      refine lv_goto (tgt := 31) hx hb d_8_legsIn_27 (by decide) ?_
      refine lv_iadd hx hb d_8_legsIn_31 ?_
      refine lv_topi (fun x2_4 ex2_4 => ?_)
      have hf := hf x2_4 ex2_4
      refine lv_istore_n (lv' := [(2, .int x2_4), (0, .ref (ad r0)), (1, .int x1), (3, .int x3)]) hx hb d_8_legsIn_32 rfl hl (by decide) rfl (fun ls hl => ?_)
      obtain ⟨x3_5, ex3_5⟩ : ∃ y : Int32, y = x3 + 1 := ⟨_, rfl⟩
      have hf := hf x3_5 ex3_5
      refine lv_iinc (v := x3_5) (lv' := [(3, .int x3_5), (2, .int x2_4), (0, .ref (ad r0)), (1, .int x1)]) hx hb d_8_legsIn_33 hl (k := 3) rfl (by rw [ex3_5]; rfl) (by decide) rfl (fun ls hl => ?_)
      refine lv_goto (tgt := 4) hx hb d_8_legsIn_36 (by decide) ?_
      exact hB4 _ _ _ _ _ _   hG (lv_sub hl [2, 3, 1, 0] rfl) hf
set_option maxHeartbeats 4000000 in
set_option maxRecDepth 100000 in
theorem lp_8_legsIn_4 {r0 : Nat} {x1 : Int32} {Q : Int32 → St → Prop} (S : SC A D ac st p m c prog_10_method_7_code 4 s args "SweeperRounds$World" R cells slots 0 0) (hR : RtI A D ac ad p l e R s m args below meth c prog_10_method_7_code cells slots QW Q) (hk_r0 : kd r0 = 8) : ∀ (n : Nat) (x2 : Int32) (x3 : Int32) (σ : St) (H : Heap) (locs : List Loc) (ls : Array Slot), DG A D ac ad s σ H locs → lv_has ls 4 [(0, .ref (ad r0)), (1, .int x1), (2, .int x2), (3, .int x3)] → itN (m_8_legsIn_4 r0 x1 Q) (fun _ _ _ => False) n x2 x3 σ → W p l e R s m args below meth c H locs cells slots QW (F0 m 4 ls []) := by
  intro n
  induction n with
  | zero =>
    intro x2 x3 σ H locs ls  hG hl hf
    exact hf.elim
  | succ n ih =>
    intro x2 x3 σ H locs ls  hG hl hf
    exact w_8_legsIn_4 S hR hk_r0  ih hG hl hf
set_option maxHeartbeats 4000000 in
set_option maxRecDepth 100000 in
theorem w_8_legsIn_0 {r0 : Nat} {x1 : Int32} {Q : Int32 → St → Prop} {σ : St} {H : Heap} {locs : List Loc} {ls : Array Slot} (S : SC A D ac st p m c prog_10_method_7_code 4 s args "SweeperRounds$World" R cells slots 0 0) (hR : RtI A D ac ad p l e R s m args below meth c prog_10_method_7_code cells slots QW Q) (hk_r0 : kd r0 = 8) (hG : DG A D ac ad s σ H locs) (hl : lv_has ls 4 [(0, .ref (ad r0)), (1, .int x1)]) (hf : m_8_legsIn r0 x1 Q σ) : W p l e R s m args below meth c H locs cells slots QW (F0 m 0 ls []) := by
  have hx := S.1.1
  have hb := S.1.2.1
  unfold m_8_legsIn at hf
  refine lv_iconst (v := (0 : Int32)) hx hb d_8_legsIn_0 (by decide) ?_
  refine lv_istore_n (lv' := [(2, .int (0 : Int32)), (0, .ref (ad r0)), (1, .int x1)]) hx hb d_8_legsIn_1 rfl hl (by decide) rfl (fun ls hl => ?_)
  refine lv_iconst (v := (0 : Int32)) hx hb d_8_legsIn_2 (by decide) ?_
  refine lv_istore_n (lv' := [(3, .int (0 : Int32)), (2, .int (0 : Int32)), (0, .ref (ad r0)), (1, .int x1)]) hx hb d_8_legsIn_3 rfl hl (by decide) rfl (fun ls hl => ?_)
  exact lp_8_legsIn_4 S hR hk_r0  FU _ _ _ _ _ _  hG (lv_sub hl [2, 3, 1, 0] rfl) hf
theorem c_8_legsIn (l : Launch) {D : va_G} {ac : Nat → ClassId} {ad : Nat → Nat} {st : SS} {A : Nat → Prop} {σ : St} {r0 : Nat} {x1 : Int32} {Q : Int32 → St → Prop} (hk_r0 : kd r0 = 8) (hf : m_8_legsIn r0 x1 Q σ) : Met l y_8_legsIn (Cond.code y_8_legsIn prog_10_method_7_code 4 (some .int) :: wA) { frames := 0, cells := 0, slots := 0, locals := 0 } (va_Pc [.ref (ad r0), .int x1] (GSt A D ac ad st σ)) (va_Qi Q (GSt A D ac ad st) A) 0 0 A :=
  mkI l (by decide +kernel) rfl [.ref (ad r0), .int x1] (Nat.le_of_ble_eq_true rfl) (fun p e s m args below meth c ls QW S hR hG hl => w_8_legsIn_0 S hR hk_r0 hG hl hf)
set_option maxHeartbeats 4000000 in
set_option maxRecDepth 100000 in
theorem w_9_street_0 {r0 : Nat} {x1 : Int32} {x2 : Int32} {Q : Int32 → St → Prop} {σ : St} {H : Heap} {locs : List Loc} {ls : Array Slot} (S : SC A D ac st p m c prog_1_method_11_code 4 s args "SweeperRounds" R cells slots 2 44) (hR : RtI A D ac ad p l e R s m args below meth c prog_1_method_11_code cells slots QW Q) (hk_r0 : kd r0 = 9) (hG : DG A D ac ad s σ H locs) (hl : lv_has ls 4 [(0, .ref (ad r0)), (1, .int x1), (2, .int x2)]) (hf : m_9_street r0 x1 x2 Q σ) : W p l e R s m args below meth c H locs cells slots QW (F0 m 0 ls []) := by
  have hx := S.1.1
  have hb := S.1.2.1
  unfold m_9_street at hf
  refine lv_aload_n hx hb d_9_street_0 rfl (lv_at hl 0 rfl) ?_
  refine gf_9_26 S hG hk_r0 d_9_street_1 ?_
  refine lv_iload_n hx hb d_9_street_4 rfl (lv_at hl 1 rfl) ?_
  refine iv_9_100 S hl.1 hG (kr_9_2 hk_r0) (c_8_hasStreet l (kr_9_2 hk_r0) hf) ⟨Nat.le_of_ble_eq_true rfl, Nat.le_of_ble_eq_true rfl⟩ (Nat.le_of_ble_eq_true rfl) d_9_street_5 (fun v_2 σ_1 hf H locs hG => ?_)
  refine lv_if_ne (tgt := 13) hx hb d_9_street_8 (by decide) (fun hc => ?_) (fun hc => ?_)
  · have hf := hf.1 hc
    refine lv_aload_n hx hb d_9_street_13 rfl (lv_at hl 0 rfl) ?_
    refine gf_9_26 S hG hk_r0 d_9_street_14 ?_
    refine gf_9_122 S hG (kr_9_2 hk_r0) d_9_street_17 ?_
    refine lv_iload_n hx hb d_9_street_20 rfl (lv_at hl 1 rfl) ?_
    refine mq3 S hG (kr_8_0 (kr_9_2 hk_r0)) hf.1 d_9_street_21 ?_
    have hi_3 := vin_lt hf.1
    have hf := hf.2
    refine lv_topr (fun r3_4 er3_4 => ?_)
    have hf := hf r3_4 er3_4
    have hk_r3_4 : kd r3_4 = 6 := er3_4 ▸ (ke_23 (kr_8_0 (kr_9_2 hk_r0)) hi_3)
    refine lv_astore_n (lv' := [(3, .ref (ad r3_4)), (0, .ref (ad r0)), (1, .int x1), (2, .int x2)]) hx hb d_9_street_22 rfl hl (by decide) rfl (fun ls hl => ?_)
    refine lv_iload_n hx hb d_9_street_23 rfl (lv_at hl 3 rfl) ?_
    refine lv_topi (fun q_5 eq_5 => ?_)
    rcases sw_0_7 q_5 with hq_5 | hq_5 | hq_5 | hq_5 | hq_5 | hq_5 | hq_5 | hq_5 | hq_5
    · rw [eq_5] at hq_5 ⊢
      refine lv_tableOut (tgt := 118) hx hb d_9_street_24 hq_5 (by decide) ?_
      have hf := hf.1 hq_5
      refine lv_iconst (v := (-1 : Int32)) hx hb d_9_street_118 (by decide) ?_
      exact hR _ _ _ _ _ _ hG hf d_9_street_119
    · subst hq_5
      refine lv_tableIn (off := 48) (tgt := 72) hx hb d_9_street_24 (by decide) (by decide) (by decide) (by decide) ?_
      have hf := hf.2.1 eq_5.symm
      refine lv_aload_n hx hb d_9_street_72 rfl (lv_at hl 0 rfl) ?_
      refine gf_9_91 S hG hk_r3_4 d_9_street_73 ?_
      exact hR _ _ _ _ _ _ hG hf d_9_street_76
    · subst hq_5
      refine lv_tableIn (off := 53) (tgt := 77) hx hb d_9_street_24 (by decide) (by decide) (by decide) (by decide) ?_
      have hf := hf.2.2.1 eq_5.symm
      refine lv_aload_n hx hb d_9_street_77 rfl (lv_at hl 0 rfl) ?_
      refine gf_9_149 S hG hk_r3_4 d_9_street_78 ?_
      exact hR _ _ _ _ _ _ hG hf d_9_street_81
    · subst hq_5
      refine lv_tableIn (off := 58) (tgt := 82) hx hb d_9_street_24 (by decide) (by decide) (by decide) (by decide) ?_
      have hf := hf.2.2.2.1 eq_5.symm
      refine lv_aload_n hx hb d_9_street_82 rfl (lv_at hl 0 rfl) ?_
      refine gf_9_152 S hG hk_r3_4 d_9_street_83 ?_
      exact hR _ _ _ _ _ _ hG hf d_9_street_86
    · subst hq_5
      refine lv_tableIn (off := 63) (tgt := 87) hx hb d_9_street_24 (by decide) (by decide) (by decide) (by decide) ?_
      have hf := hf.2.2.2.2.1 eq_5.symm
      refine lv_aload_n hx hb d_9_street_87 rfl (lv_at hl 0 rfl) ?_
      refine lv_iconst (v := (0 : Int32)) hx hb d_9_street_88 (by decide) ?_
      refine iv_9_155 S hl.1 hG hk_r3_4 (c_6_dirtOfSide l hk_r3_4 hf) ⟨Nat.le_of_ble_eq_true rfl, Nat.le_of_ble_eq_true rfl⟩ (Nat.le_of_ble_eq_true rfl) d_9_street_89 (fun v_7 σ_6 hf H locs hG => ?_)
      exact hR _ _ _ _ _ _ hG hf d_9_street_92
    · subst hq_5
      refine lv_tableIn (off := 69) (tgt := 93) hx hb d_9_street_24 (by decide) (by decide) (by decide) (by decide) ?_
      have hf := hf.2.2.2.2.2.1 eq_5.symm
      refine lv_aload_n hx hb d_9_street_93 rfl (lv_at hl 0 rfl) ?_
      refine lv_iconst (v := (1 : Int32)) hx hb d_9_street_94 (by decide) ?_
      refine iv_9_155 S hl.1 hG hk_r3_4 (c_6_dirtOfSide l hk_r3_4 hf) ⟨Nat.le_of_ble_eq_true rfl, Nat.le_of_ble_eq_true rfl⟩ (Nat.le_of_ble_eq_true rfl) d_9_street_95 (fun v_9 σ_8 hf H locs hG => ?_)
      exact hR _ _ _ _ _ _ hG hf d_9_street_98
    · subst hq_5
      refine lv_tableIn (off := 75) (tgt := 99) hx hb d_9_street_24 (by decide) (by decide) (by decide) (by decide) ?_
      have hf := hf.2.2.2.2.2.2.1 eq_5.symm
      refine lv_aload_n hx hb d_9_street_99 rfl (lv_at hl 0 rfl) ?_
      refine iv_9_159 S hl.1 hG hk_r3_4 (c_6_parkedCells l hk_r3_4 hf) ⟨Nat.le_of_ble_eq_true rfl, Nat.le_of_ble_eq_true rfl⟩ (Nat.le_of_ble_eq_true rfl) d_9_street_100 (fun v_11 σ_10 hf H locs hG => ?_)
      exact hR _ _ _ _ _ _ hG hf d_9_street_103
    · subst hq_5
      refine lv_tableIn (off := 80) (tgt := 104) hx hb d_9_street_24 (by decide) (by decide) (by decide) (by decide) ?_
      have hf := hf.2.2.2.2.2.2.2.1 eq_5.symm
      refine lv_aload_n hx hb d_9_street_104 rfl (lv_at hl 0 rfl) ?_
      refine iv_9_162 S hl.1 hG hk_r3_4 (c_6_greatestDirt l hk_r3_4 hf) ⟨Nat.le_of_ble_eq_true rfl, Nat.le_of_ble_eq_true rfl⟩ (Nat.le_of_ble_eq_true rfl) d_9_street_105 (fun v_13 σ_12 hf H locs hG => ?_)
      exact hR _ _ _ _ _ _ hG hf d_9_street_108
    · subst hq_5
      refine lv_tableIn (off := 85) (tgt := 109) hx hb d_9_street_24 (by decide) (by decide) (by decide) (by decide) ?_
      have hf := hf.2.2.2.2.2.2.2.2 eq_5.symm
      refine lv_aload_n hx hb d_9_street_109 rfl (lv_at hl 1 rfl) ?_
      refine gf_9_26 S hG hk_r0 d_9_street_110 ?_
      refine lv_iload_n hx hb d_9_street_113 rfl (lv_at hl 2 rfl) ?_
      refine iv_9_165 S hl.1 hG (kr_9_2 hk_r0) (c_8_legsIn l (kr_9_2 hk_r0) hf) ⟨Nat.le_of_ble_eq_true rfl, Nat.le_of_ble_eq_true rfl⟩ (Nat.le_of_ble_eq_true rfl) d_9_street_114 (fun v_15 σ_14 hf H locs hG => ?_)
      exact hR _ _ _ _ _ _ hG hf d_9_street_117
  · have hf := hf.2 hc
    refine lv_iconst (v := (-1 : Int32)) hx hb d_9_street_11 (by decide) ?_
    exact hR _ _ _ _ _ _ hG hf d_9_street_12
theorem c_9_street (l : Launch) {D : va_G} {ac : Nat → ClassId} {ad : Nat → Nat} {st : SS} {A : Nat → Prop} {σ : St} {r0 : Nat} {x1 : Int32} {x2 : Int32} {Q : Int32 → St → Prop} (hk_r0 : kd r0 = 9) (hf : m_9_street r0 x1 x2 Q σ) : Met l y_9_street (Cond.code y_9_street prog_1_method_11_code 4 (some .int) :: wA) { frames := 2, cells := 0, slots := 0, locals := 44 } (va_Pc [.ref (ad r0), .int x1, .int x2] (GSt A D ac ad st σ)) (va_Qi Q (GSt A D ac ad st) A) 0 0 A :=
  mkI l (by decide +kernel) rfl [.ref (ad r0), .int x1, .int x2] (Nat.le_of_ble_eq_true rfl) (fun p e s m args below meth c ls QW S hR hG hl => w_9_street_0 S hR hk_r0 hG hl hf)
set_option maxHeartbeats 4000000 in
set_option maxRecDepth 100000 in
theorem w_8_leastSetting_0 {r0 : Nat} {x1 : Int32} {Q : Int32 → St → Prop} {σ : St} {H : Heap} {locs : List Loc} {ls : Array Slot} (S : SC A D ac st p m c prog_10_method_15_code 2 s args "SweeperRounds$World" R cells slots 1 13) (hR : RtI A D ac ad p l e R s m args below meth c prog_10_method_15_code cells slots QW Q) (hk_r0 : kd r0 = 8) (hG : DG A D ac ad s σ H locs) (hl : lv_has ls 2 [(0, .ref (ad r0)), (1, .int x1)]) (hf : m_8_leastSetting r0 x1 Q σ) : W p l e R s m args below meth c H locs cells slots QW (F0 m 0 ls []) := by
  have hx := S.1.1
  have hb := S.1.2.1
  unfold m_8_leastSetting at hf
  refine lv_iload_n hx hb d_8_leastSetting_0 rfl (lv_at hl 1 rfl) ?_
  refine lv_iconst (v := (1 : Int32)) hx hb d_8_leastSetting_1 (by decide) ?_
  refine lv_icmp_ne (tgt := 20) hx hb d_8_leastSetting_2 (by decide) (fun hc => ?_) (fun hc => ?_)
  · have hf := hf.1 hc
    refine mgsN S hG 1 (by decide) (host := "SweeperRounds") (by decide +kernel) d_8_leastSetting_20 ?_
    refine lv_iload_n hx hb d_8_leastSetting_23 rfl (lv_at hl 1 rfl) ?_
    refine mts S hG 1 (by decide) hf.1 d_8_leastSetting_24 ?_
    have hf := hf.2
    exact hR _ _ _ _ _ _ hG hf d_8_leastSetting_25
  · have hf := hf.2 hc
    refine mgsN S hG 1 (by decide) (host := "SweeperRounds") (by decide +kernel) d_8_leastSetting_5 ?_
    refine lv_iload_n hx hb d_8_leastSetting_8 rfl (lv_at hl 1 rfl) ?_
    refine mts S hG 1 (by decide) hf.1 d_8_leastSetting_9 ?_
    have hf := hf.2
    refine lv_aload_n hx hb d_8_leastSetting_10 rfl (lv_at hl 0 rfl) ?_
    refine gf_8_69 S hG hk_r0 d_8_leastSetting_11 ?_
    refine mmx S hl.1 wm_354 wm_355 wm_20 wm_356 (by decide) (Nat.le_of_ble_eq_true rfl) d_8_leastSetting_14 ?_
    refine lv_goto (tgt := 25) hx hb d_8_leastSetting_17 (by decide) ?_
    exact hR _ _ _ _ _ _ hG hf d_8_leastSetting_25
theorem c_8_leastSetting (l : Launch) {D : va_G} {ac : Nat → ClassId} {ad : Nat → Nat} {st : SS} {A : Nat → Prop} {σ : St} {r0 : Nat} {x1 : Int32} {Q : Int32 → St → Prop} (hk_r0 : kd r0 = 8) (hf : m_8_leastSetting r0 x1 Q σ) : Met l y_8_leastSetting (Cond.code y_8_leastSetting prog_10_method_15_code 2 (some .int) :: wA) { frames := 1, cells := 0, slots := 0, locals := 13 } (va_Pc [.ref (ad r0), .int x1] (GSt A D ac ad st σ)) (va_Qi Q (GSt A D ac ad st) A) 0 0 A :=
  mkI l (by decide +kernel) rfl [.ref (ad r0), .int x1] (Nat.le_of_ble_eq_true rfl) (fun p e s m args below meth c ls QW S hR hG hl => w_8_leastSetting_0 S hR hk_r0 hG hl hf)
set_option maxHeartbeats 4000000 in
set_option maxRecDepth 100000 in
theorem w_9_set_0 {r0 : Nat} {x1 : Int32} {x2 : Int32} {Q : Int32 → St → Prop} {σ : St} {H : Heap} {locs : List Loc} {ls : Array Slot} (S : SC A D ac st p m c prog_1_method_12_code 4 s args "SweeperRounds" R cells slots 3 65) (hR : RtI A D ac ad p l e R s m args below meth c prog_1_method_12_code cells slots QW Q) (hk_r0 : kd r0 = 9) (hG : DG A D ac ad s σ H locs) (hl : lv_has ls 4 [(0, .ref (ad r0)), (1, .int x1), (2, .int x2)]) (hf : m_9_set r0 x1 x2 Q σ) : W p l e R s m args below meth c H locs cells slots QW (F0 m 0 ls []) := by
  have hx := S.1.1
  have hb := S.1.2.1
  unfold m_9_set at hf
  refine lv_iload_n hx hb d_9_set_0 rfl (lv_at hl 1 rfl) ?_
  refine lv_if_lt (tgt := 31) hx hb d_9_set_1 (by decide) (fun hc => ?_) (fun hc => ?_)
  · have hf := hf.1 hc
    refine lv_iconst (v := (-1 : Int32)) hx hb d_9_set_31 (by decide) ?_
    exact hR _ _ _ _ _ _ hG hf d_9_set_32
  · have hf := hf.2 hc
    refine lv_iload_n hx hb d_9_set_4 rfl (lv_at hl 1 rfl) ?_
    refine lv_bipush (v := (6 : Int32)) hx hb d_9_set_5 (by decide) ?_
    refine lv_icmp_ge (tgt := 31) hx hb d_9_set_7 (by decide) (fun hc => ?_) (fun hc => ?_)
    · have hf := hf.1 hc
      refine lv_iconst (v := (-1 : Int32)) hx hb d_9_set_31 (by decide) ?_
      exact hR _ _ _ _ _ _ hG hf d_9_set_32
    · have hf := hf.2 hc
      refine lv_iload_n hx hb d_9_set_10 rfl (lv_at hl 2 rfl) ?_
      refine lv_aload_n hx hb d_9_set_11 rfl (lv_at hl 0 rfl) ?_
      refine gf_9_26 S hG hk_r0 d_9_set_12 ?_
      refine lv_iload_n hx hb d_9_set_15 rfl (lv_at hl 1 rfl) ?_
      refine iv_9_168 S hl.1 hG (kr_9_2 hk_r0) (c_8_leastSetting l (kr_9_2 hk_r0) hf) ⟨Nat.le_of_ble_eq_true rfl, Nat.le_of_ble_eq_true rfl⟩ (Nat.le_of_ble_eq_true rfl) d_9_set_16 (fun v_2 σ_1 hf H locs hG => ?_)
      refine lv_icmp_lt (tgt := 31) hx hb d_9_set_19 (by decide) (fun hc => ?_) (fun hc => ?_)
      · have hf := hf.1 hc
        refine lv_iconst (v := (-1 : Int32)) hx hb d_9_set_31 (by decide) ?_
        exact hR _ _ _ _ _ _ hG hf d_9_set_32
      · have hf := hf.2 hc
        refine lv_iload_n hx hb d_9_set_22 rfl (lv_at hl 2 rfl) ?_
        refine mgs S hG 2 (by decide) wm_411 d_9_set_23 ?_
        refine lv_iload_n hx hb d_9_set_26 rfl (lv_at hl 1 rfl) ?_
        refine mts S hG 2 (by decide) hf.1 d_9_set_27 ?_
        have hf := hf.2
        refine lv_icmp_le (tgt := 33) hx hb d_9_set_28 (by decide) (fun hc => ?_) (fun hc => ?_)
        · have hf := hf.1 hc
          refine lv_aload_n hx hb d_9_set_33 rfl (lv_at hl 0 rfl) ?_
          refine gf_9_42 S hG hk_r0 d_9_set_34 ?_
          refine lv_aload_n hx hb d_9_set_37 rfl (lv_at hl 0 rfl) ?_
          refine gf_9_26 S hG hk_r0 d_9_set_38 ?_
          refine iv_9_80 S hl.1 hG (kr_9_4 hk_r0) (c_0_remember l (kr_9_4 hk_r0) (kr_9_2 hk_r0) hf) ⟨Nat.le_of_ble_eq_true rfl, Nat.le_of_ble_eq_true rfl⟩ (Nat.le_of_ble_eq_true rfl) d_9_set_41 (fun σ_3 hf H locs hG => ?_)
          refine lv_aload_n hx hb d_9_set_44 rfl (lv_at hl 0 rfl) ?_
          refine gf_9_26 S hG hk_r0 d_9_set_45 ?_
          refine gf_9_174 S hG (kr_9_2 hk_r0) d_9_set_48 ?_
          refine lv_iload_n hx hb d_9_set_51 rfl (lv_at hl 1 rfl) ?_
          refine mia S hG 26 rfl rfl (kr_8_5 (kr_9_2 hk_r0)) hf.1 d_9_set_52 ?_
          have hf := hf.2
          refine lv_topi (fun x3_5 ex3_5 => ?_)
          have hf := hf x3_5 ex3_5
          refine lv_istore_n (lv' := [(3, .int x3_5), (0, .ref (ad r0)), (1, .int x1), (2, .int x2)]) hx hb d_9_set_53 rfl hl (by decide) rfl (fun ls hl => ?_)
          refine lv_aload_n hx hb d_9_set_54 rfl (lv_at hl 1 rfl) ?_
          refine gf_9_26 S hG hk_r0 d_9_set_55 ?_
          refine gf_9_174 S hG (kr_9_2 hk_r0) d_9_set_58 ?_
          refine lv_iload_n hx hb d_9_set_61 rfl (lv_at hl 2 rfl) ?_
          refine lv_iload_n hx hb d_9_set_62 rfl (lv_at hl 3 rfl) ?_
          refine mis S hG 26 rfl rfl (kr_8_5 (kr_9_2 hk_r0)) hf.1 d_9_set_63 (fun σ_6 eσ_6 H locs hG => ?_)
          have hf := hf.2 σ_6 eσ_6
          refine lv_iload_n hx hb d_9_set_64 rfl (lv_at hl 0 rfl) ?_
          exact hR _ _ _ _ _ _ hG hf d_9_set_65
        · have hf := hf.2 hc
          refine lv_iconst (v := (-1 : Int32)) hx hb d_9_set_31 (by decide) ?_
          exact hR _ _ _ _ _ _ hG hf d_9_set_32
theorem c_9_set (l : Launch) {D : va_G} {ac : Nat → ClassId} {ad : Nat → Nat} {st : SS} {A : Nat → Prop} {σ : St} {r0 : Nat} {x1 : Int32} {x2 : Int32} {Q : Int32 → St → Prop} (hk_r0 : kd r0 = 9) (hf : m_9_set r0 x1 x2 Q σ) : Met l y_9_set (Cond.code y_9_set prog_1_method_12_code 4 (some .int) :: wA) { frames := 3, cells := 0, slots := 0, locals := 65 } (va_Pc [.ref (ad r0), .int x1, .int x2] (GSt A D ac ad st σ)) (va_Qi Q (GSt A D ac ad st) A) 0 0 A :=
  mkI l (by decide +kernel) rfl [.ref (ad r0), .int x1, .int x2] (Nat.le_of_ble_eq_true rfl) (fun p e s m args below meth c ls QW S hR hG hl => w_9_set_0 S hR hk_r0 hG hl hf)
set_option maxHeartbeats 4000000 in
set_option maxRecDepth 100000 in
theorem w_8_appendLeg_0 {r0 : Nat} {x1 : Int32} {x2 : Int32} {Q : Int32 → St → Prop} {σ : St} {H : Heap} {locs : List Loc} {ls : Array Slot} (S : SC A D ac st p m c prog_10_method_12_code 4 s args "SweeperRounds$World" R cells slots 0 0) (hR : RtI A D ac ad p l e R s m args below meth c prog_10_method_12_code cells slots QW Q) (hk_r0 : kd r0 = 8) (hG : DG A D ac ad s σ H locs) (hl : lv_has ls 4 [(0, .ref (ad r0)), (1, .int x1), (2, .int x2)]) (hf : m_8_appendLeg r0 x1 x2 Q σ) : W p l e R s m args below meth c H locs cells slots QW (F0 m 0 ls []) := by
  have hx := S.1.1
  have hb := S.1.2.1
  unfold m_8_appendLeg at hf
  refine lv_aload_n hx hb d_8_appendLeg_0 rfl (lv_at hl 0 rfl) ?_
  refine gf_8_19 S hG hk_r0 d_8_appendLeg_1 ?_
  refine lv_aload_n hx hb d_8_appendLeg_4 rfl (lv_at hl 0 rfl) ?_
  refine gf_8_59 S hG hk_r0 d_8_appendLeg_5 ?_
  refine mq4 S hG (kr_8_2 hk_r0) hf.1 d_8_appendLeg_8 ?_
  have hi_1 := vin_lt hf.1
  have hf := hf.2
  refine lv_topr (fun r3_2 er3_2 => ?_)
  have hf := hf r3_2 er3_2
  have hk_r3_2 : kd r3_2 = 1 := er3_2 ▸ (ke_24 (kr_8_2 hk_r0) hi_1)
  refine lv_astore_n (lv' := [(3, .ref (ad r3_2)), (0, .ref (ad r0)), (1, .int x1), (2, .int x2)]) hx hb d_8_appendLeg_9 rfl hl (by decide) rfl (fun ls hl => ?_)
  refine lv_aload_n hx hb d_8_appendLeg_10 rfl (lv_at hl 0 rfl) ?_
  refine lv_iload_n hx hb d_8_appendLeg_11 rfl (lv_at hl 2 rfl) ?_
  refine pf_8_92 S hG hk_r3_2 d_8_appendLeg_12 (fun σ_3 eσ_3 H locs hG => ?_)
  have hf := hf σ_3 eσ_3
  refine lv_aload_n hx hb d_8_appendLeg_15 rfl (lv_at hl 0 rfl) ?_
  refine lv_iload_n hx hb d_8_appendLeg_16 rfl (lv_at hl 3 rfl) ?_
  refine pf_8_108 S hG hk_r3_2 d_8_appendLeg_17 (fun σ_4 eσ_4 H locs hG => ?_)
  have hf := hf σ_4 eσ_4
  refine lv_aload_n hx hb d_8_appendLeg_20 rfl (lv_at hl 1 rfl) ?_
  refine lv_dup hx hb d_8_appendLeg_21 rfl ?_
  refine gf_8_59 S hG hk_r0 d_8_appendLeg_22 ?_
  refine lv_iconst (v := (1 : Int32)) hx hb d_8_appendLeg_25 (by decide) ?_
  refine lv_iadd hx hb d_8_appendLeg_26 ?_
  refine pf_8_59 S hG hk_r0 d_8_appendLeg_27 (fun σ_5 eσ_5 H locs hG => ?_)
  have hf := hf σ_5 eσ_5
  refine lv_aload_n hx hb d_8_appendLeg_30 rfl (lv_at hl 1 rfl) ?_
  refine lv_iconst (v := (0 : Int32)) hx hb d_8_appendLeg_31 (by decide) ?_
  refine pf_8_65 S hG hk_r0 (by unfold isB; decide) d_8_appendLeg_32 (fun σ_6 eσ_6 H locs hG => ?_)
  have hf := hf σ_6 eσ_6
  refine lv_aload_n hx hb d_8_appendLeg_35 rfl (lv_at hl 1 rfl) ?_
  refine gf_8_59 S hG hk_r0 d_8_appendLeg_36 ?_
  refine lv_iconst (v := (1 : Int32)) hx hb d_8_appendLeg_39 (by decide) ?_
  refine lv_isub hx hb d_8_appendLeg_40 ?_
  exact hR _ _ _ _ _ _ hG hf d_8_appendLeg_41
theorem c_8_appendLeg (l : Launch) {D : va_G} {ac : Nat → ClassId} {ad : Nat → Nat} {st : SS} {A : Nat → Prop} {σ : St} {r0 : Nat} {x1 : Int32} {x2 : Int32} {Q : Int32 → St → Prop} (hk_r0 : kd r0 = 8) (hf : m_8_appendLeg r0 x1 x2 Q σ) : Met l y_8_appendLeg (Cond.code y_8_appendLeg prog_10_method_12_code 4 (some .int) :: wA) { frames := 0, cells := 0, slots := 0, locals := 0 } (va_Pc [.ref (ad r0), .int x1, .int x2] (GSt A D ac ad st σ)) (va_Qi Q (GSt A D ac ad st) A) 0 0 A :=
  mkI l (by decide +kernel) rfl [.ref (ad r0), .int x1, .int x2] (Nat.le_of_ble_eq_true rfl) (fun p e s m args below meth c ls QW S hR hG hl => w_8_appendLeg_0 S hR hk_r0 hG hl hf)
set_option maxHeartbeats 4000000 in
set_option maxRecDepth 100000 in
theorem w_9_addLeg_0 {r0 : Nat} {x1 : Int32} {x2 : Int32} {Q : Int32 → St → Prop} {σ : St} {H : Heap} {locs : List Loc} {ls : Array Slot} (S : SC A D ac st p m c prog_1_method_13_code 3 s args "SweeperRounds" R cells slots 3 65) (hR : RtI A D ac ad p l e R s m args below meth c prog_1_method_13_code cells slots QW Q) (hk_r0 : kd r0 = 9) (hG : DG A D ac ad s σ H locs) (hl : lv_has ls 3 [(0, .ref (ad r0)), (1, .int x1), (2, .int x2)]) (hf : m_9_addLeg r0 x1 x2 Q σ) : W p l e R s m args below meth c H locs cells slots QW (F0 m 0 ls []) := by
  have hx := S.1.1
  have hb := S.1.2.1
  unfold m_9_addLeg at hf
  refine lv_aload_n hx hb d_9_addLeg_0 rfl (lv_at hl 0 rfl) ?_
  refine gf_9_26 S hG hk_r0 d_9_addLeg_1 ?_
  refine lv_iload_n hx hb d_9_addLeg_4 rfl (lv_at hl 1 rfl) ?_
  refine iv_9_100 S hl.1 hG (kr_9_2 hk_r0) (c_8_hasStreet l (kr_9_2 hk_r0) hf) ⟨Nat.le_of_ble_eq_true rfl, Nat.le_of_ble_eq_true rfl⟩ (Nat.le_of_ble_eq_true rfl) d_9_addLeg_5 (fun v_2 σ_1 hf H locs hG => ?_)
  refine lv_if_eq (tgt := 20) hx hb d_9_addLeg_8 (by decide) (fun hc => ?_) (fun hc => ?_)
  · have hf := hf.1 hc
    refine lv_iconst (v := (-1 : Int32)) hx hb d_9_addLeg_20 (by decide) ?_
    exact hR _ _ _ _ _ _ hG hf d_9_addLeg_21
  · have hf := hf.2 hc
    refine lv_iload_n hx hb d_9_addLeg_11 rfl (lv_at hl 2 rfl) ?_
    refine lv_if_lt (tgt := 20) hx hb d_9_addLeg_12 (by decide) (fun hc => ?_) (fun hc => ?_)
    · have hf := hf.1 hc
      refine lv_iconst (v := (-1 : Int32)) hx hb d_9_addLeg_20 (by decide) ?_
      exact hR _ _ _ _ _ _ hG hf d_9_addLeg_21
    · have hf := hf.2 hc
      refine lv_iload_n hx hb d_9_addLeg_15 rfl (lv_at hl 2 rfl) ?_
      refine lv_iconst (v := (2 : Int32)) hx hb d_9_addLeg_16 (by decide) ?_
      refine lv_icmp_lt (tgt := 22) hx hb d_9_addLeg_17 (by decide) (fun hc => ?_) (fun hc => ?_)
      · have hf := hf.1 hc
        refine lv_aload_n hx hb d_9_addLeg_22 rfl (lv_at hl 0 rfl) ?_
        refine gf_9_26 S hG hk_r0 d_9_addLeg_23 ?_
        refine gf_9_108 S hG (kr_9_2 hk_r0) d_9_addLeg_26 ?_
        refine lv_bipush (v := (10 : Int32)) hx hb d_9_addLeg_29 (by decide) ?_
        refine lv_icmp_lt (tgt := 37) hx hb d_9_addLeg_31 (by decide) (fun hc => ?_) (fun hc => ?_)
        · have hf := hf.1 hc
          refine lv_aload_n hx hb d_9_addLeg_37 rfl (lv_at hl 0 rfl) ?_
          refine gf_9_42 S hG hk_r0 d_9_addLeg_38 ?_
          refine lv_aload_n hx hb d_9_addLeg_41 rfl (lv_at hl 0 rfl) ?_
          refine gf_9_26 S hG hk_r0 d_9_addLeg_42 ?_
          refine iv_9_80 S hl.1 hG (kr_9_4 hk_r0) (c_0_remember l (kr_9_4 hk_r0) (kr_9_2 hk_r0) hf) ⟨Nat.le_of_ble_eq_true rfl, Nat.le_of_ble_eq_true rfl⟩ (Nat.le_of_ble_eq_true rfl) d_9_addLeg_45 (fun σ_3 hf H locs hG => ?_)
          refine lv_aload_n hx hb d_9_addLeg_48 rfl (lv_at hl 0 rfl) ?_
          refine gf_9_26 S hG hk_r0 d_9_addLeg_49 ?_
          refine lv_iload_n hx hb d_9_addLeg_52 rfl (lv_at hl 1 rfl) ?_
          refine lv_iload_n hx hb d_9_addLeg_53 rfl (lv_at hl 2 rfl) ?_
          refine iv_9_177 S hl.1 hG (kr_9_2 hk_r0) (c_8_appendLeg l (kr_9_2 hk_r0) hf) ⟨Nat.le_of_ble_eq_true rfl, Nat.le_of_ble_eq_true rfl⟩ (Nat.le_of_ble_eq_true rfl) d_9_addLeg_54 (fun v_6 σ_5 hf H locs hG => ?_)
          exact hR _ _ _ _ _ _ hG hf d_9_addLeg_57
        · have hf := hf.2 hc
          refine lv_bipush (v := (-3 : Int32)) hx hb d_9_addLeg_34 (by decide) ?_
          exact hR _ _ _ _ _ _ hG hf d_9_addLeg_36
      · have hf := hf.2 hc
        refine lv_iconst (v := (-1 : Int32)) hx hb d_9_addLeg_20 (by decide) ?_
        exact hR _ _ _ _ _ _ hG hf d_9_addLeg_21
theorem c_9_addLeg (l : Launch) {D : va_G} {ac : Nat → ClassId} {ad : Nat → Nat} {st : SS} {A : Nat → Prop} {σ : St} {r0 : Nat} {x1 : Int32} {x2 : Int32} {Q : Int32 → St → Prop} (hk_r0 : kd r0 = 9) (hf : m_9_addLeg r0 x1 x2 Q σ) : Met l y_9_addLeg (Cond.code y_9_addLeg prog_1_method_13_code 3 (some .int) :: wA) { frames := 3, cells := 0, slots := 0, locals := 65 } (va_Pc [.ref (ad r0), .int x1, .int x2] (GSt A D ac ad st σ)) (va_Qi Q (GSt A D ac ad st) A) 0 0 A :=
  mkI l (by decide +kernel) rfl [.ref (ad r0), .int x1, .int x2] (Nat.le_of_ble_eq_true rfl) (fun p e s m args below meth c ls QW S hR hG hl => w_9_addLeg_0 S hR hk_r0 hG hl hf)
set_option maxHeartbeats 4000000 in
set_option maxRecDepth 100000 in
theorem w_8_hasLeg_0 {r0 : Nat} {x1 : Int32} {Q : Int32 → St → Prop} {σ : St} {H : Heap} {locs : List Loc} {ls : Array Slot} (S : SC A D ac st p m c prog_10_method_5_code 2 s args "SweeperRounds$World" R cells slots 0 0) (hR : RtZ A D ac ad p l e R s m args below meth c prog_10_method_5_code cells slots QW Q) (hk_r0 : kd r0 = 8) (hG : DG A D ac ad s σ H locs) (hl : lv_has ls 2 [(0, .ref (ad r0)), (1, .int x1)]) (hf : m_8_hasLeg r0 x1 Q σ) : W p l e R s m args below meth c H locs cells slots QW (F0 m 0 ls []) := by
  have hx := S.1.1
  have hb := S.1.2.1
  unfold m_8_hasLeg at hf
  refine lv_iload_n hx hb d_8_hasLeg_0 rfl (lv_at hl 1 rfl) ?_
  refine lv_if_lt (tgt := 16) hx hb d_8_hasLeg_1 (by decide) (fun hc => ?_) (fun hc => ?_)
  · have hf := hf.1 hc
    refine lv_iconst (v := (0 : Int32)) hx hb d_8_hasLeg_16 (by decide) ?_
    exact hR _ _ _ _ _ _ hG (by unfold isB; decide) hf d_8_hasLeg_17
  · have hf := hf.2 hc
    refine lv_iload_n hx hb d_8_hasLeg_4 rfl (lv_at hl 1 rfl) ?_
    refine lv_aload_n hx hb d_8_hasLeg_5 rfl (lv_at hl 0 rfl) ?_
    refine gf_8_59 S hG hk_r0 d_8_hasLeg_6 ?_
    refine lv_icmp_ge (tgt := 16) hx hb d_8_hasLeg_9 (by decide) (fun hc => ?_) (fun hc => ?_)
    · have hf := hf.1 hc
      refine lv_iconst (v := (0 : Int32)) hx hb d_8_hasLeg_16 (by decide) ?_
      exact hR _ _ _ _ _ _ hG (by unfold isB; decide) hf d_8_hasLeg_17
    · have hf := hf.2 hc
      refine lv_iconst (v := (1 : Int32)) hx hb d_8_hasLeg_12 (by decide) ?_
      refine lv_goto (tgt := 17) hx hb d_8_hasLeg_13 (by decide) ?_
      exact hR _ _ _ _ _ _ hG (by unfold isB; decide) hf d_8_hasLeg_17
theorem c_8_hasLeg (l : Launch) {D : va_G} {ac : Nat → ClassId} {ad : Nat → Nat} {st : SS} {A : Nat → Prop} {σ : St} {r0 : Nat} {x1 : Int32} {Q : Int32 → St → Prop} (hk_r0 : kd r0 = 8) (hf : m_8_hasLeg r0 x1 Q σ) : Met l y_8_hasLeg (Cond.code y_8_hasLeg prog_10_method_5_code 2 (some .boolean) :: wA) { frames := 0, cells := 0, slots := 0, locals := 0 } (va_Pc [.ref (ad r0), .int x1] (GSt A D ac ad st σ)) (va_Qi Q (GSt A D ac ad st) A) 0 0 A :=
  mkZ l (by decide +kernel) rfl [.ref (ad r0), .int x1] (Nat.le_of_ble_eq_true rfl) (fun p e s m args below meth c ls QW S hR hG hl => w_8_hasLeg_0 S hR hk_r0 hG hl hf)
set_option maxHeartbeats 4000000 in
set_option maxRecDepth 100000 in
theorem w_9_leg_0 {r0 : Nat} {x1 : Int32} {x2 : Int32} {Q : Int32 → St → Prop} {σ : St} {H : Heap} {locs : List Loc} {ls : Array Slot} (S : SC A D ac st p m c prog_1_method_15_code 4 s args "SweeperRounds" R cells slots 1 21) (hR : RtI A D ac ad p l e R s m args below meth c prog_1_method_15_code cells slots QW Q) (hk_r0 : kd r0 = 9) (hG : DG A D ac ad s σ H locs) (hl : lv_has ls 4 [(0, .ref (ad r0)), (1, .int x1), (2, .int x2)]) (hf : m_9_leg r0 x1 x2 Q σ) : W p l e R s m args below meth c H locs cells slots QW (F0 m 0 ls []) := by
  have hx := S.1.1
  have hb := S.1.2.1
  unfold m_9_leg at hf
  refine lv_aload_n hx hb d_9_leg_0 rfl (lv_at hl 0 rfl) ?_
  refine gf_9_26 S hG hk_r0 d_9_leg_1 ?_
  refine lv_iload_n hx hb d_9_leg_4 rfl (lv_at hl 1 rfl) ?_
  refine iv_9_180 S hl.1 hG (kr_9_2 hk_r0) (c_8_hasLeg l (kr_9_2 hk_r0) hf) ⟨Nat.le_of_ble_eq_true rfl, Nat.le_of_ble_eq_true rfl⟩ (Nat.le_of_ble_eq_true rfl) d_9_leg_5 (fun v_2 σ_1 hf H locs hG => ?_)
  refine lv_if_eq (tgt := 20) hx hb d_9_leg_8 (by decide) (fun hc => ?_) (fun hc => ?_)
  · have hf := hf.1 hc
    refine lv_iconst (v := (-1 : Int32)) hx hb d_9_leg_20 (by decide) ?_
    exact hR _ _ _ _ _ _ hG hf d_9_leg_21
  · have hf := hf.2 hc
    refine lv_iload_n hx hb d_9_leg_11 rfl (lv_at hl 2 rfl) ?_
    refine lv_if_lt (tgt := 20) hx hb d_9_leg_12 (by decide) (fun hc => ?_) (fun hc => ?_)
    · have hf := hf.1 hc
      refine lv_iconst (v := (-1 : Int32)) hx hb d_9_leg_20 (by decide) ?_
      exact hR _ _ _ _ _ _ hG hf d_9_leg_21
    · have hf := hf.2 hc
      refine lv_iload_n hx hb d_9_leg_15 rfl (lv_at hl 2 rfl) ?_
      refine lv_iconst (v := (3 : Int32)) hx hb d_9_leg_16 (by decide) ?_
      refine lv_icmp_le (tgt := 22) hx hb d_9_leg_17 (by decide) (fun hc => ?_) (fun hc => ?_)
      · have hf := hf.1 hc
        refine lv_aload_n hx hb d_9_leg_22 rfl (lv_at hl 0 rfl) ?_
        refine gf_9_26 S hG hk_r0 d_9_leg_23 ?_
        refine gf_9_186 S hG (kr_9_2 hk_r0) d_9_leg_26 ?_
        refine lv_iload_n hx hb d_9_leg_29 rfl (lv_at hl 1 rfl) ?_
        refine mq4 S hG (kr_8_2 (kr_9_2 hk_r0)) hf.1 d_9_leg_30 ?_
        have hi_3 := vin_lt hf.1
        have hf := hf.2
        refine lv_topr (fun r3_4 er3_4 => ?_)
        have hf := hf r3_4 er3_4
        have hk_r3_4 : kd r3_4 = 1 := er3_4 ▸ (ke_24 (kr_8_2 (kr_9_2 hk_r0)) hi_3)
        refine lv_astore_n (lv' := [(3, .ref (ad r3_4)), (0, .ref (ad r0)), (1, .int x1), (2, .int x2)]) hx hb d_9_leg_31 rfl hl (by decide) rfl (fun ls hl => ?_)
        refine lv_iload_n hx hb d_9_leg_32 rfl (lv_at hl 3 rfl) ?_
        refine lv_if_ne (tgt := 41) hx hb d_9_leg_33 (by decide) (fun hc => ?_) (fun hc => ?_)
        · have hf := hf.1 hc
          refine lv_iload_n hx hb d_9_leg_41 rfl (lv_at hl 3 rfl) ?_
          refine lv_iconst (v := (1 : Int32)) hx hb d_9_leg_42 (by decide) ?_
          refine lv_icmp_ne (tgt := 51) hx hb d_9_leg_43 (by decide) (fun hc => ?_) (fun hc => ?_)
          · have hf := hf.1 hc
            refine lv_aload_n hx hb d_9_leg_51 rfl (lv_at hl 1 rfl) ?_
            refine gf_9_26 S hG hk_r0 d_9_leg_52 ?_
            refine gf_9_198 S hG (kr_9_2 hk_r0) d_9_leg_55 ?_
            refine lv_if_ne (tgt := 64) hx hb d_9_leg_58 (by decide) (fun hc => ?_) (fun hc => ?_)
            · have hf := hf.1 hc
              refine lv_iload_n hx hb d_9_leg_64 rfl (lv_at hl 3 rfl) ?_
              refine lv_iconst (v := (2 : Int32)) hx hb d_9_leg_65 (by decide) ?_
              refine lv_icmp_ne (tgt := 76) hx hb d_9_leg_66 (by decide) (fun hc => ?_) (fun hc => ?_)
              · have hf := hf.1 hc
                refine lv_aload_n hx hb d_9_leg_76 rfl (lv_at hl 0 rfl) ?_
                refine gf_9_205 S hG hk_r3_4 d_9_leg_77 ?_
                exact hR _ _ _ _ _ _ hG hf d_9_leg_80
              · have hf := hf.2 hc
                refine lv_aload_n hx hb d_9_leg_69 rfl (lv_at hl 0 rfl) ?_
                refine gf_9_202 S hG hk_r3_4 d_9_leg_70 ?_
                refine lv_goto (tgt := 80) hx hb d_9_leg_73 (by decide) ?_
                exact hR _ _ _ _ _ _ hG hf d_9_leg_80
            · have hf := hf.2 hc
              refine lv_bipush (v := (-2 : Int32)) hx hb d_9_leg_61 (by decide) ?_
              exact hR _ _ _ _ _ _ hG hf d_9_leg_63
          · have hf := hf.2 hc
            refine lv_aload_n hx hb d_9_leg_46 rfl (lv_at hl 0 rfl) ?_
            refine gf_9_195 S hG hk_r3_4 d_9_leg_47 ?_
            exact hR _ _ _ _ _ _ hG hf d_9_leg_50
        · have hf := hf.2 hc
          refine lv_aload_n hx hb d_9_leg_36 rfl (lv_at hl 0 rfl) ?_
          refine gf_9_190 S hG hk_r3_4 d_9_leg_37 ?_
          exact hR _ _ _ _ _ _ hG hf d_9_leg_40
      · have hf := hf.2 hc
        refine lv_iconst (v := (-1 : Int32)) hx hb d_9_leg_20 (by decide) ?_
        exact hR _ _ _ _ _ _ hG hf d_9_leg_21
theorem c_9_leg (l : Launch) {D : va_G} {ac : Nat → ClassId} {ad : Nat → Nat} {st : SS} {A : Nat → Prop} {σ : St} {r0 : Nat} {x1 : Int32} {x2 : Int32} {Q : Int32 → St → Prop} (hk_r0 : kd r0 = 9) (hf : m_9_leg r0 x1 x2 Q σ) : Met l y_9_leg (Cond.code y_9_leg prog_1_method_15_code 4 (some .int) :: wA) { frames := 1, cells := 0, slots := 0, locals := 21 } (va_Pc [.ref (ad r0), .int x1, .int x2] (GSt A D ac ad st σ)) (va_Qi Q (GSt A D ac ad st) A) 0 0 A :=
  mkI l (by decide +kernel) rfl [.ref (ad r0), .int x1, .int x2] (Nat.le_of_ble_eq_true rfl) (fun p e s m args below meth c ls QW S hR hG hl => w_9_leg_0 S hR hk_r0 hG hl hf)
set_option maxHeartbeats 4000000 in
set_option maxRecDepth 100000 in
theorem w_4_clear_0 {r0 : Nat} {Q : St → Prop} {σ : St} {H : Heap} {locs : List Loc} {ls : Array Slot} (S : SC A D ac st p m c prog_6_method_2_code 1 s args "SweeperRounds$Report" R cells slots 0 0) (hR : RtV A D ac ad p l e R s m args below meth c prog_6_method_2_code cells slots QW Q) (hk_r0 : kd r0 = 4) (hG : DG A D ac ad s σ H locs) (hl : lv_has ls 1 [(0, .ref (ad r0))]) (hf : m_4_clear r0 Q σ) : W p l e R s m args below meth c H locs cells slots QW (F0 m 0 ls []) := by
  have hx := S.1.1
  have hb := S.1.2.1
  unfold m_4_clear at hf
  refine lv_aload_n hx hb d_4_clear_0 rfl (lv_at hl 0 rfl) ?_
  refine lv_iconst (v := (0 : Int32)) hx hb d_4_clear_1 (by decide) ?_
  refine pf_4_9 S hG hk_r0 d_4_clear_2 (fun σ_1 eσ_1 H locs hG => ?_)
  have hf := hf σ_1 eσ_1
  refine lv_aload_n hx hb d_4_clear_5 rfl (lv_at hl 0 rfl) ?_
  refine lv_iconst (v := (0 : Int32)) hx hb d_4_clear_6 (by decide) ?_
  refine pf_4_15 S hG hk_r0 d_4_clear_7 (fun σ_2 eσ_2 H locs hG => ?_)
  have hf := hf σ_2 eσ_2
  refine lv_aload_n hx hb d_4_clear_10 rfl (lv_at hl 0 rfl) ?_
  refine lv_iconst (v := (0 : Int32)) hx hb d_4_clear_11 (by decide) ?_
  refine pf_4_18 S hG hk_r0 d_4_clear_12 (fun σ_3 eσ_3 H locs hG => ?_)
  have hf := hf σ_3 eσ_3
  refine lv_aload_n hx hb d_4_clear_15 rfl (lv_at hl 0 rfl) ?_
  refine lv_iconst (v := (0 : Int32)) hx hb d_4_clear_16 (by decide) ?_
  refine pf_4_21 S hG hk_r0 d_4_clear_17 (fun σ_4 eσ_4 H locs hG => ?_)
  have hf := hf σ_4 eσ_4
  refine lv_aload_n hx hb d_4_clear_20 rfl (lv_at hl 0 rfl) ?_
  refine lv_iconst (v := (0 : Int32)) hx hb d_4_clear_21 (by decide) ?_
  refine pf_4_24 S hG hk_r0 d_4_clear_22 (fun σ_5 eσ_5 H locs hG => ?_)
  have hf := hf σ_5 eσ_5
  refine lv_aload_n hx hb d_4_clear_25 rfl (lv_at hl 0 rfl) ?_
  refine lv_iconst (v := (0 : Int32)) hx hb d_4_clear_26 (by decide) ?_
  refine pf_4_27 S hG hk_r0 d_4_clear_27 (fun σ_6 eσ_6 H locs hG => ?_)
  have hf := hf σ_6 eσ_6
  exact hR _ _ _ _ _ hG hf d_4_clear_30
theorem c_4_clear (l : Launch) {D : va_G} {ac : Nat → ClassId} {ad : Nat → Nat} {st : SS} {A : Nat → Prop} {σ : St} {r0 : Nat} {Q : St → Prop} (hk_r0 : kd r0 = 4) (hf : m_4_clear r0 Q σ) : Met l y_4_clear (Cond.code y_4_clear prog_6_method_2_code 1 none :: wA) { frames := 0, cells := 0, slots := 0, locals := 0 } (va_Pc [.ref (ad r0)] (GSt A D ac ad st σ)) (va_Qv Q (GSt A D ac ad st) A) 0 0 A :=
  mkV l (by decide +kernel) rfl [.ref (ad r0)] (Nat.le_of_ble_eq_true rfl) (fun p e s m args below meth c ls QW S hR hG hl => w_4_clear_0 S hR hk_r0 hG hl hf)
set_option maxHeartbeats 4000000 in
set_option maxRecDepth 100000 in
theorem w_5_driveTo_0 {r0 : Nat} {x1 : Int32} {Q : Int32 → St → Prop} {σ : St} {H : Heap} {locs : List Loc} {ls : Array Slot} (S : SC A D ac st p m c prog_7_method_4_code 4 s args "SweeperRounds$Round" R cells slots 1 13) (hR : RtI A D ac ad p l e R s m args below meth c prog_7_method_4_code cells slots QW Q) (hk_r0 : kd r0 = 5) (hG : DG A D ac ad s σ H locs) (hl : lv_has ls 4 [(0, .ref (ad r0)), (1, .int x1)]) (hf : m_5_driveTo r0 x1 Q σ) : W p l e R s m args below meth c H locs cells slots QW (F0 m 0 ls []) := by
  have hx := S.1.1
  have hb := S.1.2.1
  unfold m_5_driveTo at hf
  refine lv_aload_n hx hb d_5_driveTo_0 rfl (lv_at hl 0 rfl) ?_
  refine gf_5_9 S hG hk_r0 d_5_driveTo_1 ?_
  refine gf_5_48 S hG (kr_5_0 hk_r0) d_5_driveTo_4 ?_
  refine lv_iload_n hx hb d_5_driveTo_7 rfl (lv_at hl 1 rfl) ?_
  refine mq3 S hG (kr_8_0 (kr_5_0 hk_r0)) hf.1 d_5_driveTo_8 ?_
  have hi_1 := vin_lt hf.1
  have hf := hf.2
  refine gf_5_92 S hG (ke_23 (kr_8_0 (kr_5_0 hk_r0)) hi_1) d_5_driveTo_9 ?_
  refine lv_topi (fun x2_2 ex2_2 => ?_)
  have hf := hf x2_2 ex2_2
  refine lv_istore_n (lv' := [(2, .int x2_2), (0, .ref (ad r0)), (1, .int x1)]) hx hb d_5_driveTo_12 rfl hl (by decide) rfl (fun ls hl => ?_)
  refine lv_aload_n hx hb d_5_driveTo_13 rfl (lv_at hl 1 rfl) ?_
  refine gf_5_26 S hG hk_r0 d_5_driveTo_14 ?_
  refine lv_iconst (v := (-1 : Int32)) hx hb d_5_driveTo_17 (by decide) ?_
  refine lv_icmp_ne (tgt := 26) hx hb d_5_driveTo_18 (by decide) (fun hc => ?_) (fun hc => ?_)
  · have hf := hf.1 hc
    refine lv_aload_n hx hb d_5_driveTo_26 rfl (lv_at hl 1 rfl) ?_
    refine gf_5_26 S hG hk_r0 d_5_driveTo_27 ?_
    refine lv_iload_n hx hb d_5_driveTo_30 rfl (lv_at hl 2 rfl) ?_
    refine lv_icmp_ne (tgt := 36) hx hb d_5_driveTo_31 (by decide) (fun hc => ?_) (fun hc => ?_)
    · have hf := hf.1 hc
      refine lv_iload_n hx hb d_5_driveTo_36 rfl (lv_at hl 0 rfl) ?_
      refine lv_aload_n hx hb d_5_driveTo_37 rfl (lv_at hl 1 rfl) ?_
      refine gf_5_9 S hG hk_r0 d_5_driveTo_38 ?_
      refine gf_5_48 S hG (kr_5_0 hk_r0) d_5_driveTo_41 ?_
      refine lv_aload_n hx hb d_5_driveTo_44 rfl (lv_at hl 1 rfl) ?_
      refine gf_5_26 S hG hk_r0 d_5_driveTo_45 ?_
      refine mq3 S hG (kr_8_0 (kr_5_0 hk_r0)) hf.1 d_5_driveTo_48 ?_
      have hi_3 := vin_lt hf.1
      have hf := hf.2
      refine gf_5_92 S hG (ke_23 (kr_8_0 (kr_5_0 hk_r0)) hi_3) d_5_driveTo_49 ?_
      refine lv_isub hx hb d_5_driveTo_52 ?_
      refine mab S hl.1 wm_536 wm_537 wm_20 wm_538 (by decide) (Nat.le_of_ble_eq_true rfl) d_5_driveTo_53 ?_
      refine lv_topi (fun x3_4 ex3_4 => ?_)
      have hf := hf x3_4 ex3_4
      refine lv_istore_n (lv' := [(3, .int x3_4), (2, .int x2_2), (0, .ref (ad r0)), (1, .int x1)]) hx hb d_5_driveTo_56 rfl hl (by decide) rfl (fun ls hl => ?_)
      refine lv_bipush (v := (10 : Int32)) hx hb d_5_driveTo_57 (by decide) ?_
      refine lv_iload_n hx hb d_5_driveTo_59 rfl (lv_at hl 0 rfl) ?_
      refine lv_imul hx hb d_5_driveTo_60 ?_
      refine lv_bipush (v := (50 : Int32)) hx hb d_5_driveTo_61 (by decide) ?_
      refine lv_iadd hx hb d_5_driveTo_63 ?_
      exact hR _ _ _ _ _ _ hG hf d_5_driveTo_64
    · have hf := hf.2 hc
      refine lv_iconst (v := (0 : Int32)) hx hb d_5_driveTo_34 (by decide) ?_
      exact hR _ _ _ _ _ _ hG hf d_5_driveTo_35
  · have hf := hf.2 hc
    refine lv_bipush (v := (10 : Int32)) hx hb d_5_driveTo_21 (by decide) ?_
    refine lv_iload_n hx hb d_5_driveTo_23 rfl (lv_at hl 0 rfl) ?_
    refine lv_imul hx hb d_5_driveTo_24 ?_
    exact hR _ _ _ _ _ _ hG hf d_5_driveTo_25
theorem c_5_driveTo (l : Launch) {D : va_G} {ac : Nat → ClassId} {ad : Nat → Nat} {st : SS} {A : Nat → Prop} {σ : St} {r0 : Nat} {x1 : Int32} {Q : Int32 → St → Prop} (hk_r0 : kd r0 = 5) (hf : m_5_driveTo r0 x1 Q σ) : Met l y_5_driveTo (Cond.code y_5_driveTo prog_7_method_4_code 4 (some .int) :: wA) { frames := 1, cells := 0, slots := 0, locals := 13 } (va_Pc [.ref (ad r0), .int x1] (GSt A D ac ad st σ)) (va_Qi Q (GSt A D ac ad st) A) 0 0 A :=
  mkI l (by decide +kernel) rfl [.ref (ad r0), .int x1] (Nat.le_of_ble_eq_true rfl) (fun p e s m args below meth c ls QW S hR hG hl => w_5_driveTo_0 S hR hk_r0 hG hl hf)
set_option maxHeartbeats 4000000 in
set_option maxRecDepth 100000 in
theorem w_6_driveToDump_0 {r0 : Nat} {Q : Int32 → St → Prop} {σ : St} {H : Heap} {locs : List Loc} {ls : Array Slot} (S : SC A D ac st p m c prog_8_method_11_code 1 s args "SweeperRounds$Street" R cells slots 0 0) (hR : RtI A D ac ad p l e R s m args below meth c prog_8_method_11_code cells slots QW Q) (hk_r0 : kd r0 = 6) (hG : DG A D ac ad s σ H locs) (hl : lv_has ls 1 [(0, .ref (ad r0))]) (hf : m_6_driveToDump r0 Q σ) : W p l e R s m args below meth c H locs cells slots QW (F0 m 0 ls []) := by
  have hx := S.1.1
  have hb := S.1.2.1
  unfold m_6_driveToDump at hf
  refine lv_bipush (v := (10 : Int32)) hx hb d_6_driveToDump_0 (by decide) ?_
  refine lv_aload_n hx hb d_6_driveToDump_2 rfl (lv_at hl 0 rfl) ?_
  refine gf_6_23 S hG hk_r0 d_6_driveToDump_3 ?_
  refine lv_imul hx hb d_6_driveToDump_6 ?_
  exact hR _ _ _ _ _ _ hG hf d_6_driveToDump_7
theorem c_6_driveToDump (l : Launch) {D : va_G} {ac : Nat → ClassId} {ad : Nat → Nat} {st : SS} {A : Nat → Prop} {σ : St} {r0 : Nat} {Q : Int32 → St → Prop} (hk_r0 : kd r0 = 6) (hf : m_6_driveToDump r0 Q σ) : Met l y_6_driveToDump (Cond.code y_6_driveToDump prog_8_method_11_code 1 (some .int) :: wA) { frames := 0, cells := 0, slots := 0, locals := 0 } (va_Pc [.ref (ad r0)] (GSt A D ac ad st σ)) (va_Qi Q (GSt A D ac ad st) A) 0 0 A :=
  mkI l (by decide +kernel) rfl [.ref (ad r0)] (Nat.le_of_ble_eq_true rfl) (fun p e s m args below meth c ls QW S hR hG hl => w_6_driveToDump_0 S hR hk_r0 hG hl hf)
set_option maxHeartbeats 4000000 in
set_option maxRecDepth 100000 in
theorem w_5_fits_0 {r0 : Nat} {x1 : Int32} {r2 : Nat} {Q : Int32 → St → Prop} {σ : St} {H : Heap} {locs : List Loc} {ls : Array Slot} (S : SC A D ac st p m c prog_7_method_5_code 3 s args "SweeperRounds$Round" R cells slots 1 20) (hR : RtZ A D ac ad p l e R s m args below meth c prog_7_method_5_code cells slots QW Q) (hk_r0 : kd r0 = 5) (hk_r2 : kd r2 = 6) (hG : DG A D ac ad s σ H locs) (hl : lv_has ls 3 [(0, .ref (ad r0)), (1, .int x1), (2, .ref (ad r2))]) (hf : m_5_fits r0 x1 r2 Q σ) : W p l e R s m args below meth c H locs cells slots QW (F0 m 0 ls []) := by
  have hx := S.1.1
  have hb := S.1.2.1
  unfold m_5_fits at hf
  refine lv_aload_n hx hb d_5_fits_0 rfl (lv_at hl 0 rfl) ?_
  refine gf_5_9 S hG hk_r0 d_5_fits_1 ?_
  refine gf_5_15 S hG (kr_5_0 hk_r0) d_5_fits_4 ?_
  refine gf_5_89 S hG (kr_8_9 (kr_5_0 hk_r0)) d_5_fits_7 ?_
  refine lv_iload_n hx hb d_5_fits_10 rfl (lv_at hl 1 rfl) ?_
  refine lv_iadd hx hb d_5_fits_11 ?_
  refine lv_aload_n hx hb d_5_fits_12 rfl (lv_at hl 2 rfl) ?_
  refine iv_5_100 S hl.1 hG hk_r2 (c_6_driveToDump l hk_r2 hf) ⟨Nat.le_of_ble_eq_true rfl, Nat.le_of_ble_eq_true rfl⟩ (Nat.le_of_ble_eq_true rfl) d_5_fits_13 (fun v_2 σ_1 hf H locs hG => ?_)
  refine lv_iadd hx hb d_5_fits_16 ?_
  refine lv_aload_n hx hb d_5_fits_17 rfl (lv_at hl 0 rfl) ?_
  refine gf_5_9 S hG hk_r0 d_5_fits_18 ?_
  refine gf_5_104 S hG (kr_5_0 hk_r0) d_5_fits_21 ?_
  refine lv_iconst (v := (3 : Int32)) hx hb d_5_fits_24 (by decide) ?_
  refine mia S hG 26 rfl rfl (kr_8_5 (kr_5_0 hk_r0)) hf.1 d_5_fits_25 ?_
  have hf := hf.2
  refine lv_icmp_gt (tgt := 33) hx hb d_5_fits_26 (by decide) (fun hc => ?_) (fun hc => ?_)
  · have hf := hf.1 hc
    refine lv_iconst (v := (0 : Int32)) hx hb d_5_fits_33 (by decide) ?_
    exact hR _ _ _ _ _ _ hG (by unfold isB; decide) hf d_5_fits_34
  · have hf := hf.2 hc
    refine lv_iconst (v := (1 : Int32)) hx hb d_5_fits_29 (by decide) ?_
    refine lv_goto (tgt := 34) hx hb d_5_fits_30 (by decide) ?_
    exact hR _ _ _ _ _ _ hG (by unfold isB; decide) hf d_5_fits_34
theorem c_5_fits (l : Launch) {D : va_G} {ac : Nat → ClassId} {ad : Nat → Nat} {st : SS} {A : Nat → Prop} {σ : St} {r0 : Nat} {x1 : Int32} {r2 : Nat} {Q : Int32 → St → Prop} (hk_r0 : kd r0 = 5) (hk_r2 : kd r2 = 6) (hf : m_5_fits r0 x1 r2 Q σ) : Met l y_5_fits (Cond.code y_5_fits prog_7_method_5_code 3 (some .boolean) :: wA) { frames := 1, cells := 0, slots := 0, locals := 20 } (va_Pc [.ref (ad r0), .int x1, .ref (ad r2)] (GSt A D ac ad st σ)) (va_Qi Q (GSt A D ac ad st) A) 0 0 A :=
  mkZ l (by decide +kernel) rfl [.ref (ad r0), .int x1, .ref (ad r2)] (Nat.le_of_ble_eq_true rfl) (fun p e s m args below meth c ls QW S hR hG hl => w_5_fits_0 S hR hk_r0 hk_r2 hG hl hf)
set_option maxHeartbeats 4000000 in
set_option maxRecDepth 100000 in
theorem w_5_driveToLeg_0 {r0 : Nat} {r1 : Nat} {r2 : Nat} {Q : Int32 → St → Prop} {σ : St} {H : Heap} {locs : List Loc} {ls : Array Slot} (S : SC A D ac st p m c prog_7_method_3_code 4 s args "SweeperRounds$Round" R cells slots 2 42) (hR : RtI A D ac ad p l e R s m args below meth c prog_7_method_3_code cells slots QW Q) (hk_r0 : kd r0 = 5) (hk_r1 : kd r1 = 1) (hk_r2 : kd r2 = 6) (hG : DG A D ac ad s σ H locs) (hl : lv_has ls 4 [(0, .ref (ad r0)), (1, .ref (ad r1)), (2, .ref (ad r2))]) (hf : m_5_driveToLeg r0 r1 r2 Q σ) : W p l e R s m args below meth c H locs cells slots QW (F0 m 0 ls []) := by
  have hx := S.1.1
  have hb := S.1.2.1
  unfold m_5_driveToLeg at hf
  refine lv_aload_n hx hb d_5_driveToLeg_0 rfl (lv_at hl 0 rfl) ?_
  refine lv_aload_n hx hb d_5_driveToLeg_1 rfl (lv_at hl 1 rfl) ?_
  refine gf_5_52 S hG hk_r1 d_5_driveToLeg_2 ?_
  refine iv_5_81 S hl.1 hG hk_r0 (c_5_driveTo l hk_r0 hf) ⟨Nat.le_of_ble_eq_true rfl, Nat.le_of_ble_eq_true rfl⟩ (Nat.le_of_ble_eq_true rfl) d_5_driveToLeg_5 (fun v_2 σ_1 hf H locs hG => ?_)
  refine lv_istore_n (lv' := [(3, .int v_2), (0, .ref (ad r0)), (1, .ref (ad r1)), (2, .ref (ad r2))]) hx hb d_5_driveToLeg_8 rfl hl (by decide) rfl (fun ls hl => ?_)
  refine lv_aload_n hx hb d_5_driveToLeg_9 rfl (lv_at hl 1 rfl) ?_
  refine lv_iload_n hx hb d_5_driveToLeg_10 rfl (lv_at hl 0 rfl) ?_
  refine lv_aload_n hx hb d_5_driveToLeg_11 rfl (lv_at hl 3 rfl) ?_
  refine iv_5_85 S hl.1 hG hk_r0 (c_5_fits l hk_r0 hk_r2 hf) ⟨Nat.le_of_ble_eq_true rfl, Nat.le_of_ble_eq_true rfl⟩ (Nat.le_of_ble_eq_true rfl) d_5_driveToLeg_12 (fun v_4 σ_3 hf H locs hG => ?_)
  refine lv_if_ne (tgt := 20) hx hb d_5_driveToLeg_15 (by decide) (fun hc => ?_) (fun hc => ?_)
  · have hf := hf.1 hc
    refine lv_aload_n hx hb d_5_driveToLeg_20 rfl (lv_at hl 1 rfl) ?_
    refine gf_5_9 S hG hk_r0 d_5_driveToLeg_21 ?_
    refine gf_5_15 S hG (kr_5_0 hk_r0) d_5_driveToLeg_24 ?_
    refine lv_dup hx hb d_5_driveToLeg_27 rfl ?_
    refine gf_5_89 S hG (kr_8_9 (kr_5_0 hk_r0)) d_5_driveToLeg_28 ?_
    refine lv_iload_n hx hb d_5_driveToLeg_31 rfl (lv_at hl 0 rfl) ?_
    refine lv_iadd hx hb d_5_driveToLeg_32 ?_
    refine pf_5_89 S hG (kr_8_9 (kr_5_0 hk_r0)) d_5_driveToLeg_33 (fun σ_5 eσ_5 H locs hG => ?_)
    have hf := hf σ_5 eσ_5
    refine lv_aload_n hx hb d_5_driveToLeg_36 rfl (lv_at hl 1 rfl) ?_
    refine lv_aload_n hx hb d_5_driveToLeg_37 rfl (lv_at hl 2 rfl) ?_
    refine gf_5_52 S hG hk_r1 d_5_driveToLeg_38 ?_
    refine pf_5_26 S hG hk_r0 d_5_driveToLeg_41 (fun σ_6 eσ_6 H locs hG => ?_)
    have hf := hf σ_6 eσ_6
    refine lv_iconst (v := (0 : Int32)) hx hb d_5_driveToLeg_44 (by decide) ?_
    exact hR _ _ _ _ _ _ hG hf d_5_driveToLeg_45
  · have hf := hf.2 hc
    refine lv_iconst (v := (1 : Int32)) hx hb d_5_driveToLeg_18 (by decide) ?_
    exact hR _ _ _ _ _ _ hG hf d_5_driveToLeg_19
theorem c_5_driveToLeg (l : Launch) {D : va_G} {ac : Nat → ClassId} {ad : Nat → Nat} {st : SS} {A : Nat → Prop} {σ : St} {r0 : Nat} {r1 : Nat} {r2 : Nat} {Q : Int32 → St → Prop} (hk_r0 : kd r0 = 5) (hk_r1 : kd r1 = 1) (hk_r2 : kd r2 = 6) (hf : m_5_driveToLeg r0 r1 r2 Q σ) : Met l y_5_driveToLeg (Cond.code y_5_driveToLeg prog_7_method_3_code 4 (some .int) :: wA) { frames := 2, cells := 0, slots := 0, locals := 42 } (va_Pc [.ref (ad r0), .ref (ad r1), .ref (ad r2)] (GSt A D ac ad st σ)) (va_Qi Q (GSt A D ac ad st) A) 0 0 A :=
  mkI l (by decide +kernel) rfl [.ref (ad r0), .ref (ad r1), .ref (ad r2)] (Nat.le_of_ble_eq_true rfl) (fun p e s m args below meth c ls QW S hR hG hl => w_5_driveToLeg_0 S hR hk_r0 hk_r1 hk_r2 hG hl hf)
set_option maxHeartbeats 4000000 in
set_option maxRecDepth 100000 in
theorem w_5_unitsForCell_0 {r0 : Nat} {Q : Int32 → St → Prop} {σ : St} {H : Heap} {locs : List Loc} {ls : Array Slot} (S : SC A D ac st p m c prog_7_method_7_code 1 s args "SweeperRounds$Round" R cells slots 1 14) (hR : RtI A D ac ad p l e R s m args below meth c prog_7_method_7_code cells slots QW Q) (hk_r0 : kd r0 = 5) (hG : DG A D ac ad s σ H locs) (hl : lv_has ls 1 [(0, .ref (ad r0))]) (hf : m_5_unitsForCell r0 Q σ) : W p l e R s m args below meth c H locs cells slots QW (F0 m 0 ls []) := by
  have hx := S.1.1
  have hb := S.1.2.1
  unfold m_5_unitsForCell at hf
  refine lv_bipush (v := (12 : Int32)) hx hb d_5_unitsForCell_0 (by decide) ?_
  refine lv_iconst (v := (1 : Int32)) hx hb d_5_unitsForCell_2 (by decide) ?_
  refine lv_aload_n hx hb d_5_unitsForCell_3 rfl (lv_at hl 0 rfl) ?_
  refine gf_5_9 S hG hk_r0 d_5_unitsForCell_4 ?_
  refine gf_5_104 S hG (kr_5_0 hk_r0) d_5_unitsForCell_7 ?_
  refine lv_iconst (v := (0 : Int32)) hx hb d_5_unitsForCell_10 (by decide) ?_
  refine mia S hG 26 rfl rfl (kr_8_5 (kr_5_0 hk_r0)) hf.1 d_5_unitsForCell_11 ?_
  have hf := hf.2
  refine mmx S hl.1 wm_556 wm_355 wm_20 wm_356 (by decide) (Nat.le_of_ble_eq_true rfl) d_5_unitsForCell_12 ?_
  refine lv_idiv hx hb d_5_unitsForCell_15 hf.1 ?_
  have hf := hf.2
  exact hR _ _ _ _ _ _ hG hf d_5_unitsForCell_16
theorem c_5_unitsForCell (l : Launch) {D : va_G} {ac : Nat → ClassId} {ad : Nat → Nat} {st : SS} {A : Nat → Prop} {σ : St} {r0 : Nat} {Q : Int32 → St → Prop} (hk_r0 : kd r0 = 5) (hf : m_5_unitsForCell r0 Q σ) : Met l y_5_unitsForCell (Cond.code y_5_unitsForCell prog_7_method_7_code 1 (some .int) :: wA) { frames := 1, cells := 0, slots := 0, locals := 14 } (va_Pc [.ref (ad r0)] (GSt A D ac ad st σ)) (va_Qi Q (GSt A D ac ad st) A) 0 0 A :=
  mkI l (by decide +kernel) rfl [.ref (ad r0)] (Nat.le_of_ble_eq_true rfl) (fun p e s m args below meth c ls QW S hR hG hl => w_5_unitsForCell_0 S hR hk_r0 hG hl hf)
set_option maxHeartbeats 4000000 in
set_option maxRecDepth 100000 in
theorem w_5_sweepOnce_0 {r0 : Nat} {r1 : Nat} {r2 : Nat} {x3 : Int32} {Q : Int32 → St → Prop} {σ : St} {H : Heap} {locs : List Loc} {ls : Array Slot} (S : SC A D ac st p m c prog_7_method_8_code 7 s args "SweeperRounds$Round" R cells slots 1 22) (hR : RtZ A D ac ad p l e R s m args below meth c prog_7_method_8_code cells slots QW Q) (hk_r0 : kd r0 = 5) (hk_r1 : kd r1 = 1) (hk_r2 : kd r2 = 6) (hG : DG A D ac ad s σ H locs) (hl : lv_has ls 7 [(0, .ref (ad r0)), (1, .ref (ad r1)), (2, .ref (ad r2)), (3, .int x3)]) (hf : m_5_sweepOnce r0 r1 r2 x3 Q σ) : W p l e R s m args below meth c H locs cells slots QW (F0 m 0 ls []) := by
  have hx := S.1.1
  have hb := S.1.2.1
  unfold m_5_sweepOnce at hf
  refine lv_aload_n hx hb d_5_sweepOnce_0 rfl (lv_at hl 2 rfl) ?_
  refine lv_iload_n hx hb d_5_sweepOnce_1 rfl (lv_at hl 3 rfl) ?_
  refine lv_aload_n hx hb d_5_sweepOnce_2 rfl (lv_at hl 0 rfl) ?_
  refine gf_5_9 S hG hk_r0 d_5_sweepOnce_3 ?_
  refine iv_5_128 S hl.1 hG (kr_5_0 hk_r0) (c_8_grip l (kr_5_0 hk_r0) hf) ⟨Nat.le_of_ble_eq_true rfl, Nat.le_of_ble_eq_true rfl⟩ (Nat.le_of_ble_eq_true rfl) d_5_sweepOnce_6 (fun v_2 σ_1 hf H locs hG => ?_)
  refine iv_5_131 S hl.1 hG hk_r2 (c_6_couldGive l hk_r2 hf) ⟨Nat.le_of_ble_eq_true rfl, Nat.le_of_ble_eq_true rfl⟩ (Nat.le_of_ble_eq_true rfl) d_5_sweepOnce_9 (fun v_4 σ_3 hf H locs hG => ?_)
  refine lv_istore (lv' := [(4, .int v_4), (0, .ref (ad r0)), (1, .ref (ad r1)), (2, .ref (ad r2)), (3, .int x3)]) hx hb d_5_sweepOnce_12 hl (by decide) rfl (fun ls hl => ?_)
  refine lv_iload hx hb d_5_sweepOnce_14 (lv_at hl 0 rfl) ?_
  refine lv_aload_n hx hb d_5_sweepOnce_16 rfl (lv_at hl 1 rfl) ?_
  refine gf_5_9 S hG hk_r0 d_5_sweepOnce_17 ?_
  refine iv_5_116 S hl.1 hG (kr_5_0 hk_r0) (c_8_room l (kr_5_0 hk_r0) hf) ⟨Nat.le_of_ble_eq_true rfl, Nat.le_of_ble_eq_true rfl⟩ (Nat.le_of_ble_eq_true rfl) d_5_sweepOnce_20 (fun v_6 σ_5 hf H locs hG => ?_)
  refine mmn S hl.1 wm_565 wm_345 wm_20 wm_346 (by decide) (Nat.le_of_ble_eq_true rfl) d_5_sweepOnce_23 ?_
  refine lv_topi (fun x5_7 ex5_7 => ?_)
  have hf := hf x5_7 ex5_7
  refine lv_istore (lv' := [(5, .int x5_7), (4, .int v_4), (0, .ref (ad r0)), (1, .ref (ad r1)), (2, .ref (ad r2)), (3, .int x3)]) hx hb d_5_sweepOnce_26 hl (by decide) rfl (fun ls hl => ?_)
  refine lv_aload_n hx hb d_5_sweepOnce_28 rfl (lv_at hl 4 rfl) ?_
  refine gf_5_137 S hG hk_r2 d_5_sweepOnce_29 ?_
  refine lv_iload_n hx hb d_5_sweepOnce_32 rfl (lv_at hl 5 rfl) ?_
  refine lv_dup2_11 hx hb d_5_sweepOnce_33 rfl rfl ?_
  refine mia S hG 20 rfl rfl (kr_6_3 hk_r2) hf.1 d_5_sweepOnce_34 ?_
  have hf := hf.2
  refine lv_iload hx hb d_5_sweepOnce_35 (lv_at hl 0 rfl) ?_
  refine lv_isub hx hb d_5_sweepOnce_37 ?_
  refine mis S hG 20 rfl rfl (kr_6_3 hk_r2) hf.1 d_5_sweepOnce_38 (fun σ_8 eσ_8 H locs hG => ?_)
  have hf := hf.2 σ_8 eσ_8
  refine lv_aload_n hx hb d_5_sweepOnce_39 rfl (lv_at hl 2 rfl) ?_
  refine gf_5_9 S hG hk_r0 d_5_sweepOnce_40 ?_
  refine lv_dup hx hb d_5_sweepOnce_43 rfl ?_
  refine gf_5_140 S hG (kr_5_0 hk_r0) d_5_sweepOnce_44 ?_
  refine lv_iload hx hb d_5_sweepOnce_47 (lv_at hl 0 rfl) ?_
  refine lv_iadd hx hb d_5_sweepOnce_49 ?_
  refine pf_5_140 S hG (kr_5_0 hk_r0) d_5_sweepOnce_50 (fun σ_9 eσ_9 H locs hG => ?_)
  have hf := hf σ_9 eσ_9
  refine lv_aload_n hx hb d_5_sweepOnce_53 rfl (lv_at hl 3 rfl) ?_
  refine lv_dup hx hb d_5_sweepOnce_54 rfl ?_
  refine gf_5_42 S hG hk_r1 d_5_sweepOnce_55 ?_
  refine lv_iload hx hb d_5_sweepOnce_58 (lv_at hl 0 rfl) ?_
  refine lv_iadd hx hb d_5_sweepOnce_60 ?_
  refine pf_5_42 S hG hk_r1 d_5_sweepOnce_61 (fun σ_10 eσ_10 H locs hG => ?_)
  have hf := hf σ_10 eσ_10
  refine lv_aload_n hx hb d_5_sweepOnce_64 rfl (lv_at hl 2 rfl) ?_
  refine gf_5_9 S hG hk_r0 d_5_sweepOnce_65 ?_
  refine gf_5_15 S hG (kr_5_0 hk_r0) d_5_sweepOnce_68 ?_
  refine lv_dup hx hb d_5_sweepOnce_71 rfl ?_
  refine gf_5_143 S hG (kr_8_9 (kr_5_0 hk_r0)) d_5_sweepOnce_72 ?_
  refine lv_iload hx hb d_5_sweepOnce_75 (lv_at hl 0 rfl) ?_
  refine lv_iadd hx hb d_5_sweepOnce_77 ?_
  refine pf_5_143 S hG (kr_8_9 (kr_5_0 hk_r0)) d_5_sweepOnce_78 (fun σ_11 eσ_11 H locs hG => ?_)
  have hf := hf σ_11 eσ_11
  refine lv_aload_n hx hb d_5_sweepOnce_81 rfl (lv_at hl 2 rfl) ?_
  refine gf_5_9 S hG hk_r0 d_5_sweepOnce_82 ?_
  refine gf_5_144 S hG (kr_5_0 hk_r0) d_5_sweepOnce_85 ?_
  refine lv_iconst (v := (1 : Int32)) hx hb d_5_sweepOnce_88 (by decide) ?_
  refine lv_iload hx hb d_5_sweepOnce_89 (lv_at hl 0 rfl) ?_
  refine lv_aload_n hx hb d_5_sweepOnce_91 rfl (lv_at hl 2 rfl) ?_
  refine gf_5_9 S hG hk_r0 d_5_sweepOnce_92 ?_
  refine gf_5_104 S hG (kr_5_0 hk_r0) d_5_sweepOnce_95 ?_
  refine lv_iconst (v := (0 : Int32)) hx hb d_5_sweepOnce_98 (by decide) ?_
  refine mia S hG 26 rfl rfl (kr_8_5 (kr_5_0 hk_r0)) hf.1 d_5_sweepOnce_99 ?_
  have hf := hf.2
  refine lv_imul hx hb d_5_sweepOnce_100 ?_
  refine lv_bipush (v := (20 : Int32)) hx hb d_5_sweepOnce_101 (by decide) ?_
  refine lv_idiv hx hb d_5_sweepOnce_103 (by decide) ?_
  refine lv_iadd hx hb d_5_sweepOnce_104 ?_
  refine mmn S hl.1 wm_565 wm_345 wm_20 wm_346 (by decide) (Nat.le_of_ble_eq_true rfl) d_5_sweepOnce_105 ?_
  refine lv_topi (fun x6_12 ex6_12 => ?_)
  have hf := hf x6_12 ex6_12
  refine lv_istore (lv' := [(6, .int x6_12), (5, .int x5_7), (4, .int v_4), (0, .ref (ad r0)), (1, .ref (ad r1)), (2, .ref (ad r2)), (3, .int x3)]) hx hb d_5_sweepOnce_108 hl (by decide) rfl (fun ls hl => ?_)
  refine lv_aload_n hx hb d_5_sweepOnce_110 rfl (lv_at hl 3 rfl) ?_
  refine gf_5_9 S hG hk_r0 d_5_sweepOnce_111 ?_
  refine lv_dup hx hb d_5_sweepOnce_114 rfl ?_
  refine gf_5_144 S hG (kr_5_0 hk_r0) d_5_sweepOnce_115 ?_
  refine lv_iload hx hb d_5_sweepOnce_118 (lv_at hl 0 rfl) ?_
  refine lv_isub hx hb d_5_sweepOnce_120 ?_
  refine pf_5_144 S hG (kr_5_0 hk_r0) d_5_sweepOnce_121 (fun σ_13 eσ_13 H locs hG => ?_)
  have hf := hf σ_13 eσ_13
  refine lv_aload_n hx hb d_5_sweepOnce_124 rfl (lv_at hl 3 rfl) ?_
  refine gf_5_9 S hG hk_r0 d_5_sweepOnce_125 ?_
  refine gf_5_15 S hG (kr_5_0 hk_r0) d_5_sweepOnce_128 ?_
  refine lv_dup hx hb d_5_sweepOnce_131 rfl ?_
  refine gf_5_147 S hG (kr_8_9 (kr_5_0 hk_r0)) d_5_sweepOnce_132 ?_
  refine lv_iload hx hb d_5_sweepOnce_135 (lv_at hl 0 rfl) ?_
  refine lv_iadd hx hb d_5_sweepOnce_137 ?_
  refine pf_5_147 S hG (kr_8_9 (kr_5_0 hk_r0)) d_5_sweepOnce_138 (fun σ_14 eσ_14 H locs hG => ?_)
  have hf := hf σ_14 eσ_14
  refine lv_iload hx hb d_5_sweepOnce_141 (lv_at hl 2 rfl) ?_
  refine lv_iload hx hb d_5_sweepOnce_143 (lv_at hl 1 rfl) ?_
  refine lv_icmp_ne (tgt := 152) hx hb d_5_sweepOnce_145 (by decide) (fun hc => ?_) (fun hc => ?_)
  · have hf := hf.1 hc
    refine lv_iconst (v := (0 : Int32)) hx hb d_5_sweepOnce_152 (by decide) ?_
    exact hR _ _ _ _ _ _ hG (by unfold isB; decide) hf d_5_sweepOnce_153
  · have hf := hf.2 hc
    refine lv_iconst (v := (1 : Int32)) hx hb d_5_sweepOnce_148 (by decide) ?_
    refine lv_goto (tgt := 153) hx hb d_5_sweepOnce_149 (by decide) ?_
    exact hR _ _ _ _ _ _ hG (by unfold isB; decide) hf d_5_sweepOnce_153
theorem c_5_sweepOnce (l : Launch) {D : va_G} {ac : Nat → ClassId} {ad : Nat → Nat} {st : SS} {A : Nat → Prop} {σ : St} {r0 : Nat} {r1 : Nat} {r2 : Nat} {x3 : Int32} {Q : Int32 → St → Prop} (hk_r0 : kd r0 = 5) (hk_r1 : kd r1 = 1) (hk_r2 : kd r2 = 6) (hf : m_5_sweepOnce r0 r1 r2 x3 Q σ) : Met l y_5_sweepOnce (Cond.code y_5_sweepOnce prog_7_method_8_code 7 (some .boolean) :: wA) { frames := 1, cells := 0, slots := 0, locals := 22 } (va_Pc [.ref (ad r0), .ref (ad r1), .ref (ad r2), .int x3] (GSt A D ac ad st σ)) (va_Qi Q (GSt A D ac ad st) A) 0 0 A :=
  mkZ l (by decide +kernel) rfl [.ref (ad r0), .ref (ad r1), .ref (ad r2), .int x3] (Nat.le_of_ble_eq_true rfl) (fun p e s m args below meth c ls QW S hR hG hl => w_5_sweepOnce_0 S hR hk_r0 hk_r1 hk_r2 hG hl hf)
end MB
