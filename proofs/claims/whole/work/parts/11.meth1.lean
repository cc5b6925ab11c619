theorem d_9_faultKind_0 : decode prog_1_method_5_code 0 = .ok (.aload_n 0, 1) := by decide +kernel
theorem d_9_faultKind_1 : decode prog_1_method_5_code 1 = .ok (.getfield 59, 3) := by decide +kernel
theorem d_9_faultKind_4 : decode prog_1_method_5_code 4 = .ok (.ireturn, 1) := by decide +kernel
def m_9_faultKind (r0 : Nat) (Q : Int32 → St → Prop) (σ : St) : Prop :=
  Q (σ.1 r0 8) σ
theorem d_8_appendStreet_0 : decode prog_10_method_9_code 0 = .ok (.aload_n 0, 1) := by decide +kernel
theorem d_8_appendStreet_1 : decode prog_10_method_9_code 1 = .ok (.getfield 11, 3) := by decide +kernel
theorem d_8_appendStreet_4 : decode prog_10_method_9_code 4 = .ok (.aload_n 0, 1) := by decide +kernel
theorem d_8_appendStreet_5 : decode prog_10_method_9_code 5 = .ok (.getfield 52, 3) := by decide +kernel
theorem d_8_appendStreet_8 : decode prog_10_method_9_code 8 = .ok (.aaload, 1) := by decide +kernel
theorem d_8_appendStreet_9 : decode prog_10_method_9_code 9 = .ok (.astore 4, 2) := by decide +kernel
theorem d_8_appendStreet_11 : decode prog_10_method_9_code 11 = .ok (.aload 4, 2) := by decide +kernel
theorem d_8_appendStreet_13 : decode prog_10_method_9_code 13 = .ok (.invokevirtual 95, 3) := by decide +kernel
theorem d_8_appendStreet_16 : decode prog_10_method_9_code 16 = .ok (.aload 4, 2) := by decide +kernel
theorem d_8_appendStreet_18 : decode prog_10_method_9_code 18 = .ok (.iload_n 1, 1) := by decide +kernel
theorem d_8_appendStreet_19 : decode prog_10_method_9_code 19 = .ok (.putfield 85, 3) := by decide +kernel
theorem d_8_appendStreet_22 : decode prog_10_method_9_code 22 = .ok (.aload 4, 2) := by decide +kernel
theorem d_8_appendStreet_24 : decode prog_10_method_9_code 24 = .ok (.iload_n 2, 1) := by decide +kernel
theorem d_8_appendStreet_25 : decode prog_10_method_9_code 25 = .ok (.putfield 98, 3) := by decide +kernel
theorem d_8_appendStreet_28 : decode prog_10_method_9_code 28 = .ok (.aload 4, 2) := by decide +kernel
theorem d_8_appendStreet_30 : decode prog_10_method_9_code 30 = .ok (.iload_n 3, 1) := by decide +kernel
theorem d_8_appendStreet_31 : decode prog_10_method_9_code 31 = .ok (.putfield 101, 3) := by decide +kernel
theorem d_8_appendStreet_34 : decode prog_10_method_9_code 34 = .ok (.aload_n 0, 1) := by decide +kernel
theorem d_8_appendStreet_35 : decode prog_10_method_9_code 35 = .ok (.dup, 1) := by decide +kernel
theorem d_8_appendStreet_36 : decode prog_10_method_9_code 36 = .ok (.getfield 52, 3) := by decide +kernel
theorem d_8_appendStreet_39 : decode prog_10_method_9_code 39 = .ok (.iconst 1, 1) := by decide +kernel
theorem d_8_appendStreet_40 : decode prog_10_method_9_code 40 = .ok (.iadd, 1) := by decide +kernel
theorem d_8_appendStreet_41 : decode prog_10_method_9_code 41 = .ok (.putfield 52, 3) := by decide +kernel
theorem d_8_appendStreet_44 : decode prog_10_method_9_code 44 = .ok (.aload_n 0, 1) := by decide +kernel
theorem d_8_appendStreet_45 : decode prog_10_method_9_code 45 = .ok (.iconst 0, 1) := by decide +kernel
theorem d_8_appendStreet_46 : decode prog_10_method_9_code 46 = .ok (.putfield 65, 3) := by decide +kernel
theorem d_8_appendStreet_49 : decode prog_10_method_9_code 49 = .ok (.aload_n 0, 1) := by decide +kernel
theorem d_8_appendStreet_50 : decode prog_10_method_9_code 50 = .ok (.getfield 52, 3) := by decide +kernel
theorem d_8_appendStreet_53 : decode prog_10_method_9_code 53 = .ok (.iconst 1, 1) := by decide +kernel
theorem d_8_appendStreet_54 : decode prog_10_method_9_code 54 = .ok (.isub, 1) := by decide +kernel
theorem d_8_appendStreet_55 : decode prog_10_method_9_code 55 = .ok (.ireturn, 1) := by decide +kernel
def m_8_appendStreet (r0 : Nat) (x1 : Int32) (x2 : Int32) (x3 : Int32) (Q : Int32 → St → Prop) (σ : St) : Prop :=
  vp_in (σ.1 r0 1) 6 ∧ ∀ r4_2 : Nat, r4_2 = ((r0 + 1) + 5 + 3 * ((σ.1 r0 1)).toNatClampNeg) → m_6_clear r4_2 (fun (σ_3 : St) => ∀ σ_5 : St, σ_5 = wr σ_3 r4_2 0 x1 → ∀ σ_6 : St, σ_6 = wr σ_5 r4_2 1 x2 → ∀ σ_7 : St, σ_7 = wr σ_6 r4_2 2 x3 → ∀ σ_8 : St, σ_8 = wr σ_7 r0 1 ((σ_7.1 r0 1) + (1 : Int32)) → ∀ σ_9 : St, σ_9 = wr σ_8 r0 4 (0 : Int32) → Q ((σ_9.1 r0 1) - (1 : Int32)) σ_9) σ
theorem d_9_addStreet_0 : decode prog_1_method_6_code 0 = .ok (.iload_n 1, 1) := by decide +kernel
theorem d_9_addStreet_1 : decode prog_1_method_6_code 1 = .ok (.iconst 1, 1) := by decide +kernel
theorem d_9_addStreet_2 : decode prog_1_method_6_code 2 = .ok (.if_icmp .lt 29, 3) := by decide +kernel
theorem d_9_addStreet_5 : decode prog_1_method_6_code 5 = .ok (.iload_n 1, 1) := by decide +kernel
theorem d_9_addStreet_6 : decode prog_1_method_6_code 6 = .ok (.bipush 20, 2) := by decide +kernel
theorem d_9_addStreet_8 : decode prog_1_method_6_code 8 = .ok (.if_icmp .gt 23, 3) := by decide +kernel
theorem d_9_addStreet_11 : decode prog_1_method_6_code 11 = .ok (.iload_n 2, 1) := by decide +kernel
theorem d_9_addStreet_12 : decode prog_1_method_6_code 12 = .ok (.ifCond .lt 19, 3) := by decide +kernel
theorem d_9_addStreet_15 : decode prog_1_method_6_code 15 = .ok (.iload_n 2, 1) := by decide +kernel
theorem d_9_addStreet_16 : decode prog_1_method_6_code 16 = .ok (.bipush 60, 2) := by decide +kernel
theorem d_9_addStreet_18 : decode prog_1_method_6_code 18 = .ok (.if_icmp .gt 13, 3) := by decide +kernel
theorem d_9_addStreet_21 : decode prog_1_method_6_code 21 = .ok (.iload_n 3, 1) := by decide +kernel
theorem d_9_addStreet_22 : decode prog_1_method_6_code 22 = .ok (.ifCond .lt 9, 3) := by decide +kernel
theorem d_9_addStreet_25 : decode prog_1_method_6_code 25 = .ok (.iload_n 3, 1) := by decide +kernel
theorem d_9_addStreet_26 : decode prog_1_method_6_code 26 = .ok (.bipush 9, 2) := by decide +kernel
theorem d_9_addStreet_28 : decode prog_1_method_6_code 28 = .ok (.if_icmp .le 5, 3) := by decide +kernel
theorem d_9_addStreet_31 : decode prog_1_method_6_code 31 = .ok (.iconst (-1), 1) := by decide +kernel
theorem d_9_addStreet_32 : decode prog_1_method_6_code 32 = .ok (.ireturn, 1) := by decide +kernel
theorem d_9_addStreet_33 : decode prog_1_method_6_code 33 = .ok (.aload_n 0, 1) := by decide +kernel
theorem d_9_addStreet_34 : decode prog_1_method_6_code 34 = .ok (.getfield 26, 3) := by decide +kernel
theorem d_9_addStreet_37 : decode prog_1_method_6_code 37 = .ok (.getfield 70, 3) := by decide +kernel
theorem d_9_addStreet_40 : decode prog_1_method_6_code 40 = .ok (.bipush 6, 2) := by decide +kernel
theorem d_9_addStreet_42 : decode prog_1_method_6_code 42 = .ok (.if_icmp .lt 6, 3) := by decide +kernel
theorem d_9_addStreet_45 : decode prog_1_method_6_code 45 = .ok (.bipush (-3), 2) := by decide +kernel
theorem d_9_addStreet_47 : decode prog_1_method_6_code 47 = .ok (.ireturn, 1) := by decide +kernel
theorem d_9_addStreet_48 : decode prog_1_method_6_code 48 = .ok (.aload_n 0, 1) := by decide +kernel
theorem d_9_addStreet_49 : decode prog_1_method_6_code 49 = .ok (.getfield 42, 3) := by decide +kernel
theorem d_9_addStreet_52 : decode prog_1_method_6_code 52 = .ok (.aload_n 0, 1) := by decide +kernel
theorem d_9_addStreet_53 : decode prog_1_method_6_code 53 = .ok (.getfield 26, 3) := by decide +kernel
theorem d_9_addStreet_56 : decode prog_1_method_6_code 56 = .ok (.invokevirtual 80, 3) := by decide +kernel
theorem d_9_addStreet_59 : decode prog_1_method_6_code 59 = .ok (.aload_n 0, 1) := by decide +kernel
theorem d_9_addStreet_60 : decode prog_1_method_6_code 60 = .ok (.getfield 26, 3) := by decide +kernel
theorem d_9_addStreet_63 : decode prog_1_method_6_code 63 = .ok (.iload_n 1, 1) := by decide +kernel
theorem d_9_addStreet_64 : decode prog_1_method_6_code 64 = .ok (.iload_n 2, 1) := by decide +kernel
theorem d_9_addStreet_65 : decode prog_1_method_6_code 65 = .ok (.iload_n 3, 1) := by decide +kernel
theorem d_9_addStreet_66 : decode prog_1_method_6_code 66 = .ok (.invokevirtual 96, 3) := by decide +kernel
theorem d_9_addStreet_69 : decode prog_1_method_6_code 69 = .ok (.ireturn, 1) := by decide +kernel
def m_9_addStreet (r0 : Nat) (x1 : Int32) (x2 : Int32) (x3 : Int32) (Q : Int32 → St → Prop) (σ : St) : Prop :=
  ((x1 < (1 : Int32) → Q (-1 : Int32) σ) ∧ (¬ x1 < (1 : Int32) → (((20 : Int32) < x1 → Q (-1 : Int32) σ) ∧ (¬ (20 : Int32) < x1 → ((x2 < 0 → Q (-1 : Int32) σ) ∧ (¬ x2 < 0 → (((60 : Int32) < x2 → Q (-1 : Int32) σ) ∧ (¬ (60 : Int32) < x2 → ((x3 < 0 → Q (-1 : Int32) σ) ∧ (¬ x3 < 0 → ((x3 ≤ (9 : Int32) → (((σ.1 (r0 + 7) 1) < (6 : Int32) → m_0_remember (r0 + 42) (r0 + 7) (fun (σ_1 : St) => m_8_appendStreet (r0 + 7) x1 x2 x3 (fun (v_4 : Int32) (σ_3 : St) => Q v_4 σ_3) σ_1) σ) ∧ (¬ (σ.1 (r0 + 7) 1) < (6 : Int32) → Q (-3 : Int32) σ))) ∧ (¬ x3 ≤ (9 : Int32) → Q (-1 : Int32) σ))))))))))))
theorem d_8_hasStreet_0 : decode prog_10_method_3_code 0 = .ok (.iload_n 1, 1) := by decide +kernel
theorem d_8_hasStreet_1 : decode prog_10_method_3_code 1 = .ok (.ifCond .lt 15, 3) := by decide +kernel
theorem d_8_hasStreet_4 : decode prog_10_method_3_code 4 = .ok (.iload_n 1, 1) := by decide +kernel
theorem d_8_hasStreet_5 : decode prog_10_method_3_code 5 = .ok (.aload_n 0, 1) := by decide +kernel
theorem d_8_hasStreet_6 : decode prog_10_method_3_code 6 = .ok (.getfield 52, 3) := by decide +kernel
theorem d_8_hasStreet_9 : decode prog_10_method_3_code 9 = .ok (.if_icmp .ge 7, 3) := by decide +kernel
theorem d_8_hasStreet_12 : decode prog_10_method_3_code 12 = .ok (.iconst 1, 1) := by decide +kernel
theorem d_8_hasStreet_13 : decode prog_10_method_3_code 13 = .ok (.goto 4, 3) := by decide +kernel
theorem d_8_hasStreet_16 : decode prog_10_method_3_code 16 = .ok (.iconst 0, 1) := by decide +kernel
theorem d_8_hasStreet_17 : decode prog_10_method_3_code 17 = .ok (.ireturn, 1) := by decide +kernel
def m_8_hasStreet (r0 : Nat) (x1 : Int32) (Q : Int32 → St → Prop) (σ : St) : Prop :=
  ((x1 < 0 → Q (0 : Int32) σ) ∧ (¬ x1 < 0 → (((σ.1 r0 1) ≤ x1 → Q (0 : Int32) σ) ∧ (¬ (σ.1 r0 1) ≤ x1 → Q (1 : Int32) σ))))
theorem d_8_removeLegsIn_0 : decode prog_10_method_11_code 0 = .ok (.iconst 0, 1) := by decide +kernel
theorem d_8_removeLegsIn_1 : decode prog_10_method_11_code 1 = .ok (.istore_n 2, 1) := by decide +kernel
theorem d_8_removeLegsIn_2 : decode prog_10_method_11_code 2 = .ok (.iconst 0, 1) := by decide +kernel
theorem d_8_removeLegsIn_3 : decode prog_10_method_11_code 3 = .ok (.istore_n 3, 1) := by decide +kernel
theorem d_8_removeLegsIn_4 : decode prog_10_method_11_code 4 = .ok (.iload_n 3, 1) := by decide +kernel
theorem d_8_removeLegsIn_5 : decode prog_10_method_11_code 5 = .ok (.aload_n 0, 1) := by decide +kernel
theorem d_8_removeLegsIn_6 : decode prog_10_method_11_code 6 = .ok (.getfield 59, 3) := by decide +kernel
theorem d_8_removeLegsIn_9 : decode prog_10_method_11_code 9 = .ok (.if_icmp .ge 68, 3) := by decide +kernel
theorem d_8_removeLegsIn_12 : decode prog_10_method_11_code 12 = .ok (.aload_n 0, 1) := by decide +kernel
theorem d_8_removeLegsIn_13 : decode prog_10_method_11_code 13 = .ok (.getfield 19, 3) := by decide +kernel
theorem d_8_removeLegsIn_16 : decode prog_10_method_11_code 16 = .ok (.iload_n 3, 1) := by decide +kernel
theorem d_8_removeLegsIn_17 : decode prog_10_method_11_code 17 = .ok (.aaload, 1) := by decide +kernel
theorem d_8_removeLegsIn_18 : decode prog_10_method_11_code 18 = .ok (.getfield 92, 3) := by decide +kernel
theorem d_8_removeLegsIn_21 : decode prog_10_method_11_code 21 = .ok (.iload_n 1, 1) := by decide +kernel
theorem d_8_removeLegsIn_22 : decode prog_10_method_11_code 22 = .ok (.if_icmp .eq 49, 3) := by decide +kernel
theorem d_8_removeLegsIn_25 : decode prog_10_method_11_code 25 = .ok (.aload_n 0, 1) := by decide +kernel
theorem d_8_removeLegsIn_26 : decode prog_10_method_11_code 26 = .ok (.getfield 19, 3) := by decide +kernel
theorem d_8_removeLegsIn_29 : decode prog_10_method_11_code 29 = .ok (.iload_n 2, 1) := by decide +kernel
theorem d_8_removeLegsIn_30 : decode prog_10_method_11_code 30 = .ok (.aaload, 1) := by decide +kernel
theorem d_8_removeLegsIn_31 : decode prog_10_method_11_code 31 = .ok (.aload_n 0, 1) := by decide +kernel
theorem d_8_removeLegsIn_32 : decode prog_10_method_11_code 32 = .ok (.getfield 19, 3) := by decide +kernel
theorem d_8_removeLegsIn_35 : decode prog_10_method_11_code 35 = .ok (.iload_n 3, 1) := by decide +kernel
theorem d_8_removeLegsIn_36 : decode prog_10_method_11_code 36 = .ok (.aaload, 1) := by decide +kernel
theorem d_8_removeLegsIn_37 : decode prog_10_method_11_code 37 = .ok (.invokevirtual 62, 3) := by decide +kernel
theorem d_8_removeLegsIn_40 : decode prog_10_method_11_code 40 = .ok (.aload_n 0, 1) := by decide +kernel
theorem d_8_removeLegsIn_41 : decode prog_10_method_11_code 41 = .ok (.getfield 19, 3) := by decide +kernel
theorem d_8_removeLegsIn_44 : decode prog_10_method_11_code 44 = .ok (.iload_n 2, 1) := by decide +kernel
theorem d_8_removeLegsIn_45 : decode prog_10_method_11_code 45 = .ok (.aaload, 1) := by decide +kernel
theorem d_8_removeLegsIn_46 : decode prog_10_method_11_code 46 = .ok (.getfield 92, 3) := by decide +kernel
theorem d_8_removeLegsIn_49 : decode prog_10_method_11_code 49 = .ok (.iload_n 1, 1) := by decide +kernel
theorem d_8_removeLegsIn_50 : decode prog_10_method_11_code 50 = .ok (.if_icmp .le 18, 3) := by decide +kernel
theorem d_8_removeLegsIn_53 : decode prog_10_method_11_code 53 = .ok (.aload_n 0, 1) := by decide +kernel
theorem d_8_removeLegsIn_54 : decode prog_10_method_11_code 54 = .ok (.getfield 19, 3) := by decide +kernel
theorem d_8_removeLegsIn_57 : decode prog_10_method_11_code 57 = .ok (.iload_n 2, 1) := by decide +kernel
theorem d_8_removeLegsIn_58 : decode prog_10_method_11_code 58 = .ok (.aaload, 1) := by decide +kernel
theorem d_8_removeLegsIn_59 : decode prog_10_method_11_code 59 = .ok (.dup, 1) := by decide +kernel
theorem d_8_removeLegsIn_60 : decode prog_10_method_11_code 60 = .ok (.getfield 92, 3) := by decide +kernel
theorem d_8_removeLegsIn_63 : decode prog_10_method_11_code 63 = .ok (.iconst 1, 1) := by decide +kernel
theorem d_8_removeLegsIn_64 : decode prog_10_method_11_code 64 = .ok (.isub, 1) := by decide +kernel
theorem d_8_removeLegsIn_65 : decode prog_10_method_11_code 65 = .ok (.putfield 92, 3) := by decide +kernel
theorem d_8_removeLegsIn_68 : decode prog_10_method_11_code 68 = .ok (.iinc 2 1, 3) := by decide +kernel
theorem d_8_removeLegsIn_71 : decode prog_10_method_11_code 71 = .ok (.iinc 3 1, 3) := by decide +kernel
theorem d_8_removeLegsIn_74 : decode prog_10_method_11_code 74 = .ok (.goto (-70), 3) := by decide +kernel
theorem d_8_removeLegsIn_77 : decode prog_10_method_11_code 77 = .ok (.aload_n 0, 1) := by decide +kernel
theorem d_8_removeLegsIn_78 : decode prog_10_method_11_code 78 = .ok (.iload_n 2, 1) := by decide +kernel
theorem d_8_removeLegsIn_79 : decode prog_10_method_11_code 79 = .ok (.putfield 59, 3) := by decide +kernel
theorem d_8_removeLegsIn_82 : decode prog_10_method_11_code 82 = .ok (.return_, 1) := by decide +kernel
def m_8_removeLegsIn_4 (r0 : Nat) (x1 : Int32) (Q : St → Prop) (B4 : Int32 → Int32 → St → Prop) (x2 : Int32) (x3 : Int32) (σ : St) : Prop :=
  (((σ.1 r0 3) ≤ x3 → ∀ σ_1 : St, σ_1 = wr σ r0 3 x2 → Q σ_1) ∧ (¬ (σ.1 r0 3) ≤ x3 → vp_in x3 10 ∧ (((σ.1 ((r0 + 2) + 22 + (x3).toNatClampNeg) 0) = x1 → ∀ x3_3 : Int32, x3_3 = x3 + 1 → B4 x2 x3_3 σ) ∧ (¬ (σ.1 ((r0 + 2) + 22 + (x3).toNatClampNeg) 0) = x1 → vp_in x2 10 ∧ vp_in x3 10 ∧ m_1_copyFrom ((r0 + 2) + 22 + (x2).toNatClampNeg) ((r0 + 2) + 22 + (x3).toNatClampNeg) (fun (σ_6 : St) => vp_in x2 10 ∧ (((σ_6.1 ((r0 + 2) + 22 + (x2).toNatClampNeg) 0) ≤ x1 → ∀ x2_9 : Int32, x2_9 = x2 + 1 → ∀ x3_10 : Int32, x3_10 = x3 + 1 → B4 x2_9 x3_10 σ_6) ∧ (¬ (σ_6.1 ((r0 + 2) + 22 + (x2).toNatClampNeg) 0) ≤ x1 → vp_in x2 10 ∧ ∀ σ_12 : St, σ_12 = wr σ_6 ((r0 + 2) + 22 + (x2).toNatClampNeg) 0 ((σ_6.1 ((r0 + 2) + 22 + (x2).toNatClampNeg) 0) - (1 : Int32)) → ∀ x2_13 : Int32, x2_13 = x2 + 1 → ∀ x3_14 : Int32, x3_14 = x3 + 1 → B4 x2_13 x3_14 σ_12))) σ))))
def m_8_removeLegsIn (r0 : Nat) (x1 : Int32) (Q : St → Prop) (σ : St) : Prop :=
  itN (m_8_removeLegsIn_4 r0 x1 Q) (fun _ _ _ => False) FU (0 : Int32) (0 : Int32) σ
theorem d_8_removeStreet_0 : decode prog_10_method_10_code 0 = .ok (.aload_n 0, 1) := by decide +kernel
theorem d_8_removeStreet_1 : decode prog_10_method_10_code 1 = .ok (.getfield 27, 3) := by decide +kernel
theorem d_8_removeStreet_4 : decode prog_10_method_10_code 4 = .ok (.iconst 2, 1) := by decide +kernel
theorem d_8_removeStreet_5 : decode prog_10_method_10_code 5 = .ok (.dup2, 1) := by decide +kernel
theorem d_8_removeStreet_6 : decode prog_10_method_10_code 6 = .ok (.iaload, 1) := by decide +kernel
theorem d_8_removeStreet_7 : decode prog_10_method_10_code 7 = .ok (.aload_n 0, 1) := by decide +kernel
theorem d_8_removeStreet_8 : decode prog_10_method_10_code 8 = .ok (.getfield 11, 3) := by decide +kernel
theorem d_8_removeStreet_11 : decode prog_10_method_10_code 11 = .ok (.iload_n 1, 1) := by decide +kernel
theorem d_8_removeStreet_12 : decode prog_10_method_10_code 12 = .ok (.aaload, 1) := by decide +kernel
theorem d_8_removeStreet_13 : decode prog_10_method_10_code 13 = .ok (.invokevirtual 88, 3) := by decide +kernel
theorem d_8_removeStreet_16 : decode prog_10_method_10_code 16 = .ok (.iadd, 1) := by decide +kernel
theorem d_8_removeStreet_17 : decode prog_10_method_10_code 17 = .ok (.iastore, 1) := by decide +kernel
theorem d_8_removeStreet_18 : decode prog_10_method_10_code 18 = .ok (.iload_n 1, 1) := by decide +kernel
theorem d_8_removeStreet_19 : decode prog_10_method_10_code 19 = .ok (.istore_n 2, 1) := by decide +kernel
theorem d_8_removeStreet_20 : decode prog_10_method_10_code 20 = .ok (.iload_n 2, 1) := by decide +kernel
theorem d_8_removeStreet_21 : decode prog_10_method_10_code 21 = .ok (.aload_n 0, 1) := by decide +kernel
theorem d_8_removeStreet_22 : decode prog_10_method_10_code 22 = .ok (.getfield 52, 3) := by decide +kernel
theorem d_8_removeStreet_25 : decode prog_10_method_10_code 25 = .ok (.iconst 1, 1) := by decide +kernel
theorem d_8_removeStreet_26 : decode prog_10_method_10_code 26 = .ok (.isub, 1) := by decide +kernel
theorem d_8_removeStreet_27 : decode prog_10_method_10_code 27 = .ok (.if_icmp .ge 26, 3) := by decide +kernel
theorem d_8_removeStreet_30 : decode prog_10_method_10_code 30 = .ok (.aload_n 0, 1) := by decide +kernel
theorem d_8_removeStreet_31 : decode prog_10_method_10_code 31 = .ok (.getfield 11, 3) := by decide +kernel
theorem d_8_removeStreet_34 : decode prog_10_method_10_code 34 = .ok (.iload_n 2, 1) := by decide +kernel
theorem d_8_removeStreet_35 : decode prog_10_method_10_code 35 = .ok (.aaload, 1) := by decide +kernel
theorem d_8_removeStreet_36 : decode prog_10_method_10_code 36 = .ok (.aload_n 0, 1) := by decide +kernel
theorem d_8_removeStreet_37 : decode prog_10_method_10_code 37 = .ok (.getfield 11, 3) := by decide +kernel
theorem d_8_removeStreet_40 : decode prog_10_method_10_code 40 = .ok (.iload_n 2, 1) := by decide +kernel
theorem d_8_removeStreet_41 : decode prog_10_method_10_code 41 = .ok (.iconst 1, 1) := by decide +kernel
theorem d_8_removeStreet_42 : decode prog_10_method_10_code 42 = .ok (.iadd, 1) := by decide +kernel
theorem d_8_removeStreet_43 : decode prog_10_method_10_code 43 = .ok (.aaload, 1) := by decide +kernel
theorem d_8_removeStreet_44 : decode prog_10_method_10_code 44 = .ok (.invokevirtual 55, 3) := by decide +kernel
theorem d_8_removeStreet_47 : decode prog_10_method_10_code 47 = .ok (.iinc 2 1, 3) := by decide +kernel
theorem d_8_removeStreet_50 : decode prog_10_method_10_code 50 = .ok (.goto (-30), 3) := by decide +kernel
theorem d_8_removeStreet_53 : decode prog_10_method_10_code 53 = .ok (.aload_n 0, 1) := by decide +kernel
theorem d_8_removeStreet_54 : decode prog_10_method_10_code 54 = .ok (.dup, 1) := by decide +kernel
theorem d_8_removeStreet_55 : decode prog_10_method_10_code 55 = .ok (.getfield 52, 3) := by decide +kernel
theorem d_8_removeStreet_58 : decode prog_10_method_10_code 58 = .ok (.iconst 1, 1) := by decide +kernel
theorem d_8_removeStreet_59 : decode prog_10_method_10_code 59 = .ok (.isub, 1) := by decide +kernel
theorem d_8_removeStreet_60 : decode prog_10_method_10_code 60 = .ok (.putfield 52, 3) := by decide +kernel
theorem d_8_removeStreet_63 : decode prog_10_method_10_code 63 = .ok (.aload_n 0, 1) := by decide +kernel
theorem d_8_removeStreet_64 : decode prog_10_method_10_code 64 = .ok (.iload_n 1, 1) := by decide +kernel
theorem d_8_removeStreet_65 : decode prog_10_method_10_code 65 = .ok (.invokevirtual 104, 3) := by decide +kernel
theorem d_8_removeStreet_68 : decode prog_10_method_10_code 68 = .ok (.aload_n 0, 1) := by decide +kernel
theorem d_8_removeStreet_69 : decode prog_10_method_10_code 69 = .ok (.iconst 0, 1) := by decide +kernel
theorem d_8_removeStreet_70 : decode prog_10_method_10_code 70 = .ok (.putfield 65, 3) := by decide +kernel
theorem d_8_removeStreet_73 : decode prog_10_method_10_code 73 = .ok (.return_, 1) := by decide +kernel
def m_8_removeStreet_20 (r0 : Nat) (x1 : Int32) (Q : St → Prop) (B20 : Int32 → St → Prop) (x2 : Int32) (σ : St) : Prop :=
  ((((σ.1 r0 1) - (1 : Int32)) ≤ x2 → ∀ σ_1 : St, σ_1 = wr σ r0 1 ((σ.1 r0 1) - (1 : Int32)) → m_8_removeLegsIn r0 x1 (fun (σ_2 : St) => ∀ σ_4 : St, σ_4 = wr σ_2 r0 4 (0 : Int32) → Q σ_4) σ_1) ∧ (¬ ((σ.1 r0 1) - (1 : Int32)) ≤ x2 → vp_in x2 6 ∧ vp_in (x2 + (1 : Int32)) 6 ∧ m_6_copyFrom ((r0 + 1) + 5 + 3 * (x2).toNatClampNeg) ((r0 + 1) + 5 + 3 * ((x2 + (1 : Int32))).toNatClampNeg) (fun (σ_7 : St) => ∀ x2_9 : Int32, x2_9 = x2 + 1 → B20 x2_9 σ_7) σ))
def m_8_removeStreet (r0 : Nat) (x1 : Int32) (Q : St → Prop) (σ : St) : Prop :=
  vp_in (2 : Int32) 6 ∧ vp_in x1 6 ∧ m_6_allDirt ((r0 + 1) + 5 + 3 * (x1).toNatClampNeg) (fun (v_3 : Int32) (σ_2 : St) => vp_in (2 : Int32) 6 ∧ ∀ σ_4 : St, σ_4 = wr σ_2 (r0 + 4) ((2 : Int32)).toNatClampNeg ((σ.1 (r0 + 4) ((2 : Int32)).toNatClampNeg) + v_3) → itN (m_8_removeStreet_20 r0 x1 Q) (fun _ _ => False) FU x1 σ_4) σ
theorem d_9_dropStreet_0 : decode prog_1_method_7_code 0 = .ok (.aload_n 0, 1) := by decide +kernel
theorem d_9_dropStreet_1 : decode prog_1_method_7_code 1 = .ok (.getfield 26, 3) := by decide +kernel
theorem d_9_dropStreet_4 : decode prog_1_method_7_code 4 = .ok (.iload_n 1, 1) := by decide +kernel
theorem d_9_dropStreet_5 : decode prog_1_method_7_code 5 = .ok (.invokevirtual 100, 3) := by decide +kernel
theorem d_9_dropStreet_8 : decode prog_1_method_7_code 8 = .ok (.ifCond .ne 5, 3) := by decide +kernel
theorem d_9_dropStreet_11 : decode prog_1_method_7_code 11 = .ok (.iconst (-1), 1) := by decide +kernel
theorem d_9_dropStreet_12 : decode prog_1_method_7_code 12 = .ok (.ireturn, 1) := by decide +kernel
theorem d_9_dropStreet_13 : decode prog_1_method_7_code 13 = .ok (.aload_n 0, 1) := by decide +kernel
theorem d_9_dropStreet_14 : decode prog_1_method_7_code 14 = .ok (.getfield 42, 3) := by decide +kernel
theorem d_9_dropStreet_17 : decode prog_1_method_7_code 17 = .ok (.aload_n 0, 1) := by decide +kernel
theorem d_9_dropStreet_18 : decode prog_1_method_7_code 18 = .ok (.getfield 26, 3) := by decide +kernel
theorem d_9_dropStreet_21 : decode prog_1_method_7_code 21 = .ok (.invokevirtual 80, 3) := by decide +kernel
theorem d_9_dropStreet_24 : decode prog_1_method_7_code 24 = .ok (.aload_n 0, 1) := by decide +kernel
theorem d_9_dropStreet_25 : decode prog_1_method_7_code 25 = .ok (.getfield 26, 3) := by decide +kernel
theorem d_9_dropStreet_28 : decode prog_1_method_7_code 28 = .ok (.iload_n 1, 1) := by decide +kernel
theorem d_9_dropStreet_29 : decode prog_1_method_7_code 29 = .ok (.invokevirtual 104, 3) := by decide +kernel
theorem d_9_dropStreet_32 : decode prog_1_method_7_code 32 = .ok (.aload_n 0, 1) := by decide +kernel
theorem d_9_dropStreet_33 : decode prog_1_method_7_code 33 = .ok (.getfield 26, 3) := by decide +kernel
theorem d_9_dropStreet_36 : decode prog_1_method_7_code 36 = .ok (.getfield 108, 3) := by decide +kernel
theorem d_9_dropStreet_39 : decode prog_1_method_7_code 39 = .ok (.ireturn, 1) := by decide +kernel
def m_9_dropStreet (r0 : Nat) (x1 : Int32) (Q : Int32 → St → Prop) (σ : St) : Prop :=
  m_8_hasStreet (r0 + 7) x1 (fun (v_2 : Int32) (σ_1 : St) => ((¬ v_2 = 0 → m_0_remember (r0 + 42) (r0 + 7) (fun (σ_3 : St) => m_8_removeStreet (r0 + 7) x1 (fun (σ_5 : St) => Q (σ_5.1 (r0 + 7) 3) σ_5) σ_3) σ_1) ∧ (v_2 = 0 → Q (-1 : Int32) σ_1))) σ
theorem d_8_hasCell_0 : decode prog_10_method_4_code 0 = .ok (.aload_n 0, 1) := by decide +kernel
theorem d_8_hasCell_1 : decode prog_10_method_4_code 1 = .ok (.iload_n 1, 1) := by decide +kernel
theorem d_8_hasCell_2 : decode prog_10_method_4_code 2 = .ok (.invokevirtual 81, 3) := by decide +kernel
theorem d_8_hasCell_5 : decode prog_10_method_4_code 5 = .ok (.ifCond .eq 33, 3) := by decide +kernel
theorem d_8_hasCell_8 : decode prog_10_method_4_code 8 = .ok (.iload_n 2, 1) := by decide +kernel
theorem d_8_hasCell_9 : decode prog_10_method_4_code 9 = .ok (.ifCond .lt 29, 3) := by decide +kernel
theorem d_8_hasCell_12 : decode prog_10_method_4_code 12 = .ok (.iload_n 2, 1) := by decide +kernel
theorem d_8_hasCell_13 : decode prog_10_method_4_code 13 = .ok (.iconst 2, 1) := by decide +kernel
theorem d_8_hasCell_14 : decode prog_10_method_4_code 14 = .ok (.if_icmp .ge 24, 3) := by decide +kernel
theorem d_8_hasCell_17 : decode prog_10_method_4_code 17 = .ok (.iload_n 3, 1) := by decide +kernel
theorem d_8_hasCell_18 : decode prog_10_method_4_code 18 = .ok (.ifCond .lt 20, 3) := by decide +kernel
theorem d_8_hasCell_21 : decode prog_10_method_4_code 21 = .ok (.iload_n 3, 1) := by decide +kernel
theorem d_8_hasCell_22 : decode prog_10_method_4_code 22 = .ok (.aload_n 0, 1) := by decide +kernel
theorem d_8_hasCell_23 : decode prog_10_method_4_code 23 = .ok (.getfield 11, 3) := by decide +kernel
theorem d_8_hasCell_26 : decode prog_10_method_4_code 26 = .ok (.iload_n 1, 1) := by decide +kernel
theorem d_8_hasCell_27 : decode prog_10_method_4_code 27 = .ok (.aaload, 1) := by decide +kernel
theorem d_8_hasCell_28 : decode prog_10_method_4_code 28 = .ok (.getfield 85, 3) := by decide +kernel
theorem d_8_hasCell_31 : decode prog_10_method_4_code 31 = .ok (.if_icmp .ge 7, 3) := by decide +kernel
theorem d_8_hasCell_34 : decode prog_10_method_4_code 34 = .ok (.iconst 1, 1) := by decide +kernel
theorem d_8_hasCell_35 : decode prog_10_method_4_code 35 = .ok (.goto 4, 3) := by decide +kernel
theorem d_8_hasCell_38 : decode prog_10_method_4_code 38 = .ok (.iconst 0, 1) := by decide +kernel
theorem d_8_hasCell_39 : decode prog_10_method_4_code 39 = .ok (.ireturn, 1) := by decide +kernel
def m_8_hasCell (r0 : Nat) (x1 : Int32) (x2 : Int32) (x3 : Int32) (Q : Int32 → St → Prop) (σ : St) : Prop :=
  m_8_hasStreet r0 x1 (fun (v_2 : Int32) (σ_1 : St) => ((v_2 = 0 → Q (0 : Int32) σ_1) ∧ (¬ v_2 = 0 → ((x2 < 0 → Q (0 : Int32) σ_1) ∧ (¬ x2 < 0 → (((2 : Int32) ≤ x2 → Q (0 : Int32) σ_1) ∧ (¬ (2 : Int32) ≤ x2 → ((x3 < 0 → Q (0 : Int32) σ_1) ∧ (¬ x3 < 0 → vp_in x1 6 ∧ (((σ_1.1 ((r0 + 1) + 5 + 3 * (x1).toNatClampNeg) 0) ≤ x3 → Q (0 : Int32) σ_1) ∧ (¬ (σ_1.1 ((r0 + 1) + 5 + 3 * (x1).toNatClampNeg) 0) ≤ x3 → Q (1 : Int32) σ_1))))))))))) σ
theorem d_8_layDirt_0 : decode prog_10_method_14_code 0 = .ok (.aload_n 0, 1) := by decide +kernel
theorem d_8_layDirt_1 : decode prog_10_method_14_code 1 = .ok (.getfield 11, 3) := by decide +kernel
theorem d_8_layDirt_4 : decode prog_10_method_14_code 4 = .ok (.iload_n 1, 1) := by decide +kernel
theorem d_8_layDirt_5 : decode prog_10_method_14_code 5 = .ok (.aaload, 1) := by decide +kernel
theorem d_8_layDirt_6 : decode prog_10_method_14_code 6 = .ok (.getfield 111, 3) := by decide +kernel
theorem d_8_layDirt_9 : decode prog_10_method_14_code 9 = .ok (.astore 4, 2) := by decide +kernel
theorem d_8_layDirt_11 : decode prog_10_method_14_code 11 = .ok (.aload 4, 2) := by decide +kernel
theorem d_8_layDirt_13 : decode prog_10_method_14_code 13 = .ok (.iload_n 2, 1) := by decide +kernel
theorem d_8_layDirt_14 : decode prog_10_method_14_code 14 = .ok (.iaload, 1) := by decide +kernel
theorem d_8_layDirt_15 : decode prog_10_method_14_code 15 = .ok (.istore 5, 2) := by decide +kernel
theorem d_8_layDirt_17 : decode prog_10_method_14_code 17 = .ok (.aload 4, 2) := by decide +kernel
theorem d_8_layDirt_19 : decode prog_10_method_14_code 19 = .ok (.iload_n 2, 1) := by decide +kernel
theorem d_8_layDirt_20 : decode prog_10_method_14_code 20 = .ok (.iload_n 3, 1) := by decide +kernel
theorem d_8_layDirt_21 : decode prog_10_method_14_code 21 = .ok (.iastore, 1) := by decide +kernel
theorem d_8_layDirt_22 : decode prog_10_method_14_code 22 = .ok (.aload_n 0, 1) := by decide +kernel
theorem d_8_layDirt_23 : decode prog_10_method_14_code 23 = .ok (.getfield 27, 3) := by decide +kernel
theorem d_8_layDirt_26 : decode prog_10_method_14_code 26 = .ok (.iconst 0, 1) := by decide +kernel
theorem d_8_layDirt_27 : decode prog_10_method_14_code 27 = .ok (.dup2, 1) := by decide +kernel
theorem d_8_layDirt_28 : decode prog_10_method_14_code 28 = .ok (.iaload, 1) := by decide +kernel
theorem d_8_layDirt_29 : decode prog_10_method_14_code 29 = .ok (.iconst 0, 1) := by decide +kernel
theorem d_8_layDirt_30 : decode prog_10_method_14_code 30 = .ok (.iload_n 3, 1) := by decide +kernel
theorem d_8_layDirt_31 : decode prog_10_method_14_code 31 = .ok (.iload 5, 2) := by decide +kernel
theorem d_8_layDirt_33 : decode prog_10_method_14_code 33 = .ok (.isub, 1) := by decide +kernel
theorem d_8_layDirt_34 : decode prog_10_method_14_code 34 = .ok (.invokestatic 114, 3) := by decide +kernel
theorem d_8_layDirt_37 : decode prog_10_method_14_code 37 = .ok (.iadd, 1) := by decide +kernel
theorem d_8_layDirt_38 : decode prog_10_method_14_code 38 = .ok (.iastore, 1) := by decide +kernel
theorem d_8_layDirt_39 : decode prog_10_method_14_code 39 = .ok (.aload_n 0, 1) := by decide +kernel
theorem d_8_layDirt_40 : decode prog_10_method_14_code 40 = .ok (.getfield 27, 3) := by decide +kernel
theorem d_8_layDirt_43 : decode prog_10_method_14_code 43 = .ok (.iconst 2, 1) := by decide +kernel
theorem d_8_layDirt_44 : decode prog_10_method_14_code 44 = .ok (.dup2, 1) := by decide +kernel
theorem d_8_layDirt_45 : decode prog_10_method_14_code 45 = .ok (.iaload, 1) := by decide +kernel
theorem d_8_layDirt_46 : decode prog_10_method_14_code 46 = .ok (.iconst 0, 1) := by decide +kernel
theorem d_8_layDirt_47 : decode prog_10_method_14_code 47 = .ok (.iload 5, 2) := by decide +kernel
theorem d_8_layDirt_49 : decode prog_10_method_14_code 49 = .ok (.iload_n 3, 1) := by decide +kernel
theorem d_8_layDirt_50 : decode prog_10_method_14_code 50 = .ok (.isub, 1) := by decide +kernel
theorem d_8_layDirt_51 : decode prog_10_method_14_code 51 = .ok (.invokestatic 114, 3) := by decide +kernel
theorem d_8_layDirt_54 : decode prog_10_method_14_code 54 = .ok (.iadd, 1) := by decide +kernel
theorem d_8_layDirt_55 : decode prog_10_method_14_code 55 = .ok (.iastore, 1) := by decide +kernel
theorem d_8_layDirt_56 : decode prog_10_method_14_code 56 = .ok (.iload 5, 2) := by decide +kernel
theorem d_8_layDirt_58 : decode prog_10_method_14_code 58 = .ok (.ireturn, 1) := by decide +kernel
def m_8_layDirt (r0 : Nat) (x1 : Int32) (x2 : Int32) (x3 : Int32) (Q : Int32 → St → Prop) (σ : St) : Prop :=
  vp_in x1 6 ∧ ∀ r4_2 : Nat, r4_2 = (((r0 + 1) + 5 + 3 * (x1).toNatClampNeg) + 1) → vp_in x2 40 ∧ ∀ x5_3 : Int32, x5_3 = (σ.1 r4_2 (x2).toNatClampNeg) → vp_in x2 40 ∧ ∀ σ_4 : St, σ_4 = wr σ r4_2 (x2).toNatClampNeg x3 → vp_in (0 : Int32) 6 ∧ vp_in (0 : Int32) 6 ∧ ∀ σ_5 : St, σ_5 = wr σ_4 (r0 + 4) ((0 : Int32)).toNatClampNeg ((σ_4.1 (r0 + 4) ((0 : Int32)).toNatClampNeg) + (if (0 : Int32) < (x3 - x5_3) then (x3 - x5_3) else (0 : Int32))) → vp_in (2 : Int32) 6 ∧ vp_in (2 : Int32) 6 ∧ ∀ σ_6 : St, σ_6 = wr σ_5 (r0 + 4) ((2 : Int32)).toNatClampNeg ((σ_5.1 (r0 + 4) ((2 : Int32)).toNatClampNeg) + (if (0 : Int32) < (x5_3 - x3) then (x5_3 - x3) else (0 : Int32))) → Q x5_3 σ_6
theorem d_9_lay_0 : decode prog_1_method_8_code 0 = .ok (.aload_n 0, 1) := by decide +kernel
theorem d_9_lay_1 : decode prog_1_method_8_code 1 = .ok (.getfield 26, 3) := by decide +kernel
theorem d_9_lay_4 : decode prog_1_method_8_code 4 = .ok (.iload_n 1, 1) := by decide +kernel
theorem d_9_lay_5 : decode prog_1_method_8_code 5 = .ok (.iload_n 2, 1) := by decide +kernel
theorem d_9_lay_6 : decode prog_1_method_8_code 6 = .ok (.iload_n 3, 1) := by decide +kernel
theorem d_9_lay_7 : decode prog_1_method_8_code 7 = .ok (.invokevirtual 111, 3) := by decide +kernel
theorem d_9_lay_10 : decode prog_1_method_8_code 10 = .ok (.ifCond .eq 15, 3) := by decide +kernel
theorem d_9_lay_13 : decode prog_1_method_8_code 13 = .ok (.iload 4, 2) := by decide +kernel
theorem d_9_lay_15 : decode prog_1_method_8_code 15 = .ok (.ifCond .lt 10, 3) := by decide +kernel
theorem d_9_lay_18 : decode prog_1_method_8_code 18 = .ok (.iload 4, 2) := by decide +kernel
theorem d_9_lay_20 : decode prog_1_method_8_code 20 = .ok (.bipush 99, 2) := by decide +kernel
theorem d_9_lay_22 : decode prog_1_method_8_code 22 = .ok (.if_icmp .le 5, 3) := by decide +kernel
theorem d_9_lay_25 : decode prog_1_method_8_code 25 = .ok (.iconst (-1), 1) := by decide +kernel
theorem d_9_lay_26 : decode prog_1_method_8_code 26 = .ok (.ireturn, 1) := by decide +kernel
theorem d_9_lay_27 : decode prog_1_method_8_code 27 = .ok (.aload_n 0, 1) := by decide +kernel
theorem d_9_lay_28 : decode prog_1_method_8_code 28 = .ok (.getfield 42, 3) := by decide +kernel
theorem d_9_lay_31 : decode prog_1_method_8_code 31 = .ok (.aload_n 0, 1) := by decide +kernel
theorem d_9_lay_32 : decode prog_1_method_8_code 32 = .ok (.getfield 26, 3) := by decide +kernel
theorem d_9_lay_35 : decode prog_1_method_8_code 35 = .ok (.invokevirtual 80, 3) := by decide +kernel
theorem d_9_lay_38 : decode prog_1_method_8_code 38 = .ok (.aload_n 0, 1) := by decide +kernel
theorem d_9_lay_39 : decode prog_1_method_8_code 39 = .ok (.getfield 26, 3) := by decide +kernel
theorem d_9_lay_42 : decode prog_1_method_8_code 42 = .ok (.iload_n 1, 1) := by decide +kernel
theorem d_9_lay_43 : decode prog_1_method_8_code 43 = .ok (.iload_n 2, 1) := by decide +kernel
theorem d_9_lay_44 : decode prog_1_method_8_code 44 = .ok (.iload_n 3, 1) := by decide +kernel
theorem d_9_lay_45 : decode prog_1_method_8_code 45 = .ok (.invokestatic 115, 3) := by decide +kernel
theorem d_9_lay_48 : decode prog_1_method_8_code 48 = .ok (.iload 4, 2) := by decide +kernel
theorem d_9_lay_50 : decode prog_1_method_8_code 50 = .ok (.invokevirtual 119, 3) := by decide +kernel
theorem d_9_lay_53 : decode prog_1_method_8_code 53 = .ok (.ireturn, 1) := by decide +kernel
def m_9_lay (r0 : Nat) (x1 : Int32) (x2 : Int32) (x3 : Int32) (x4 : Int32) (Q : Int32 → St → Prop) (σ : St) : Prop :=
  m_8_hasCell (r0 + 7) x1 x2 x3 (fun (v_2 : Int32) (σ_1 : St) => ((v_2 = 0 → Q (-1 : Int32) σ_1) ∧ (¬ v_2 = 0 → ((x4 < 0 → Q (-1 : Int32) σ_1) ∧ (¬ x4 < 0 → ((x4 ≤ (99 : Int32) → m_0_remember (r0 + 42) (r0 + 7) (fun (σ_3 : St) => m_9_placeOf x2 x3 (fun (v_6 : Int32) (σ_5 : St) => m_8_layDirt (r0 + 7) x1 v_6 x4 (fun (v_8 : Int32) (σ_7 : St) => Q v_8 σ_7) σ_5) σ_3) σ_1) ∧ (¬ x4 ≤ (99 : Int32) → Q (-1 : Int32) σ_1))))))) σ
theorem d_9_park_0 : decode prog_1_method_9_code 0 = .ok (.aload_n 0, 1) := by decide +kernel
theorem d_9_park_1 : decode prog_1_method_9_code 1 = .ok (.getfield 26, 3) := by decide +kernel
theorem d_9_park_4 : decode prog_1_method_9_code 4 = .ok (.iload_n 1, 1) := by decide +kernel
theorem d_9_park_5 : decode prog_1_method_9_code 5 = .ok (.iload_n 2, 1) := by decide +kernel
theorem d_9_park_6 : decode prog_1_method_9_code 6 = .ok (.iload_n 3, 1) := by decide +kernel
theorem d_9_park_7 : decode prog_1_method_9_code 7 = .ok (.invokevirtual 111, 3) := by decide +kernel
theorem d_9_park_10 : decode prog_1_method_9_code 10 = .ok (.ifCond .ne 5, 3) := by decide +kernel
theorem d_9_park_13 : decode prog_1_method_9_code 13 = .ok (.iconst (-1), 1) := by decide +kernel
theorem d_9_park_14 : decode prog_1_method_9_code 14 = .ok (.ireturn, 1) := by decide +kernel
theorem d_9_park_15 : decode prog_1_method_9_code 15 = .ok (.aload_n 0, 1) := by decide +kernel
theorem d_9_park_16 : decode prog_1_method_9_code 16 = .ok (.getfield 42, 3) := by decide +kernel
theorem d_9_park_19 : decode prog_1_method_9_code 19 = .ok (.aload_n 0, 1) := by decide +kernel
theorem d_9_park_20 : decode prog_1_method_9_code 20 = .ok (.getfield 26, 3) := by decide +kernel
theorem d_9_park_23 : decode prog_1_method_9_code 23 = .ok (.invokevirtual 80, 3) := by decide +kernel
theorem d_9_park_26 : decode prog_1_method_9_code 26 = .ok (.aload_n 0, 1) := by decide +kernel
theorem d_9_park_27 : decode prog_1_method_9_code 27 = .ok (.getfield 26, 3) := by decide +kernel
theorem d_9_park_30 : decode prog_1_method_9_code 30 = .ok (.getfield 122, 3) := by decide +kernel
theorem d_9_park_33 : decode prog_1_method_9_code 33 = .ok (.iload_n 1, 1) := by decide +kernel
theorem d_9_park_34 : decode prog_1_method_9_code 34 = .ok (.aaload, 1) := by decide +kernel
theorem d_9_park_35 : decode prog_1_method_9_code 35 = .ok (.getfield 126, 3) := by decide +kernel
theorem d_9_park_38 : decode prog_1_method_9_code 38 = .ok (.astore 5, 2) := by decide +kernel
theorem d_9_park_40 : decode prog_1_method_9_code 40 = .ok (.iload_n 2, 1) := by decide +kernel
theorem d_9_park_41 : decode prog_1_method_9_code 41 = .ok (.iload_n 3, 1) := by decide +kernel
theorem d_9_park_42 : decode prog_1_method_9_code 42 = .ok (.invokestatic 115, 3) := by decide +kernel
theorem d_9_park_45 : decode prog_1_method_9_code 45 = .ok (.istore 6, 2) := by decide +kernel
theorem d_9_park_47 : decode prog_1_method_9_code 47 = .ok (.aload 5, 2) := by decide +kernel
theorem d_9_park_49 : decode prog_1_method_9_code 49 = .ok (.iload 6, 2) := by decide +kernel
theorem d_9_park_51 : decode prog_1_method_9_code 51 = .ok (.baload, 1) := by decide +kernel
theorem d_9_park_52 : decode prog_1_method_9_code 52 = .ok (.istore 7, 2) := by decide +kernel
theorem d_9_park_54 : decode prog_1_method_9_code 54 = .ok (.aload 5, 2) := by decide +kernel
theorem d_9_park_56 : decode prog_1_method_9_code 56 = .ok (.iload 6, 2) := by decide +kernel
theorem d_9_park_58 : decode prog_1_method_9_code 58 = .ok (.iload 4, 2) := by decide +kernel
theorem d_9_park_60 : decode prog_1_method_9_code 60 = .ok (.bastore, 1) := by decide +kernel
theorem d_9_park_61 : decode prog_1_method_9_code 61 = .ok (.iload 7, 2) := by decide +kernel
theorem d_9_park_63 : decode prog_1_method_9_code 63 = .ok (.ifCond .eq 7, 3) := by decide +kernel
theorem d_9_park_66 : decode prog_1_method_9_code 66 = .ok (.iconst 1, 1) := by decide +kernel
theorem d_9_park_67 : decode prog_1_method_9_code 67 = .ok (.goto 4, 3) := by decide +kernel
theorem d_9_park_70 : decode prog_1_method_9_code 70 = .ok (.iconst 0, 1) := by decide +kernel
theorem d_9_park_71 : decode prog_1_method_9_code 71 = .ok (.ireturn, 1) := by decide +kernel
def m_9_park (r0 : Nat) (x1 : Int32) (x2 : Int32) (x3 : Int32) (x4 : Int32) (Q : Int32 → St → Prop) (σ : St) : Prop :=
  m_8_hasCell (r0 + 7) x1 x2 x3 (fun (v_2 : Int32) (σ_1 : St) => ((¬ v_2 = 0 → m_0_remember (r0 + 42) (r0 + 7) (fun (σ_3 : St) => vp_in x1 6 ∧ ∀ r5_6 : Nat, r5_6 = ((((r0 + 7) + 1) + 5 + 3 * (x1).toNatClampNeg) + 2) → m_9_placeOf x2 x3 (fun (v_8 : Int32) (σ_7 : St) => vp_in v_8 40 ∧ ∀ x7_9 : Int32, x7_9 = (σ_7.1 r5_6 (v_8).toNatClampNeg) → vp_in v_8 40 ∧ ∀ σ_10 : St, σ_10 = wr σ_7 r5_6 (v_8).toNatClampNeg (vp_nar .boolean x4) → ((x7_9 = 0 → Q (0 : Int32) σ_10) ∧ (¬ x7_9 = 0 → Q (1 : Int32) σ_10))) σ_3) σ_1) ∧ (v_2 = 0 → Q (-1 : Int32) σ_1))) σ
theorem d_8_grip_0 : decode prog_10_method_16_code 0 = .ok (.bipush 100, 2) := by decide +kernel
theorem d_8_grip_2 : decode prog_10_method_16_code 2 = .ok (.bipush 15, 2) := by decide +kernel
theorem d_8_grip_4 : decode prog_10_method_16_code 4 = .ok (.aload_n 0, 1) := by decide +kernel
theorem d_8_grip_5 : decode prog_10_method_16_code 5 = .ok (.getfield 23, 3) := by decide +kernel
theorem d_8_grip_8 : decode prog_10_method_16_code 8 = .ok (.iconst 0, 1) := by decide +kernel
theorem d_8_grip_9 : decode prog_10_method_16_code 9 = .ok (.iaload, 1) := by decide +kernel
theorem d_8_grip_10 : decode prog_10_method_16_code 10 = .ok (.iconst 1, 1) := by decide +kernel
theorem d_8_grip_11 : decode prog_10_method_16_code 11 = .ok (.isub, 1) := by decide +kernel
theorem d_8_grip_12 : decode prog_10_method_16_code 12 = .ok (.imul, 1) := by decide +kernel
theorem d_8_grip_13 : decode prog_10_method_16_code 13 = .ok (.isub, 1) := by decide +kernel
theorem d_8_grip_14 : decode prog_10_method_16_code 14 = .ok (.aload_n 0, 1) := by decide +kernel
theorem d_8_grip_15 : decode prog_10_method_16_code 15 = .ok (.getfield 48, 3) := by decide +kernel
theorem d_8_grip_18 : decode prog_10_method_16_code 18 = .ok (.imul, 1) := by decide +kernel
theorem d_8_grip_19 : decode prog_10_method_16_code 19 = .ok (.sipush 1000, 3) := by decide +kernel
theorem d_8_grip_22 : decode prog_10_method_16_code 22 = .ok (.idiv, 1) := by decide +kernel
theorem d_8_grip_23 : decode prog_10_method_16_code 23 = .ok (.ireturn, 1) := by decide +kernel
def m_8_grip (r0 : Nat) (Q : Int32 → St → Prop) (σ : St) : Prop :=
  vp_in (0 : Int32) 6 ∧ Q ((((100 : Int32) - ((15 : Int32) * ((σ.1 (r0 + 3) ((0 : Int32)).toNatClampNeg) - (1 : Int32)))) * (σ.1 r0 6)) / (1000 : Int32)) σ
theorem d_6_couldGive_0 : decode prog_8_method_8_code 0 = .ok (.aload_n 0, 1) := by decide +kernel
theorem d_6_couldGive_1 : decode prog_8_method_8_code 1 = .ok (.getfield 15, 3) := by decide +kernel
theorem d_6_couldGive_4 : decode prog_8_method_8_code 4 = .ok (.iload_n 1, 1) := by decide +kernel
theorem d_6_couldGive_5 : decode prog_8_method_8_code 5 = .ok (.baload, 1) := by decide +kernel
theorem d_6_couldGive_6 : decode prog_8_method_8_code 6 = .ok (.ifCond .eq 7, 3) := by decide +kernel
theorem d_6_couldGive_9 : decode prog_8_method_8_code 9 = .ok (.iconst 0, 1) := by decide +kernel
theorem d_6_couldGive_10 : decode prog_8_method_8_code 10 = .ok (.goto 14, 3) := by decide +kernel
theorem d_6_couldGive_13 : decode prog_8_method_8_code 13 = .ok (.aload_n 0, 1) := by decide +kernel
theorem d_6_couldGive_14 : decode prog_8_method_8_code 14 = .ok (.getfield 9, 3) := by decide +kernel
theorem d_6_couldGive_17 : decode prog_8_method_8_code 17 = .ok (.iload_n 1, 1) := by decide +kernel
theorem d_6_couldGive_18 : decode prog_8_method_8_code 18 = .ok (.iaload, 1) := by decide +kernel
theorem d_6_couldGive_19 : decode prog_8_method_8_code 19 = .ok (.iload_n 2, 1) := by decide +kernel
theorem d_6_couldGive_20 : decode prog_8_method_8_code 20 = .ok (.imul, 1) := by decide +kernel
theorem d_6_couldGive_21 : decode prog_8_method_8_code 21 = .ok (.bipush 100, 2) := by decide +kernel
theorem d_6_couldGive_23 : decode prog_8_method_8_code 23 = .ok (.idiv, 1) := by decide +kernel
theorem d_6_couldGive_24 : decode prog_8_method_8_code 24 = .ok (.ireturn, 1) := by decide +kernel
def m_6_couldGive (r0 : Nat) (x1 : Int32) (x2 : Int32) (Q : Int32 → St → Prop) (σ : St) : Prop :=
  vp_in x1 40 ∧ (((σ.1 (r0 + 2) (x1).toNatClampNeg) = 0 → vp_in x1 40 ∧ Q (((σ.1 (r0 + 1) (x1).toNatClampNeg) * x2) / (100 : Int32)) σ) ∧ (¬ (σ.1 (r0 + 2) (x1).toNatClampNeg) = 0 → Q (0 : Int32) σ))
theorem d_8_room_0 : decode prog_10_method_17_code 0 = .ok (.aload_n 0, 1) := by decide +kernel
theorem d_8_room_1 : decode prog_10_method_17_code 1 = .ok (.getfield 23, 3) := by decide +kernel
theorem d_8_room_4 : decode prog_10_method_17_code 4 = .ok (.iconst 1, 1) := by decide +kernel
theorem d_8_room_5 : decode prog_10_method_17_code 5 = .ok (.iaload, 1) := by decide +kernel
theorem d_8_room_6 : decode prog_10_method_17_code 6 = .ok (.aload_n 0, 1) := by decide +kernel
theorem d_8_room_7 : decode prog_10_method_17_code 7 = .ok (.getfield 69, 3) := by decide +kernel
theorem d_8_room_10 : decode prog_10_method_17_code 10 = .ok (.isub, 1) := by decide +kernel
theorem d_8_room_11 : decode prog_10_method_17_code 11 = .ok (.ireturn, 1) := by decide +kernel
def m_8_room (r0 : Nat) (Q : Int32 → St → Prop) (σ : St) : Prop :=
  vp_in (1 : Int32) 6 ∧ Q ((σ.1 (r0 + 3) ((1 : Int32)).toNatClampNeg) - (σ.1 r0 7)) σ
theorem d_9_cell_0 : decode prog_1_method_10_code 0 = .ok (.aload_n 0, 1) := by decide +kernel
theorem d_9_cell_1 : decode prog_1_method_10_code 1 = .ok (.getfield 26, 3) := by decide +kernel
theorem d_9_cell_4 : decode prog_1_method_10_code 4 = .ok (.iload_n 1, 1) := by decide +kernel
theorem d_9_cell_5 : decode prog_1_method_10_code 5 = .ok (.iload_n 2, 1) := by decide +kernel
theorem d_9_cell_6 : decode prog_1_method_10_code 6 = .ok (.iload_n 3, 1) := by decide +kernel
theorem d_9_cell_7 : decode prog_1_method_10_code 7 = .ok (.invokevirtual 111, 3) := by decide +kernel
theorem d_9_cell_10 : decode prog_1_method_10_code 10 = .ok (.ifCond .ne 5, 3) := by decide +kernel
theorem d_9_cell_13 : decode prog_1_method_10_code 13 = .ok (.iconst (-1), 1) := by decide +kernel
theorem d_9_cell_14 : decode prog_1_method_10_code 14 = .ok (.ireturn, 1) := by decide +kernel
theorem d_9_cell_15 : decode prog_1_method_10_code 15 = .ok (.aload_n 0, 1) := by decide +kernel
theorem d_9_cell_16 : decode prog_1_method_10_code 16 = .ok (.getfield 26, 3) := by decide +kernel
theorem d_9_cell_19 : decode prog_1_method_10_code 19 = .ok (.getfield 122, 3) := by decide +kernel
theorem d_9_cell_22 : decode prog_1_method_10_code 22 = .ok (.iload_n 1, 1) := by decide +kernel
theorem d_9_cell_23 : decode prog_1_method_10_code 23 = .ok (.aaload, 1) := by decide +kernel
theorem d_9_cell_24 : decode prog_1_method_10_code 24 = .ok (.astore 5, 2) := by decide +kernel
theorem d_9_cell_26 : decode prog_1_method_10_code 26 = .ok (.iload_n 2, 1) := by decide +kernel
theorem d_9_cell_27 : decode prog_1_method_10_code 27 = .ok (.iload_n 3, 1) := by decide +kernel
theorem d_9_cell_28 : decode prog_1_method_10_code 28 = .ok (.invokestatic 115, 3) := by decide +kernel
theorem d_9_cell_31 : decode prog_1_method_10_code 31 = .ok (.istore 6, 2) := by decide +kernel
theorem d_9_cell_33 : decode prog_1_method_10_code 33 = .ok (.iload 4, 2) := by decide +kernel
theorem d_9_cell_35 : decode prog_1_method_10_code 35 = .ok (.tableswitch 76 0 2 #[25, 34, 51], 25) := by decide +kernel
theorem d_9_cell_60 : decode prog_1_method_10_code 60 = .ok (.aload 5, 2) := by decide +kernel
theorem d_9_cell_62 : decode prog_1_method_10_code 62 = .ok (.getfield 130, 3) := by decide +kernel
theorem d_9_cell_65 : decode prog_1_method_10_code 65 = .ok (.iload 6, 2) := by decide +kernel
theorem d_9_cell_67 : decode prog_1_method_10_code 67 = .ok (.iaload, 1) := by decide +kernel
theorem d_9_cell_68 : decode prog_1_method_10_code 68 = .ok (.ireturn, 1) := by decide +kernel
theorem d_9_cell_69 : decode prog_1_method_10_code 69 = .ok (.aload 5, 2) := by decide +kernel
theorem d_9_cell_71 : decode prog_1_method_10_code 71 = .ok (.getfield 126, 3) := by decide +kernel
theorem d_9_cell_74 : decode prog_1_method_10_code 74 = .ok (.iload 6, 2) := by decide +kernel
theorem d_9_cell_76 : decode prog_1_method_10_code 76 = .ok (.baload, 1) := by decide +kernel
theorem d_9_cell_77 : decode prog_1_method_10_code 77 = .ok (.ifCond .eq 7, 3) := by decide +kernel
theorem d_9_cell_80 : decode prog_1_method_10_code 80 = .ok (.iconst 1, 1) := by decide +kernel
theorem d_9_cell_81 : decode prog_1_method_10_code 81 = .ok (.goto 4, 3) := by decide +kernel
theorem d_9_cell_84 : decode prog_1_method_10_code 84 = .ok (.iconst 0, 1) := by decide +kernel
theorem d_9_cell_85 : decode prog_1_method_10_code 85 = .ok (.ireturn, 1) := by decide +kernel
theorem d_9_cell_86 : decode prog_1_method_10_code 86 = .ok (.aload 5, 2) := by decide +kernel
theorem d_9_cell_88 : decode prog_1_method_10_code 88 = .ok (.iload 6, 2) := by decide +kernel
theorem d_9_cell_90 : decode prog_1_method_10_code 90 = .ok (.aload_n 0, 1) := by decide +kernel
theorem d_9_cell_91 : decode prog_1_method_10_code 91 = .ok (.getfield 26, 3) := by decide +kernel
theorem d_9_cell_94 : decode prog_1_method_10_code 94 = .ok (.invokevirtual 134, 3) := by decide +kernel
theorem d_9_cell_97 : decode prog_1_method_10_code 97 = .ok (.invokevirtual 138, 3) := by decide +kernel
theorem d_9_cell_100 : decode prog_1_method_10_code 100 = .ok (.aload_n 0, 1) := by decide +kernel
theorem d_9_cell_101 : decode prog_1_method_10_code 101 = .ok (.getfield 26, 3) := by decide +kernel
theorem d_9_cell_104 : decode prog_1_method_10_code 104 = .ok (.invokevirtual 141, 3) := by decide +kernel
theorem d_9_cell_107 : decode prog_1_method_10_code 107 = .ok (.invokestatic 144, 3) := by decide +kernel
theorem d_9_cell_110 : decode prog_1_method_10_code 110 = .ok (.ireturn, 1) := by decide +kernel
theorem d_9_cell_111 : decode prog_1_method_10_code 111 = .ok (.iconst (-1), 1) := by decide +kernel
theorem d_9_cell_112 : decode prog_1_method_10_code 112 = .ok (.ireturn, 1) := by decide +kernel
def m_9_cell (r0 : Nat) (x1 : Int32) (x2 : Int32) (x3 : Int32) (x4 : Int32) (Q : Int32 → St → Prop) (σ : St) : Prop :=
  m_8_hasCell (r0 + 7) x1 x2 x3 (fun (v_2 : Int32) (σ_1 : St) => ((¬ v_2 = 0 → vp_in x1 6 ∧ ∀ r5_4 : Nat, r5_4 = (((r0 + 7) + 1) + 5 + 3 * (x1).toNatClampNeg) → m_9_placeOf x2 x3 (fun (v_6 : Int32) (σ_5 : St) => (((x4.toInt < 0 ∨ 2 < x4.toInt) → Q (-1 : Int32) σ_5) ∧ (x4 = 0 → vp_in v_6 40 ∧ Q (σ_5.1 (r5_4 + 1) (v_6).toNatClampNeg) σ_5) ∧ (x4 = 1 → vp_in v_6 40 ∧ (((σ_5.1 (r5_4 + 2) (v_6).toNatClampNeg) = 0 → Q (0 : Int32) σ_5) ∧ (¬ (σ_5.1 (r5_4 + 2) (v_6).toNatClampNeg) = 0 → Q (1 : Int32) σ_5))) ∧ (x4 = 2 → m_8_grip (r0 + 7) (fun (v_9 : Int32) (σ_8 : St) => m_6_couldGive r5_4 v_6 v_9 (fun (v_11 : Int32) (σ_10 : St) => m_8_room (r0 + 7) (fun (v_13 : Int32) (σ_12 : St) => Q (if v_13 < v_11 then v_13 else v_11) σ_12) σ_10) σ_8) σ_5))) σ_1) ∧ (v_2 = 0 → Q (-1 : Int32) σ_1))) σ
theorem d_6_parkedCells_0 : decode prog_8_method_6_code 0 = .ok (.iconst 0, 1) := by decide +kernel
theorem d_6_parkedCells_1 : decode prog_8_method_6_code 1 = .ok (.istore_n 1, 1) := by decide +kernel
theorem d_6_parkedCells_2 : decode prog_8_method_6_code 2 = .ok (.iconst 0, 1) := by decide +kernel
theorem d_6_parkedCells_3 : decode prog_8_method_6_code 3 = .ok (.istore_n 2, 1) := by decide +kernel
theorem d_6_parkedCells_4 : decode prog_8_method_6_code 4 = .ok (.iload_n 2, 1) := by decide +kernel
theorem d_6_parkedCells_5 : decode prog_8_method_6_code 5 = .ok (.aload_n 0, 1) := by decide +kernel
theorem d_6_parkedCells_6 : decode prog_8_method_6_code 6 = .ok (.getfield 19, 3) := by decide +kernel
theorem d_6_parkedCells_9 : decode prog_8_method_6_code 9 = .ok (.if_icmp .ge 51, 3) := by decide +kernel
theorem d_6_parkedCells_12 : decode prog_8_method_6_code 12 = .ok (.iload_n 1, 1) := by decide +kernel
theorem d_6_parkedCells_13 : decode prog_8_method_6_code 13 = .ok (.aload_n 0, 1) := by decide +kernel
theorem d_6_parkedCells_14 : decode prog_8_method_6_code 14 = .ok (.getfield 15, 3) := by decide +kernel
theorem d_6_parkedCells_17 : decode prog_8_method_6_code 17 = .ok (.iconst 0, 1) := by decide +kernel
theorem d_6_parkedCells_18 : decode prog_8_method_6_code 18 = .ok (.iload_n 2, 1) := by decide +kernel
theorem d_6_parkedCells_19 : decode prog_8_method_6_code 19 = .ok (.invokestatic 29, 3) := by decide +kernel
theorem d_6_parkedCells_22 : decode prog_8_method_6_code 22 = .ok (.baload, 1) := by decide +kernel
theorem d_6_parkedCells_23 : decode prog_8_method_6_code 23 = .ok (.ifCond .eq 7, 3) := by decide +kernel
theorem d_6_parkedCells_26 : decode prog_8_method_6_code 26 = .ok (.iconst 1, 1) := by decide +kernel
theorem d_6_parkedCells_27 : decode prog_8_method_6_code 27 = .ok (.goto 4, 3) := by decide +kernel
theorem d_6_parkedCells_30 : decode prog_8_method_6_code 30 = .ok (.iconst 0, 1) := by decide +kernel
theorem d_6_parkedCells_31 : decode prog_8_method_6_code 31 = .ok (.iadd, 1) := by decide +kernel
theorem d_6_parkedCells_32 : decode prog_8_method_6_code 32 = .ok (.istore_n 1, 1) := by decide +kernel
theorem d_6_parkedCells_33 : decode prog_8_method_6_code 33 = .ok (.iload_n 1, 1) := by decide +kernel
theorem d_6_parkedCells_34 : decode prog_8_method_6_code 34 = .ok (.aload_n 0, 1) := by decide +kernel
theorem d_6_parkedCells_35 : decode prog_8_method_6_code 35 = .ok (.getfield 15, 3) := by decide +kernel
theorem d_6_parkedCells_38 : decode prog_8_method_6_code 38 = .ok (.iconst 1, 1) := by decide +kernel
theorem d_6_parkedCells_39 : decode prog_8_method_6_code 39 = .ok (.iload_n 2, 1) := by decide +kernel
theorem d_6_parkedCells_40 : decode prog_8_method_6_code 40 = .ok (.invokestatic 29, 3) := by decide +kernel
theorem d_6_parkedCells_43 : decode prog_8_method_6_code 43 = .ok (.baload, 1) := by decide +kernel
theorem d_6_parkedCells_44 : decode prog_8_method_6_code 44 = .ok (.ifCond .eq 7, 3) := by decide +kernel
theorem d_6_parkedCells_47 : decode prog_8_method_6_code 47 = .ok (.iconst 1, 1) := by decide +kernel
theorem d_6_parkedCells_48 : decode prog_8_method_6_code 48 = .ok (.goto 4, 3) := by decide +kernel
theorem d_6_parkedCells_51 : decode prog_8_method_6_code 51 = .ok (.iconst 0, 1) := by decide +kernel
theorem d_6_parkedCells_52 : decode prog_8_method_6_code 52 = .ok (.iadd, 1) := by decide +kernel
theorem d_6_parkedCells_53 : decode prog_8_method_6_code 53 = .ok (.istore_n 1, 1) := by decide +kernel
theorem d_6_parkedCells_54 : decode prog_8_method_6_code 54 = .ok (.iinc 2 1, 3) := by decide +kernel
theorem d_6_parkedCells_57 : decode prog_8_method_6_code 57 = .ok (.goto (-53), 3) := by decide +kernel
theorem d_6_parkedCells_60 : decode prog_8_method_6_code 60 = .ok (.iload_n 1, 1) := by decide +kernel
theorem d_6_parkedCells_61 : decode prog_8_method_6_code 61 = .ok (.ireturn, 1) := by decide +kernel
def m_6_parkedCells_31 (r0 : Nat) (x2 : Int32) (B4 : Int32 → Int32 → St → Prop) (Q : Int32 → St → Prop) (t0 : Int32) (t1 : Int32) (σ : St) : Prop :=
  ∀ x1_1 : Int32, x1_1 = (t1 + t0) → m_9_placeOf (1 : Int32) x2 (fun (v_3 : Int32) (σ_2 : St) => vp_in v_3 40 ∧ (((σ_2.1 (r0 + 2) (v_3).toNatClampNeg) = 0 → ∀ x1_4 : Int32, x1_4 = (x1_1 + (0 : Int32)) → ∀ x2_5 : Int32, x2_5 = x2 + 1 → B4 x1_4 x2_5 σ_2) ∧ (¬ (σ_2.1 (r0 + 2) (v_3).toNatClampNeg) = 0 → ∀ x1_6 : Int32, x1_6 = (x1_1 + (1 : Int32)) → ∀ x2_7 : Int32, x2_7 = x2 + 1 → B4 x1_6 x2_7 σ_2))) σ
def m_6_parkedCells_4 (r0 : Nat) (Q : Int32 → St → Prop) (B4 : Int32 → Int32 → St → Prop) (x1 : Int32) (x2 : Int32) (σ : St) : Prop :=
  (((σ.1 r0 0) ≤ x2 → Q x1 σ) ∧ (¬ (σ.1 r0 0) ≤ x2 → m_9_placeOf (0 : Int32) x2 (fun (v_2 : Int32) (σ_1 : St) => vp_in v_2 40 ∧ (((σ_1.1 (r0 + 2) (v_2).toNatClampNeg) = 0 → m_6_parkedCells_31 r0 x2 B4 Q  (0 : Int32) x1 σ_1) ∧ (¬ (σ_1.1 (r0 + 2) (v_2).toNatClampNeg) = 0 → m_6_parkedCells_31 r0 x2 B4 Q  (1 : Int32) x1 σ_1))) σ))
def m_6_parkedCells (r0 : Nat) (Q : Int32 → St → Prop) (σ : St) : Prop :=
  itN (m_6_parkedCells_4 r0 Q) (fun _ _ _ => False) FU (0 : Int32) (0 : Int32) σ
theorem d_6_greatestDirt_0 : decode prog_8_method_7_code 0 = .ok (.iconst 0, 1) := by decide +kernel
theorem d_6_greatestDirt_1 : decode prog_8_method_7_code 1 = .ok (.istore_n 1, 1) := by decide +kernel
theorem d_6_greatestDirt_2 : decode prog_8_method_7_code 2 = .ok (.iconst 0, 1) := by decide +kernel
theorem d_6_greatestDirt_3 : decode prog_8_method_7_code 3 = .ok (.istore_n 2, 1) := by decide +kernel
theorem d_6_greatestDirt_4 : decode prog_8_method_7_code 4 = .ok (.iload_n 2, 1) := by decide +kernel
theorem d_6_greatestDirt_5 : decode prog_8_method_7_code 5 = .ok (.aload_n 0, 1) := by decide +kernel
theorem d_6_greatestDirt_6 : decode prog_8_method_7_code 6 = .ok (.getfield 19, 3) := by decide +kernel
theorem d_6_greatestDirt_9 : decode prog_8_method_7_code 9 = .ok (.if_icmp .ge 39, 3) := by decide +kernel
theorem d_6_greatestDirt_12 : decode prog_8_method_7_code 12 = .ok (.iload_n 1, 1) := by decide +kernel
theorem d_6_greatestDirt_13 : decode prog_8_method_7_code 13 = .ok (.aload_n 0, 1) := by decide +kernel
theorem d_6_greatestDirt_14 : decode prog_8_method_7_code 14 = .ok (.getfield 9, 3) := by decide +kernel
theorem d_6_greatestDirt_17 : decode prog_8_method_7_code 17 = .ok (.iconst 0, 1) := by decide +kernel
theorem d_6_greatestDirt_18 : decode prog_8_method_7_code 18 = .ok (.iload_n 2, 1) := by decide +kernel
theorem d_6_greatestDirt_19 : decode prog_8_method_7_code 19 = .ok (.invokestatic 29, 3) := by decide +kernel
theorem d_6_greatestDirt_22 : decode prog_8_method_7_code 22 = .ok (.iaload, 1) := by decide +kernel
theorem d_6_greatestDirt_23 : decode prog_8_method_7_code 23 = .ok (.invokestatic 37, 3) := by decide +kernel
theorem d_6_greatestDirt_26 : decode prog_8_method_7_code 26 = .ok (.istore_n 1, 1) := by decide +kernel
theorem d_6_greatestDirt_27 : decode prog_8_method_7_code 27 = .ok (.iload_n 1, 1) := by decide +kernel
theorem d_6_greatestDirt_28 : decode prog_8_method_7_code 28 = .ok (.aload_n 0, 1) := by decide +kernel
theorem d_6_greatestDirt_29 : decode prog_8_method_7_code 29 = .ok (.getfield 9, 3) := by decide +kernel
theorem d_6_greatestDirt_32 : decode prog_8_method_7_code 32 = .ok (.iconst 1, 1) := by decide +kernel
theorem d_6_greatestDirt_33 : decode prog_8_method_7_code 33 = .ok (.iload_n 2, 1) := by decide +kernel
theorem d_6_greatestDirt_34 : decode prog_8_method_7_code 34 = .ok (.invokestatic 29, 3) := by decide +kernel
theorem d_6_greatestDirt_37 : decode prog_8_method_7_code 37 = .ok (.iaload, 1) := by decide +kernel
theorem d_6_greatestDirt_38 : decode prog_8_method_7_code 38 = .ok (.invokestatic 37, 3) := by decide +kernel
theorem d_6_greatestDirt_41 : decode prog_8_method_7_code 41 = .ok (.istore_n 1, 1) := by decide +kernel
theorem d_6_greatestDirt_42 : decode prog_8_method_7_code 42 = .ok (.iinc 2 1, 3) := by decide +kernel
theorem d_6_greatestDirt_45 : decode prog_8_method_7_code 45 = .ok (.goto (-41), 3) := by decide +kernel
theorem d_6_greatestDirt_48 : decode prog_8_method_7_code 48 = .ok (.iload_n 1, 1) := by decide +kernel
theorem d_6_greatestDirt_49 : decode prog_8_method_7_code 49 = .ok (.ireturn, 1) := by decide +kernel
def m_6_greatestDirt_4 (r0 : Nat) (Q : Int32 → St → Prop) (B4 : Int32 → Int32 → St → Prop) (x1 : Int32) (x2 : Int32) (σ : St) : Prop :=
  (((σ.1 r0 0) ≤ x2 → Q x1 σ) ∧ (¬ (σ.1 r0 0) ≤ x2 → m_9_placeOf (0 : Int32) x2 (fun (v_2 : Int32) (σ_1 : St) => vp_in v_2 40 ∧ ∀ x1_3 : Int32, x1_3 = (if x1 < (σ_1.1 (r0 + 1) (v_2).toNatClampNeg) then (σ_1.1 (r0 + 1) (v_2).toNatClampNeg) else x1) → m_9_placeOf (1 : Int32) x2 (fun (v_5 : Int32) (σ_4 : St) => vp_in v_5 40 ∧ ∀ x1_6 : Int32, x1_6 = (if x1_3 < (σ_4.1 (r0 + 1) (v_5).toNatClampNeg) then (σ_4.1 (r0 + 1) (v_5).toNatClampNeg) else x1_3) → ∀ x2_7 : Int32, x2_7 = x2 + 1 → B4 x1_6 x2_7 σ_4) σ_1) σ))
def m_6_greatestDirt (r0 : Nat) (Q : Int32 → St → Prop) (σ : St) : Prop :=
  itN (m_6_greatestDirt_4 r0 Q) (fun _ _ _ => False) FU (0 : Int32) (0 : Int32) σ
theorem d_8_legsIn_0 : decode prog_10_method_7_code 0 = .ok (.iconst 0, 1) := by decide +kernel
theorem d_8_legsIn_1 : decode prog_10_method_7_code 1 = .ok (.istore_n 2, 1) := by decide +kernel
theorem d_8_legsIn_2 : decode prog_10_method_7_code 2 = .ok (.iconst 0, 1) := by decide +kernel
theorem d_8_legsIn_3 : decode prog_10_method_7_code 3 = .ok (.istore_n 3, 1) := by decide +kernel
theorem d_8_legsIn_4 : decode prog_10_method_7_code 4 = .ok (.iload_n 3, 1) := by decide +kernel
theorem d_8_legsIn_5 : decode prog_10_method_7_code 5 = .ok (.aload_n 0, 1) := by decide +kernel
theorem d_8_legsIn_6 : decode prog_10_method_7_code 6 = .ok (.getfield 59, 3) := by decide +kernel
theorem d_8_legsIn_9 : decode prog_10_method_7_code 9 = .ok (.if_icmp .ge 30, 3) := by decide +kernel
theorem d_8_legsIn_12 : decode prog_10_method_7_code 12 = .ok (.iload_n 2, 1) := by decide +kernel
theorem d_8_legsIn_13 : decode prog_10_method_7_code 13 = .ok (.aload_n 0, 1) := by decide +kernel
theorem d_8_legsIn_14 : decode prog_10_method_7_code 14 = .ok (.getfield 19, 3) := by decide +kernel
theorem d_8_legsIn_17 : decode prog_10_method_7_code 17 = .ok (.iload_n 3, 1) := by decide +kernel
theorem d_8_legsIn_18 : decode prog_10_method_7_code 18 = .ok (.aaload, 1) := by decide +kernel
theorem d_8_legsIn_19 : decode prog_10_method_7_code 19 = .ok (.getfield 92, 3) := by decide +kernel
theorem d_8_legsIn_22 : decode prog_10_method_7_code 22 = .ok (.iload_n 1, 1) := by decide +kernel
theorem d_8_legsIn_23 : decode prog_10_method_7_code 23 = .ok (.if_icmp .ne 7, 3) := by decide +kernel
theorem d_8_legsIn_26 : decode prog_10_method_7_code 26 = .ok (.iconst 1, 1) := by decide +kernel
theorem d_8_legsIn_27 : decode prog_10_method_7_code 27 = .ok (.goto 4, 3) := by decide +kernel
theorem d_8_legsIn_30 : decode prog_10_method_7_code 30 = .ok (.iconst 0, 1) := by decide +kernel
theorem d_8_legsIn_31 : decode prog_10_method_7_code 31 = .ok (.iadd, 1) := by decide +kernel
theorem d_8_legsIn_32 : decode prog_10_method_7_code 32 = .ok (.istore_n 2, 1) := by decide +kernel
theorem d_8_legsIn_33 : decode prog_10_method_7_code 33 = .ok (.iinc 3 1, 3) := by decide +kernel
theorem d_8_legsIn_36 : decode prog_10_method_7_code 36 = .ok (.goto (-32), 3) := by decide +kernel
theorem d_8_legsIn_39 : decode prog_10_method_7_code 39 = .ok (.iload_n 2, 1) := by decide +kernel
theorem d_8_legsIn_40 : decode prog_10_method_7_code 40 = .ok (.ireturn, 1) := by decide +kernel
def m_8_legsIn_4 (r0 : Nat) (x1 : Int32) (Q : Int32 → St → Prop) (B4 : Int32 → Int32 → St → Prop) (x2 : Int32) (x3 : Int32) (σ : St) : Prop :=
  (((σ.1 r0 3) ≤ x3 → Q x2 σ) ∧ (¬ (σ.1 r0 3) ≤ x3 → vp_in x3 10 ∧ ((¬ (σ.1 ((r0 + 2) + 22 + (x3).toNatClampNeg) 0) = x1 → ∀ x2_2 : Int32, x2_2 = (x2 + (0 : Int32)) → ∀ x3_3 : Int32, x3_3 = x3 + 1 → B4 x2_2 x3_3 σ) ∧ ((σ.1 ((r0 + 2) + 22 + (x3).toNatClampNeg) 0) = x1 → ∀ x2_4 : Int32, x2_4 = (x2 + (1 : Int32)) → ∀ x3_5 : Int32, x3_5 = x3 + 1 → B4 x2_4 x3_5 σ))))
def m_8_legsIn (r0 : Nat) (x1 : Int32) (Q : Int32 → St → Prop) (σ : St) : Prop :=
  itN (m_8_legsIn_4 r0 x1 Q) (fun _ _ _ => False) FU (0 : Int32) (0 : Int32) σ
theorem d_9_street_0 : decode prog_1_method_11_code 0 = .ok (.aload_n 0, 1) := by decide +kernel
theorem d_9_street_1 : decode prog_1_method_11_code 1 = .ok (.getfield 26, 3) := by decide +kernel
theorem d_9_street_4 : decode prog_1_method_11_code 4 = .ok (.iload_n 1, 1) := by decide +kernel
theorem d_9_street_5 : decode prog_1_method_11_code 5 = .ok (.invokevirtual 100, 3) := by decide +kernel
theorem d_9_street_8 : decode prog_1_method_11_code 8 = .ok (.ifCond .ne 5, 3) := by decide +kernel
theorem d_9_street_11 : decode prog_1_method_11_code 11 = .ok (.iconst (-1), 1) := by decide +kernel
theorem d_9_street_12 : decode prog_1_method_11_code 12 = .ok (.ireturn, 1) := by decide +kernel
theorem d_9_street_13 : decode prog_1_method_11_code 13 = .ok (.aload_n 0, 1) := by decide +kernel
theorem d_9_street_14 : decode prog_1_method_11_code 14 = .ok (.getfield 26, 3) := by decide +kernel
theorem d_9_street_17 : decode prog_1_method_11_code 17 = .ok (.getfield 122, 3) := by decide +kernel
theorem d_9_street_20 : decode prog_1_method_11_code 20 = .ok (.iload_n 1, 1) := by decide +kernel
theorem d_9_street_21 : decode prog_1_method_11_code 21 = .ok (.aaload, 1) := by decide +kernel
theorem d_9_street_22 : decode prog_1_method_11_code 22 = .ok (.astore_n 3, 1) := by decide +kernel
theorem d_9_street_23 : decode prog_1_method_11_code 23 = .ok (.iload_n 2, 1) := by decide +kernel
theorem d_9_street_24 : decode prog_1_method_11_code 24 = .ok (.tableswitch 94 0 7 #[48, 53, 58, 63, 69, 75, 80, 85], 48) := by decide +kernel
theorem d_9_street_72 : decode prog_1_method_11_code 72 = .ok (.aload_n 3, 1) := by decide +kernel
theorem d_9_street_73 : decode prog_1_method_11_code 73 = .ok (.getfield 91, 3) := by decide +kernel
theorem d_9_street_76 : decode prog_1_method_11_code 76 = .ok (.ireturn, 1) := by decide +kernel
theorem d_9_street_77 : decode prog_1_method_11_code 77 = .ok (.aload_n 3, 1) := by decide +kernel
theorem d_9_street_78 : decode prog_1_method_11_code 78 = .ok (.getfield 149, 3) := by decide +kernel
theorem d_9_street_81 : decode prog_1_method_11_code 81 = .ok (.ireturn, 1) := by decide +kernel
theorem d_9_street_82 : decode prog_1_method_11_code 82 = .ok (.aload_n 3, 1) := by decide +kernel
theorem d_9_street_83 : decode prog_1_method_11_code 83 = .ok (.getfield 152, 3) := by decide +kernel
theorem d_9_street_86 : decode prog_1_method_11_code 86 = .ok (.ireturn, 1) := by decide +kernel
theorem d_9_street_87 : decode prog_1_method_11_code 87 = .ok (.aload_n 3, 1) := by decide +kernel
theorem d_9_street_88 : decode prog_1_method_11_code 88 = .ok (.iconst 0, 1) := by decide +kernel
theorem d_9_street_89 : decode prog_1_method_11_code 89 = .ok (.invokevirtual 155, 3) := by decide +kernel
theorem d_9_street_92 : decode prog_1_method_11_code 92 = .ok (.ireturn, 1) := by decide +kernel
theorem d_9_street_93 : decode prog_1_method_11_code 93 = .ok (.aload_n 3, 1) := by decide +kernel
theorem d_9_street_94 : decode prog_1_method_11_code 94 = .ok (.iconst 1, 1) := by decide +kernel
theorem d_9_street_95 : decode prog_1_method_11_code 95 = .ok (.invokevirtual 155, 3) := by decide +kernel
theorem d_9_street_98 : decode prog_1_method_11_code 98 = .ok (.ireturn, 1) := by decide +kernel
theorem d_9_street_99 : decode prog_1_method_11_code 99 = .ok (.aload_n 3, 1) := by decide +kernel
theorem d_9_street_100 : decode prog_1_method_11_code 100 = .ok (.invokevirtual 159, 3) := by decide +kernel
theorem d_9_street_103 : decode prog_1_method_11_code 103 = .ok (.ireturn, 1) := by decide +kernel
theorem d_9_street_104 : decode prog_1_method_11_code 104 = .ok (.aload_n 3, 1) := by decide +kernel
theorem d_9_street_105 : decode prog_1_method_11_code 105 = .ok (.invokevirtual 162, 3) := by decide +kernel
theorem d_9_street_108 : decode prog_1_method_11_code 108 = .ok (.ireturn, 1) := by decide +kernel
theorem d_9_street_109 : decode prog_1_method_11_code 109 = .ok (.aload_n 0, 1) := by decide +kernel
theorem d_9_street_110 : decode prog_1_method_11_code 110 = .ok (.getfield 26, 3) := by decide +kernel
theorem d_9_street_113 : decode prog_1_method_11_code 113 = .ok (.iload_n 1, 1) := by decide +kernel
theorem d_9_street_114 : decode prog_1_method_11_code 114 = .ok (.invokevirtual 165, 3) := by decide +kernel
theorem d_9_street_117 : decode prog_1_method_11_code 117 = .ok (.ireturn, 1) := by decide +kernel
theorem d_9_street_118 : decode prog_1_method_11_code 118 = .ok (.iconst (-1), 1) := by decide +kernel
theorem d_9_street_119 : decode prog_1_method_11_code 119 = .ok (.ireturn, 1) := by decide +kernel
def m_9_street (r0 : Nat) (x1 : Int32) (x2 : Int32) (Q : Int32 → St → Prop) (σ : St) : Prop :=
  m_8_hasStreet (r0 + 7) x1 (fun (v_2 : Int32) (σ_1 : St) => ((¬ v_2 = 0 → vp_in x1 6 ∧ ∀ r3_4 : Nat, r3_4 = (((r0 + 7) + 1) + 5 + 3 * (x1).toNatClampNeg) → (((x2.toInt < 0 ∨ 7 < x2.toInt) → Q (-1 : Int32) σ_1) ∧ (x2 = 0 → Q (σ_1.1 r3_4 0) σ_1) ∧ (x2 = 1 → Q (σ_1.1 r3_4 1) σ_1) ∧ (x2 = 2 → Q (σ_1.1 r3_4 2) σ_1) ∧ (x2 = 3 → m_6_dirtOfSide r3_4 (0 : Int32) (fun (v_7 : Int32) (σ_6 : St) => Q v_7 σ_6) σ_1) ∧ (x2 = 4 → m_6_dirtOfSide r3_4 (1 : Int32) (fun (v_9 : Int32) (σ_8 : St) => Q v_9 σ_8) σ_1) ∧ (x2 = 5 → m_6_parkedCells r3_4 (fun (v_11 : Int32) (σ_10 : St) => Q v_11 σ_10) σ_1) ∧ (x2 = 6 → m_6_greatestDirt r3_4 (fun (v_13 : Int32) (σ_12 : St) => Q v_13 σ_12) σ_1) ∧ (x2 = 7 → m_8_legsIn (r0 + 7) x1 (fun (v_15 : Int32) (σ_14 : St) => Q v_15 σ_14) σ_1))) ∧ (v_2 = 0 → Q (-1 : Int32) σ_1))) σ
theorem d_8_leastSetting_0 : decode prog_10_method_15_code 0 = .ok (.iload_n 1, 1) := by decide +kernel
theorem d_8_leastSetting_1 : decode prog_10_method_15_code 1 = .ok (.iconst 1, 1) := by decide +kernel
theorem d_8_leastSetting_2 : decode prog_10_method_15_code 2 = .ok (.if_icmp .ne 18, 3) := by decide +kernel
theorem d_8_leastSetting_5 : decode prog_10_method_15_code 5 = .ok (.getstatic 120, 3) := by decide +kernel
theorem d_8_leastSetting_8 : decode prog_10_method_15_code 8 = .ok (.iload_n 1, 1) := by decide +kernel
theorem d_8_leastSetting_9 : decode prog_10_method_15_code 9 = .ok (.iaload, 1) := by decide +kernel
theorem d_8_leastSetting_10 : decode prog_10_method_15_code 10 = .ok (.aload_n 0, 1) := by decide +kernel
theorem d_8_leastSetting_11 : decode prog_10_method_15_code 11 = .ok (.getfield 69, 3) := by decide +kernel
theorem d_8_leastSetting_14 : decode prog_10_method_15_code 14 = .ok (.invokestatic 114, 3) := by decide +kernel
theorem d_8_leastSetting_17 : decode prog_10_method_15_code 17 = .ok (.goto 8, 3) := by decide +kernel
theorem d_8_leastSetting_20 : decode prog_10_method_15_code 20 = .ok (.getstatic 120, 3) := by decide +kernel
theorem d_8_leastSetting_23 : decode prog_10_method_15_code 23 = .ok (.iload_n 1, 1) := by decide +kernel
theorem d_8_leastSetting_24 : decode prog_10_method_15_code 24 = .ok (.iaload, 1) := by decide +kernel
theorem d_8_leastSetting_25 : decode prog_10_method_15_code 25 = .ok (.ireturn, 1) := by decide +kernel
def m_8_leastSetting (r0 : Nat) (x1 : Int32) (Q : Int32 → St → Prop) (σ : St) : Prop :=
  ((¬ x1 = (1 : Int32) → vp_in x1 6 ∧ Q (stV 1 (x1).toNatClampNeg) σ) ∧ (x1 = (1 : Int32) → vp_in x1 6 ∧ Q (if (stV 1 (x1).toNatClampNeg) < (σ.1 r0 7) then (σ.1 r0 7) else (stV 1 (x1).toNatClampNeg)) σ))
theorem d_9_set_0 : decode prog_1_method_12_code 0 = .ok (.iload_n 1, 1) := by decide +kernel
theorem d_9_set_1 : decode prog_1_method_12_code 1 = .ok (.ifCond .lt 30, 3) := by decide +kernel
theorem d_9_set_4 : decode prog_1_method_12_code 4 = .ok (.iload_n 1, 1) := by decide +kernel
theorem d_9_set_5 : decode prog_1_method_12_code 5 = .ok (.bipush 6, 2) := by decide +kernel
theorem d_9_set_7 : decode prog_1_method_12_code 7 = .ok (.if_icmp .ge 24, 3) := by decide +kernel
theorem d_9_set_10 : decode prog_1_method_12_code 10 = .ok (.iload_n 2, 1) := by decide +kernel
theorem d_9_set_11 : decode prog_1_method_12_code 11 = .ok (.aload_n 0, 1) := by decide +kernel
theorem d_9_set_12 : decode prog_1_method_12_code 12 = .ok (.getfield 26, 3) := by decide +kernel
theorem d_9_set_15 : decode prog_1_method_12_code 15 = .ok (.iload_n 1, 1) := by decide +kernel
theorem d_9_set_16 : decode prog_1_method_12_code 16 = .ok (.invokevirtual 168, 3) := by decide +kernel
theorem d_9_set_19 : decode prog_1_method_12_code 19 = .ok (.if_icmp .lt 12, 3) := by decide +kernel
theorem d_9_set_22 : decode prog_1_method_12_code 22 = .ok (.iload_n 2, 1) := by decide +kernel
theorem d_9_set_23 : decode prog_1_method_12_code 23 = .ok (.getstatic 171, 3) := by decide +kernel
theorem d_9_set_26 : decode prog_1_method_12_code 26 = .ok (.iload_n 1, 1) := by decide +kernel
theorem d_9_set_27 : decode prog_1_method_12_code 27 = .ok (.iaload, 1) := by decide +kernel
theorem d_9_set_28 : decode prog_1_method_12_code 28 = .ok (.if_icmp .le 5, 3) := by decide +kernel
theorem d_9_set_31 : decode prog_1_method_12_code 31 = .ok (.iconst (-1), 1) := by decide +kernel
theorem d_9_set_32 : decode prog_1_method_12_code 32 = .ok (.ireturn, 1) := by decide +kernel
theorem d_9_set_33 : decode prog_1_method_12_code 33 = .ok (.aload_n 0, 1) := by decide +kernel
theorem d_9_set_34 : decode prog_1_method_12_code 34 = .ok (.getfield 42, 3) := by decide +kernel
theorem d_9_set_37 : decode prog_1_method_12_code 37 = .ok (.aload_n 0, 1) := by decide +kernel
theorem d_9_set_38 : decode prog_1_method_12_code 38 = .ok (.getfield 26, 3) := by decide +kernel
theorem d_9_set_41 : decode prog_1_method_12_code 41 = .ok (.invokevirtual 80, 3) := by decide +kernel
theorem d_9_set_44 : decode prog_1_method_12_code 44 = .ok (.aload_n 0, 1) := by decide +kernel
theorem d_9_set_45 : decode prog_1_method_12_code 45 = .ok (.getfield 26, 3) := by decide +kernel
theorem d_9_set_48 : decode prog_1_method_12_code 48 = .ok (.getfield 174, 3) := by decide +kernel
theorem d_9_set_51 : decode prog_1_method_12_code 51 = .ok (.iload_n 1, 1) := by decide +kernel
theorem d_9_set_52 : decode prog_1_method_12_code 52 = .ok (.iaload, 1) := by decide +kernel
theorem d_9_set_53 : decode prog_1_method_12_code 53 = .ok (.istore_n 3, 1) := by decide +kernel
theorem d_9_set_54 : decode prog_1_method_12_code 54 = .ok (.aload_n 0, 1) := by decide +kernel
theorem d_9_set_55 : decode prog_1_method_12_code 55 = .ok (.getfield 26, 3) := by decide +kernel
theorem d_9_set_58 : decode prog_1_method_12_code 58 = .ok (.getfield 174, 3) := by decide +kernel
theorem d_9_set_61 : decode prog_1_method_12_code 61 = .ok (.iload_n 1, 1) := by decide +kernel
theorem d_9_set_62 : decode prog_1_method_12_code 62 = .ok (.iload_n 2, 1) := by decide +kernel
theorem d_9_set_63 : decode prog_1_method_12_code 63 = .ok (.iastore, 1) := by decide +kernel
theorem d_9_set_64 : decode prog_1_method_12_code 64 = .ok (.iload_n 3, 1) := by decide +kernel
theorem d_9_set_65 : decode prog_1_method_12_code 65 = .ok (.ireturn, 1) := by decide +kernel
def m_9_set (r0 : Nat) (x1 : Int32) (x2 : Int32) (Q : Int32 → St → Prop) (σ : St) : Prop :=
  ((x1 < 0 → Q (-1 : Int32) σ) ∧ (¬ x1 < 0 → (((6 : Int32) ≤ x1 → Q (-1 : Int32) σ) ∧ (¬ (6 : Int32) ≤ x1 → m_8_leastSetting (r0 + 7) x1 (fun (v_2 : Int32) (σ_1 : St) => ((x2 < v_2 → Q (-1 : Int32) σ_1) ∧ (¬ x2 < v_2 → vp_in x1 6 ∧ ((x2 ≤ (stV 2 (x1).toNatClampNeg) → m_0_remember (r0 + 42) (r0 + 7) (fun (σ_3 : St) => vp_in x1 6 ∧ ∀ x3_5 : Int32, x3_5 = (σ_3.1 ((r0 + 7) + 3) (x1).toNatClampNeg) → vp_in x1 6 ∧ ∀ σ_6 : St, σ_6 = wr σ_3 ((r0 + 7) + 3) (x1).toNatClampNeg x2 → Q x3_5 σ_6) σ_1) ∧ (¬ x2 ≤ (stV 2 (x1).toNatClampNeg) → Q (-1 : Int32) σ_1))))) σ))))
theorem d_8_appendLeg_0 : decode prog_10_method_12_code 0 = .ok (.aload_n 0, 1) := by decide +kernel
theorem d_8_appendLeg_1 : decode prog_10_method_12_code 1 = .ok (.getfield 19, 3) := by decide +kernel
theorem d_8_appendLeg_4 : decode prog_10_method_12_code 4 = .ok (.aload_n 0, 1) := by decide +kernel
theorem d_8_appendLeg_5 : decode prog_10_method_12_code 5 = .ok (.getfield 59, 3) := by decide +kernel
theorem d_8_appendLeg_8 : decode prog_10_method_12_code 8 = .ok (.aaload, 1) := by decide +kernel
theorem d_8_appendLeg_9 : decode prog_10_method_12_code 9 = .ok (.astore_n 3, 1) := by decide +kernel
theorem d_8_appendLeg_10 : decode prog_10_method_12_code 10 = .ok (.aload_n 3, 1) := by decide +kernel
theorem d_8_appendLeg_11 : decode prog_10_method_12_code 11 = .ok (.iload_n 1, 1) := by decide +kernel
theorem d_8_appendLeg_12 : decode prog_10_method_12_code 12 = .ok (.putfield 92, 3) := by decide +kernel
theorem d_8_appendLeg_15 : decode prog_10_method_12_code 15 = .ok (.aload_n 3, 1) := by decide +kernel
theorem d_8_appendLeg_16 : decode prog_10_method_12_code 16 = .ok (.iload_n 2, 1) := by decide +kernel
theorem d_8_appendLeg_17 : decode prog_10_method_12_code 17 = .ok (.putfield 108, 3) := by decide +kernel
theorem d_8_appendLeg_20 : decode prog_10_method_12_code 20 = .ok (.aload_n 0, 1) := by decide +kernel
theorem d_8_appendLeg_21 : decode prog_10_method_12_code 21 = .ok (.dup, 1) := by decide +kernel
theorem d_8_appendLeg_22 : decode prog_10_method_12_code 22 = .ok (.getfield 59, 3) := by decide +kernel
theorem d_8_appendLeg_25 : decode prog_10_method_12_code 25 = .ok (.iconst 1, 1) := by decide +kernel
theorem d_8_appendLeg_26 : decode prog_10_method_12_code 26 = .ok (.iadd, 1) := by decide +kernel
theorem d_8_appendLeg_27 : decode prog_10_method_12_code 27 = .ok (.putfield 59, 3) := by decide +kernel
theorem d_8_appendLeg_30 : decode prog_10_method_12_code 30 = .ok (.aload_n 0, 1) := by decide +kernel
theorem d_8_appendLeg_31 : decode prog_10_method_12_code 31 = .ok (.iconst 0, 1) := by decide +kernel
theorem d_8_appendLeg_32 : decode prog_10_method_12_code 32 = .ok (.putfield 65, 3) := by decide +kernel
theorem d_8_appendLeg_35 : decode prog_10_method_12_code 35 = .ok (.aload_n 0, 1) := by decide +kernel
theorem d_8_appendLeg_36 : decode prog_10_method_12_code 36 = .ok (.getfield 59, 3) := by decide +kernel
theorem d_8_appendLeg_39 : decode prog_10_method_12_code 39 = .ok (.iconst 1, 1) := by decide +kernel
theorem d_8_appendLeg_40 : decode prog_10_method_12_code 40 = .ok (.isub, 1) := by decide +kernel
theorem d_8_appendLeg_41 : decode prog_10_method_12_code 41 = .ok (.ireturn, 1) := by decide +kernel
def m_8_appendLeg (r0 : Nat) (x1 : Int32) (x2 : Int32) (Q : Int32 → St → Prop) (σ : St) : Prop :=
  vp_in (σ.1 r0 3) 10 ∧ ∀ r3_2 : Nat, r3_2 = ((r0 + 2) + 22 + ((σ.1 r0 3)).toNatClampNeg) → ∀ σ_3 : St, σ_3 = wr σ r3_2 0 x1 → ∀ σ_4 : St, σ_4 = wr σ_3 r3_2 1 x2 → ∀ σ_5 : St, σ_5 = wr σ_4 r0 3 ((σ_4.1 r0 3) + (1 : Int32)) → ∀ σ_6 : St, σ_6 = wr σ_5 r0 4 (0 : Int32) → Q ((σ_6.1 r0 3) - (1 : Int32)) σ_6
theorem d_9_addLeg_0 : decode prog_1_method_13_code 0 = .ok (.aload_n 0, 1) := by decide +kernel
theorem d_9_addLeg_1 : decode prog_1_method_13_code 1 = .ok (.getfield 26, 3) := by decide +kernel
theorem d_9_addLeg_4 : decode prog_1_method_13_code 4 = .ok (.iload_n 1, 1) := by decide +kernel
theorem d_9_addLeg_5 : decode prog_1_method_13_code 5 = .ok (.invokevirtual 100, 3) := by decide +kernel
theorem d_9_addLeg_8 : decode prog_1_method_13_code 8 = .ok (.ifCond .eq 12, 3) := by decide +kernel
theorem d_9_addLeg_11 : decode prog_1_method_13_code 11 = .ok (.iload_n 2, 1) := by decide +kernel
theorem d_9_addLeg_12 : decode prog_1_method_13_code 12 = .ok (.ifCond .lt 8, 3) := by decide +kernel
theorem d_9_addLeg_15 : decode prog_1_method_13_code 15 = .ok (.iload_n 2, 1) := by decide +kernel
theorem d_9_addLeg_16 : decode prog_1_method_13_code 16 = .ok (.iconst 2, 1) := by decide +kernel
theorem d_9_addLeg_17 : decode prog_1_method_13_code 17 = .ok (.if_icmp .lt 5, 3) := by decide +kernel
theorem d_9_addLeg_20 : decode prog_1_method_13_code 20 = .ok (.iconst (-1), 1) := by decide +kernel
theorem d_9_addLeg_21 : decode prog_1_method_13_code 21 = .ok (.ireturn, 1) := by decide +kernel
theorem d_9_addLeg_22 : decode prog_1_method_13_code 22 = .ok (.aload_n 0, 1) := by decide +kernel
theorem d_9_addLeg_23 : decode prog_1_method_13_code 23 = .ok (.getfield 26, 3) := by decide +kernel
theorem d_9_addLeg_26 : decode prog_1_method_13_code 26 = .ok (.getfield 108, 3) := by decide +kernel
theorem d_9_addLeg_29 : decode prog_1_method_13_code 29 = .ok (.bipush 10, 2) := by decide +kernel
theorem d_9_addLeg_31 : decode prog_1_method_13_code 31 = .ok (.if_icmp .lt 6, 3) := by decide +kernel
theorem d_9_addLeg_34 : decode prog_1_method_13_code 34 = .ok (.bipush (-3), 2) := by decide +kernel
theorem d_9_addLeg_36 : decode prog_1_method_13_code 36 = .ok (.ireturn, 1) := by decide +kernel
theorem d_9_addLeg_37 : decode prog_1_method_13_code 37 = .ok (.aload_n 0, 1) := by decide +kernel
theorem d_9_addLeg_38 : decode prog_1_method_13_code 38 = .ok (.getfield 42, 3) := by decide +kernel
theorem d_9_addLeg_41 : decode prog_1_method_13_code 41 = .ok (.aload_n 0, 1) := by decide +kernel
theorem d_9_addLeg_42 : decode prog_1_method_13_code 42 = .ok (.getfield 26, 3) := by decide +kernel
theorem d_9_addLeg_45 : decode prog_1_method_13_code 45 = .ok (.invokevirtual 80, 3) := by decide +kernel
theorem d_9_addLeg_48 : decode prog_1_method_13_code 48 = .ok (.aload_n 0, 1) := by decide +kernel
theorem d_9_addLeg_49 : decode prog_1_method_13_code 49 = .ok (.getfield 26, 3) := by decide +kernel
theorem d_9_addLeg_52 : decode prog_1_method_13_code 52 = .ok (.iload_n 1, 1) := by decide +kernel
theorem d_9_addLeg_53 : decode prog_1_method_13_code 53 = .ok (.iload_n 2, 1) := by decide +kernel
theorem d_9_addLeg_54 : decode prog_1_method_13_code 54 = .ok (.invokevirtual 177, 3) := by decide +kernel
theorem d_9_addLeg_57 : decode prog_1_method_13_code 57 = .ok (.ireturn, 1) := by decide +kernel
def m_9_addLeg (r0 : Nat) (x1 : Int32) (x2 : Int32) (Q : Int32 → St → Prop) (σ : St) : Prop :=
  m_8_hasStreet (r0 + 7) x1 (fun (v_2 : Int32) (σ_1 : St) => ((v_2 = 0 → Q (-1 : Int32) σ_1) ∧ (¬ v_2 = 0 → ((x2 < 0 → Q (-1 : Int32) σ_1) ∧ (¬ x2 < 0 → ((x2 < (2 : Int32) → (((σ_1.1 (r0 + 7) 3) < (10 : Int32) → m_0_remember (r0 + 42) (r0 + 7) (fun (σ_3 : St) => m_8_appendLeg (r0 + 7) x1 x2 (fun (v_6 : Int32) (σ_5 : St) => Q v_6 σ_5) σ_3) σ_1) ∧ (¬ (σ_1.1 (r0 + 7) 3) < (10 : Int32) → Q (-3 : Int32) σ_1))) ∧ (¬ x2 < (2 : Int32) → Q (-1 : Int32) σ_1))))))) σ
section MB
variable {p : Program} {l : Launch} {e : Env} {R : Room} {s : State} {m : MethodId} {args : Array Value} {below : List Frame} {meth : Method} {c : Code} {cells slots : Nat} {QW : State → Prop}
variable {D : va_G} {ac : Nat → ClassId} {ad st : Nat → Nat} {A : Nat → Prop}
set_option maxHeartbeats 4000000 in
set_option maxRecDepth 100000 in
theorem w_9_faultKind_0 {r0 : Nat} {Q : Int32 → St → Prop} {σ : St} {H : Heap} {locs : List Loc} {ls : Array Slot} (S : SC A D ac st p m c prog_1_method_5_code 1 s args "SweeperRounds" R cells slots 0 0) (hR : RtI A D ac ad p l e R s m args below meth c prog_1_method_5_code cells slots QW Q) (hk_r0 : kd r0 = 9) (hG : DG A D ac ad s σ H locs) (hl : lv_has ls 1 [(0, .ref (ad r0))]) (hf : m_9_faultKind r0 Q σ) : W p l e R s m args below meth c H locs cells slots QW (F0 m 0 ls []) := by
  have hx := S.1.1
  have hb := S.1.2.1
  unfold m_9_faultKind at hf
  refine lv_aload_n hx hb d_9_faultKind_0 rfl (lv_at hl 0 rfl) ?_
  refine gf_9_59 S hG hk_r0 d_9_faultKind_1 ?_
  exact hR _ _ _ _ _ _ hG hf d_9_faultKind_4
theorem c_9_faultKind (l : Launch) {D : va_G} {ac : Nat → ClassId} {ad st : Nat → Nat} {A : Nat → Prop} {σ : St} {r0 : Nat} {Q : Int32 → St → Prop} (hk_r0 : kd r0 = 9) (hf : m_9_faultKind r0 Q σ) : Met l y_9_faultKind (Cond.code y_9_faultKind prog_1_method_5_code 1 (some .int) :: wA) { frames := 0, cells := 0, slots := 0, locals := 0 } (va_Pc [.ref (ad r0)] (GSt A D ac ad st σ)) (va_Qi Q (GSt A D ac ad st) A) 0 0 A :=
  mkI l (by decide +kernel) rfl [.ref (ad r0)] (Nat.le_of_ble_eq_true rfl) (fun p e s m args below meth c ls QW S hR hG hl => w_9_faultKind_0 S hR hk_r0 hG hl hf)
set_option maxHeartbeats 4000000 in
set_option maxRecDepth 100000 in
theorem w_8_appendStreet_0 {r0 : Nat} {x1 : Int32} {x2 : Int32} {x3 : Int32} {Q : Int32 → St → Prop} {σ : St} {H : Heap} {locs : List Loc} {ls : Array Slot} (S : SC A D ac st p m c prog_10_method_9_code 5 s args "SweeperRounds$World" R cells slots 1 21) (hR : RtI A D ac ad p l e R s m args below meth c prog_10_method_9_code cells slots QW Q) (hk_r0 : kd r0 = 8) (hG : DG A D ac ad s σ H locs) (hl : lv_has ls 5 [(0, .ref (ad r0)), (1, .int x1), (2, .int x2), (3, .int x3)]) (hf : m_8_appendStreet r0 x1 x2 x3 Q σ) : W p l e R s m args below meth c H locs cells slots QW (F0 m 0 ls []) := by
  have hx := S.1.1
  have hb := S.1.2.1
  unfold m_8_appendStreet at hf
  refine lv_aload_n hx hb d_8_appendStreet_0 rfl (lv_at hl 0 rfl) ?_
  refine gf_8_11 S hG hk_r0 d_8_appendStreet_1 ?_
  refine lv_aload_n hx hb d_8_appendStreet_4 rfl (lv_at hl 0 rfl) ?_
  refine gf_8_52 S hG hk_r0 d_8_appendStreet_5 ?_
  refine mq3 S hG (kr_8_0 hk_r0) hf.1 d_8_appendStreet_8 ?_
  have hi_1 := vin_lt hf.1
  have hf := hf.2
  refine lv_topr (fun r4_2 er4_2 => ?_)
  have hf := hf r4_2 er4_2
  have hk_r4_2 : kd r4_2 = 6 := er4_2 ▸ (ke_23 (kr_8_0 hk_r0) hi_1)
  refine lv_astore (lv' := [(4, .ref (ad r4_2)), (0, .ref (ad r0)), (1, .int x1), (2, .int x2), (3, .int x3)]) hx hb d_8_appendStreet_9 hl (by decide) rfl (fun ls hl => ?_)
  refine lv_aload hx hb d_8_appendStreet_11 (lv_at hl 0 rfl) ?_
  refine iv_8_95 S hl.1 hG hk_r4_2 (c_6_clear l hk_r4_2 hf) ⟨Nat.le_of_ble_eq_true rfl, Nat.le_of_ble_eq_true rfl⟩ (Nat.le_of_ble_eq_true rfl) d_8_appendStreet_13 (fun σ_3 hf H locs hG => ?_)
  refine lv_aload hx hb d_8_appendStreet_16 (lv_at hl 0 rfl) ?_
  refine lv_iload_n hx hb d_8_appendStreet_18 rfl (lv_at hl 2 rfl) ?_
  refine pf_8_85 S hG hk_r4_2 d_8_appendStreet_19 (fun σ_5 eσ_5 H locs hG => ?_)
  have hf := hf σ_5 eσ_5
  refine lv_aload hx hb d_8_appendStreet_22 (lv_at hl 0 rfl) ?_
  refine lv_iload_n hx hb d_8_appendStreet_24 rfl (lv_at hl 3 rfl) ?_
  refine pf_8_98 S hG hk_r4_2 d_8_appendStreet_25 (fun σ_6 eσ_6 H locs hG => ?_)
  have hf := hf σ_6 eσ_6
  refine lv_aload hx hb d_8_appendStreet_28 (lv_at hl 0 rfl) ?_
  refine lv_iload_n hx hb d_8_appendStreet_30 rfl (lv_at hl 4 rfl) ?_
  refine pf_8_101 S hG hk_r4_2 d_8_appendStreet_31 (fun σ_7 eσ_7 H locs hG => ?_)
  have hf := hf σ_7 eσ_7
  refine lv_aload_n hx hb d_8_appendStreet_34 rfl (lv_at hl 1 rfl) ?_
  refine lv_dup hx hb d_8_appendStreet_35 rfl ?_
  refine gf_8_52 S hG hk_r0 d_8_appendStreet_36 ?_
  refine lv_iconst (v := (1 : Int32)) hx hb d_8_appendStreet_39 (by decide) ?_
  refine lv_iadd hx hb d_8_appendStreet_40 ?_
  refine pf_8_52 S hG hk_r0 d_8_appendStreet_41 (fun σ_8 eσ_8 H locs hG => ?_)
  have hf := hf σ_8 eσ_8
  refine lv_aload_n hx hb d_8_appendStreet_44 rfl (lv_at hl 1 rfl) ?_
  refine lv_iconst (v := (0 : Int32)) hx hb d_8_appendStreet_45 (by decide) ?_
  refine pf_8_65 S hG hk_r0 (by unfold isB; decide) d_8_appendStreet_46 (fun σ_9 eσ_9 H locs hG => ?_)
  have hf := hf σ_9 eσ_9
  refine lv_aload_n hx hb d_8_appendStreet_49 rfl (lv_at hl 1 rfl) ?_
  refine gf_8_52 S hG hk_r0 d_8_appendStreet_50 ?_
  refine lv_iconst (v := (1 : Int32)) hx hb d_8_appendStreet_53 (by decide) ?_
  refine lv_isub hx hb d_8_appendStreet_54 ?_
  exact hR _ _ _ _ _ _ hG hf d_8_appendStreet_55
theorem c_8_appendStreet (l : Launch) {D : va_G} {ac : Nat → ClassId} {ad st : Nat → Nat} {A : Nat → Prop} {σ : St} {r0 : Nat} {x1 : Int32} {x2 : Int32} {x3 : Int32} {Q : Int32 → St → Prop} (hk_r0 : kd r0 = 8) (hf : m_8_appendStreet r0 x1 x2 x3 Q σ) : Met l y_8_appendStreet (Cond.code y_8_appendStreet prog_10_method_9_code 5 (some .int) :: wA) { frames := 1, cells := 0, slots := 0, locals := 21 } (va_Pc [.ref (ad r0), .int x1, .int x2, .int x3] (GSt A D ac ad st σ)) (va_Qi Q (GSt A D ac ad st) A) 0 0 A :=
  mkI l (by decide +kernel) rfl [.ref (ad r0), .int x1, .int x2, .int x3] (Nat.le_of_ble_eq_true rfl) (fun p e s m args below meth c ls QW S hR hG hl => w_8_appendStreet_0 S hR hk_r0 hG hl hf)
set_option maxHeartbeats 4000000 in
set_option maxRecDepth 100000 in
theorem w_9_addStreet_0 {r0 : Nat} {x1 : Int32} {x2 : Int32} {x3 : Int32} {Q : Int32 → St → Prop} {σ : St} {H : Heap} {locs : List Loc} {ls : Array Slot} (S : SC A D ac st p m c prog_1_method_6_code 4 s args "SweeperRounds" R cells slots 3 65) (hR : RtI A D ac ad p l e R s m args below meth c prog_1_method_6_code cells slots QW Q) (hk_r0 : kd r0 = 9) (hG : DG A D ac ad s σ H locs) (hl : lv_has ls 4 [(0, .ref (ad r0)), (1, .int x1), (2, .int x2), (3, .int x3)]) (hf : m_9_addStreet r0 x1 x2 x3 Q σ) : W p l e R s m args below meth c H locs cells slots QW (F0 m 0 ls []) := by
  have hx := S.1.1
  have hb := S.1.2.1
  unfold m_9_addStreet at hf
  refine lv_iload_n hx hb d_9_addStreet_0 rfl (lv_at hl 1 rfl) ?_
  refine lv_iconst (v := (1 : Int32)) hx hb d_9_addStreet_1 (by decide) ?_
  refine lv_icmp_lt (tgt := 31) hx hb d_9_addStreet_2 (by decide) (fun hc => ?_) (fun hc => ?_)
  · have hf := hf.1 hc
    refine lv_iconst (v := (-1 : Int32)) hx hb d_9_addStreet_31 (by decide) ?_
    exact hR _ _ _ _ _ _ hG hf d_9_addStreet_32
  · have hf := hf.2 hc
    refine lv_iload_n hx hb d_9_addStreet_5 rfl (lv_at hl 1 rfl) ?_
    refine lv_bipush (v := (20 : Int32)) hx hb d_9_addStreet_6 (by decide) ?_
    refine lv_icmp_gt (tgt := 31) hx hb d_9_addStreet_8 (by decide) (fun hc => ?_) (fun hc => ?_)
    · have hf := hf.1 hc
      refine lv_iconst (v := (-1 : Int32)) hx hb d_9_addStreet_31 (by decide) ?_
      exact hR _ _ _ _ _ _ hG hf d_9_addStreet_32
    · have hf := hf.2 hc
      refine lv_iload_n hx hb d_9_addStreet_11 rfl (lv_at hl 2 rfl) ?_
      refine lv_if_lt (tgt := 31) hx hb d_9_addStreet_12 (by decide) (fun hc => ?_) (fun hc => ?_)
      · have hf := hf.1 hc
        refine lv_iconst (v := (-1 : Int32)) hx hb d_9_addStreet_31 (by decide) ?_
        exact hR _ _ _ _ _ _ hG hf d_9_addStreet_32
      · have hf := hf.2 hc
        refine lv_iload_n hx hb d_9_addStreet_15 rfl (lv_at hl 2 rfl) ?_
        refine lv_bipush (v := (60 : Int32)) hx hb d_9_addStreet_16 (by decide) ?_
        refine lv_icmp_gt (tgt := 31) hx hb d_9_addStreet_18 (by decide) (fun hc => ?_) (fun hc => ?_)
        · have hf := hf.1 hc
          refine lv_iconst (v := (-1 : Int32)) hx hb d_9_addStreet_31 (by decide) ?_
          exact hR _ _ _ _ _ _ hG hf d_9_addStreet_32
        · have hf := hf.2 hc
          refine lv_iload_n hx hb d_9_addStreet_21 rfl (lv_at hl 3 rfl) ?_
          refine lv_if_lt (tgt := 31) hx hb d_9_addStreet_22 (by decide) (fun hc => ?_) (fun hc => ?_)
          · have hf := hf.1 hc
            refine lv_iconst (v := (-1 : Int32)) hx hb d_9_addStreet_31 (by decide) ?_
            exact hR _ _ _ _ _ _ hG hf d_9_addStreet_32
          · have hf := hf.2 hc
            refine lv_iload_n hx hb d_9_addStreet_25 rfl (lv_at hl 3 rfl) ?_
            refine lv_bipush (v := (9 : Int32)) hx hb d_9_addStreet_26 (by decide) ?_
            refine lv_icmp_le (tgt := 33) hx hb d_9_addStreet_28 (by decide) (fun hc => ?_) (fun hc => ?_)
            · have hf := hf.1 hc
              refine lv_aload_n hx hb d_9_addStreet_33 rfl (lv_at hl 0 rfl) ?_
              refine gf_9_26 S hG hk_r0 d_9_addStreet_34 ?_
              refine gf_9_70 S hG (kr_9_2 hk_r0) d_9_addStreet_37 ?_
              refine lv_bipush (v := (6 : Int32)) hx hb d_9_addStreet_40 (by decide) ?_
              refine lv_icmp_lt (tgt := 48) hx hb d_9_addStreet_42 (by decide) (fun hc => ?_) (fun hc => ?_)
              · have hf := hf.1 hc
                refine lv_aload_n hx hb d_9_addStreet_48 rfl (lv_at hl 0 rfl) ?_
                refine gf_9_42 S hG hk_r0 d_9_addStreet_49 ?_
                refine lv_aload_n hx hb d_9_addStreet_52 rfl (lv_at hl 0 rfl) ?_
                refine gf_9_26 S hG hk_r0 d_9_addStreet_53 ?_
                refine iv_9_80 S hl.1 hG (kr_9_4 hk_r0) (c_0_remember l (kr_9_4 hk_r0) (kr_9_2 hk_r0) hf) ⟨Nat.le_of_ble_eq_true rfl, Nat.le_of_ble_eq_true rfl⟩ (Nat.le_of_ble_eq_true rfl) d_9_addStreet_56 (fun σ_1 hf H locs hG => ?_)
                refine lv_aload_n hx hb d_9_addStreet_59 rfl (lv_at hl 0 rfl) ?_
                refine gf_9_26 S hG hk_r0 d_9_addStreet_60 ?_
                refine lv_iload_n hx hb d_9_addStreet_63 rfl (lv_at hl 1 rfl) ?_
                refine lv_iload_n hx hb d_9_addStreet_64 rfl (lv_at hl 2 rfl) ?_
                refine lv_iload_n hx hb d_9_addStreet_65 rfl (lv_at hl 3 rfl) ?_
                refine iv_9_96 S hl.1 hG (kr_9_2 hk_r0) (c_8_appendStreet l (kr_9_2 hk_r0) hf) ⟨Nat.le_of_ble_eq_true rfl, Nat.le_of_ble_eq_true rfl⟩ (Nat.le_of_ble_eq_true rfl) d_9_addStreet_66 (fun v_4 σ_3 hf H locs hG => ?_)
                exact hR _ _ _ _ _ _ hG hf d_9_addStreet_69
              · have hf := hf.2 hc
                refine lv_bipush (v := (-3 : Int32)) hx hb d_9_addStreet_45 (by decide) ?_
                exact hR _ _ _ _ _ _ hG hf d_9_addStreet_47
            · have hf := hf.2 hc
              refine lv_iconst (v := (-1 : Int32)) hx hb d_9_addStreet_31 (by decide) ?_
              exact hR _ _ _ _ _ _ hG hf d_9_addStreet_32
theorem c_9_addStreet (l : Launch) {D : va_G} {ac : Nat → ClassId} {ad st : Nat → Nat} {A : Nat → Prop} {σ : St} {r0 : Nat} {x1 : Int32} {x2 : Int32} {x3 : Int32} {Q : Int32 → St → Prop} (hk_r0 : kd r0 = 9) (hf : m_9_addStreet r0 x1 x2 x3 Q σ) : Met l y_9_addStreet (Cond.code y_9_addStreet prog_1_method_6_code 4 (some .int) :: wA) { frames := 3, cells := 0, slots := 0, locals := 65 } (va_Pc [.ref (ad r0), .int x1, .int x2, .int x3] (GSt A D ac ad st σ)) (va_Qi Q (GSt A D ac ad st) A) 0 0 A :=
  mkI l (by decide +kernel) rfl [.ref (ad r0), .int x1, .int x2, .int x3] (Nat.le_of_ble_eq_true rfl) (fun p e s m args below meth c ls QW S hR hG hl => w_9_addStreet_0 S hR hk_r0 hG hl hf)
set_option maxHeartbeats 4000000 in
set_option maxRecDepth 100000 in
theorem w_8_hasStreet_0 {r0 : Nat} {x1 : Int32} {Q : Int32 → St → Prop} {σ : St} {H : Heap} {locs : List Loc} {ls : Array Slot} (S : SC A D ac st p m c prog_10_method_3_code 2 s args "SweeperRounds$World" R cells slots 0 0) (hR : RtZ A D ac ad p l e R s m args below meth c prog_10_method_3_code cells slots QW Q) (hk_r0 : kd r0 = 8) (hG : DG A D ac ad s σ H locs) (hl : lv_has ls 2 [(0, .ref (ad r0)), (1, .int x1)]) (hf : m_8_hasStreet r0 x1 Q σ) : W p l e R s m args below meth c H locs cells slots QW (F0 m 0 ls []) := by
  have hx := S.1.1
  have hb := S.1.2.1
  unfold m_8_hasStreet at hf
  refine lv_iload_n hx hb d_8_hasStreet_0 rfl (lv_at hl 1 rfl) ?_
  refine lv_if_lt (tgt := 16) hx hb d_8_hasStreet_1 (by decide) (fun hc => ?_) (fun hc => ?_)
  · have hf := hf.1 hc
    refine lv_iconst (v := (0 : Int32)) hx hb d_8_hasStreet_16 (by decide) ?_
    exact hR _ _ _ _ _ _ hG (by unfold isB; decide) hf d_8_hasStreet_17
  · have hf := hf.2 hc
    refine lv_iload_n hx hb d_8_hasStreet_4 rfl (lv_at hl 1 rfl) ?_
    refine lv_aload_n hx hb d_8_hasStreet_5 rfl (lv_at hl 0 rfl) ?_
    refine gf_8_52 S hG hk_r0 d_8_hasStreet_6 ?_
    refine lv_icmp_ge (tgt := 16) hx hb d_8_hasStreet_9 (by decide) (fun hc => ?_) (fun hc => ?_)
    · have hf := hf.1 hc
      refine lv_iconst (v := (0 : Int32)) hx hb d_8_hasStreet_16 (by decide) ?_
      exact hR _ _ _ _ _ _ hG (by unfold isB; decide) hf d_8_hasStreet_17
    · have hf := hf.2 hc
      refine lv_iconst (v := (1 : Int32)) hx hb d_8_hasStreet_12 (by decide) ?_
      refine lv_goto (tgt := 17) hx hb d_8_hasStreet_13 (by decide) ?_
      exact hR _ _ _ _ _ _ hG (by unfold isB; decide) hf d_8_hasStreet_17
theorem c_8_hasStreet (l : Launch) {D : va_G} {ac : Nat → ClassId} {ad st : Nat → Nat} {A : Nat → Prop} {σ : St} {r0 : Nat} {x1 : Int32} {Q : Int32 → St → Prop} (hk_r0 : kd r0 = 8) (hf : m_8_hasStreet r0 x1 Q σ) : Met l y_8_hasStreet (Cond.code y_8_hasStreet prog_10_method_3_code 2 (some .boolean) :: wA) { frames := 0, cells := 0, slots := 0, locals := 0 } (va_Pc [.ref (ad r0), .int x1] (GSt A D ac ad st σ)) (va_Qi Q (GSt A D ac ad st) A) 0 0 A :=
  mkZ l (by decide +kernel) rfl [.ref (ad r0), .int x1] (Nat.le_of_ble_eq_true rfl) (fun p e s m args below meth c ls QW S hR hG hl => w_8_hasStreet_0 S hR hk_r0 hG hl hf)
set_option maxHeartbeats 4000000 in
set_option maxRecDepth 100000 in
theorem w_8_removeLegsIn_4 {r0 : Nat} {x1 : Int32} {Q : St → Prop} {B4 : Int32 → Int32 → St → Prop} {x2 : Int32} {x3 : Int32} {σ : St} {H : Heap} {locs : List Loc} {ls : Array Slot} (S : SC A D ac st p m c prog_10_method_11_code 4 s args "SweeperRounds$World" R cells slots 1 21) (hR : RtV A D ac ad p l e R s m args below meth c prog_10_method_11_code cells slots QW Q) (hk_r0 : kd r0 = 8) (hB4 : ∀ (x2 : Int32) (x3 : Int32) (σ : St) (H : Heap) (locs : List Loc) (ls : Array Slot), DG A D ac ad s σ H locs → lv_has ls 4 [(0, .ref (ad r0)), (1, .int x1), (2, .int x2), (3, .int x3)] → B4 x2 x3 σ → W p l e R s m args below meth c H locs cells slots QW (F0 m 4 ls [])) (hG : DG A D ac ad s σ H locs) (hl : lv_has ls 4 [(0, .ref (ad r0)), (1, .int x1), (2, .int x2), (3, .int x3)]) (hf : m_8_removeLegsIn_4 r0 x1 Q B4 x2 x3 σ) : W p l e R s m args below meth c H locs cells slots QW (F0 m 4 ls []) := by
  have hx := S.1.1
  have hb := S.1.2.1
  unfold m_8_removeLegsIn_4 at hf
  refine lv_iload_n hx hb d_8_removeLegsIn_4 rfl (lv_at hl 3 rfl) ?_
  refine lv_aload_n hx hb d_8_removeLegsIn_5 rfl (lv_at hl 0 rfl) ?_
  refine gf_8_59 S hG hk_r0 d_8_removeLegsIn_6 ?_
  refine lv_icmp_ge (tgt := 77) hx hb d_8_removeLegsIn_9 (by decide) (fun hc => ?_) (fun hc => ?_)
  · have hf := hf.1 hc
    refine lv_aload_n hx hb d_8_removeLegsIn_77 rfl (lv_at hl 0 rfl) ?_
    refine lv_iload_n hx hb d_8_removeLegsIn_78 rfl (lv_at hl 2 rfl) ?_
    refine pf_8_59 S hG hk_r0 d_8_removeLegsIn_79 (fun σ_1 eσ_1 H locs hG => ?_)
    have hf := hf σ_1 eσ_1
    exact hR _ _ _ _ _ hG hf d_8_removeLegsIn_82
  · have hf := hf.2 hc
    refine lv_aload_n hx hb d_8_removeLegsIn_12 rfl (lv_at hl 0 rfl) ?_
    refine gf_8_19 S hG hk_r0 d_8_removeLegsIn_13 ?_
    refine lv_iload_n hx hb d_8_removeLegsIn_16 rfl (lv_at hl 3 rfl) ?_
    refine mq4 S hG (kr_8_2 hk_r0) hf.1 d_8_removeLegsIn_17 ?_
    have hi_2 := vin_lt hf.1
    have hf := hf.2
    refine gf_8_92 S hG (ke_24 (kr_8_2 hk_r0) hi_2) d_8_removeLegsIn_18 ?_
    refine lv_iload_n hx hb d_8_removeLegsIn_21 rfl (lv_at hl 1 rfl) ?_
    refine lv_icmp_eq (tgt := 71) hx hb d_8_removeLegsIn_22 (by decide) (fun hc => ?_) (fun hc => ?_)
    · have hf := hf.1 hc
      obtain ⟨x3_3, ex3_3⟩ : ∃ y : Int32, y = x3 + 1 := ⟨_, rfl⟩
      have hf := hf x3_3 ex3_3
      refine lv_iinc (v := x3_3) (lv' := [(3, .int x3_3), (0, .ref (ad r0)), (1, .int x1), (2, .int x2)]) hx hb d_8_removeLegsIn_71 hl (k := 3) rfl (by rw [ex3_3]; rfl) (by decide) rfl (fun ls hl => ?_)
      refine lv_goto (tgt := 4) hx hb d_8_removeLegsIn_74 (by decide) ?_
      exact hB4 _ _ _ _ _ _  hG (lv_sub hl [1, 2, 3, 0] rfl) hf
    · have hf := hf.2 hc
      refine lv_aload_n hx hb d_8_removeLegsIn_25 rfl (lv_at hl 0 rfl) ?_
      refine gf_8_19 S hG hk_r0 d_8_removeLegsIn_26 ?_
      refine lv_iload_n hx hb d_8_removeLegsIn_29 rfl (lv_at hl 2 rfl) ?_
      refine mq4 S hG (kr_8_2 hk_r0) hf.1 d_8_removeLegsIn_30 ?_
      have hi_4 := vin_lt hf.1
      have hf := hf.2
      refine lv_aload_n hx hb d_8_removeLegsIn_31 rfl (lv_at hl 0 rfl) ?_
      refine gf_8_19 S hG hk_r0 d_8_removeLegsIn_32 ?_
      refine lv_iload_n hx hb d_8_removeLegsIn_35 rfl (lv_at hl 3 rfl) ?_
      refine mq4 S hG (kr_8_2 hk_r0) hf.1 d_8_removeLegsIn_36 ?_
      have hi_5 := vin_lt hf.1
      have hf := hf.2
      refine iv_8_62 S hl.1 hG (ke_24 (kr_8_2 hk_r0) hi_4) (c_1_copyFrom l (ke_24 (kr_8_2 hk_r0) hi_4) (ke_24 (kr_8_2 hk_r0) hi_5) hf) ⟨Nat.le_of_ble_eq_true rfl, Nat.le_of_ble_eq_true rfl⟩ (Nat.le_of_ble_eq_true rfl) d_8_removeLegsIn_37 (fun σ_6 hf H locs hG => ?_)
      refine lv_aload_n hx hb d_8_removeLegsIn_40 rfl (lv_at hl 0 rfl) ?_
      refine gf_8_19 S hG hk_r0 d_8_removeLegsIn_41 ?_
      refine lv_iload_n hx hb d_8_removeLegsIn_44 rfl (lv_at hl 2 rfl) ?_
      refine mq4 S hG (kr_8_2 hk_r0) hf.1 d_8_removeLegsIn_45 ?_
      have hi_8 := vin_lt hf.1
      have hf := hf.2
      refine gf_8_92 S hG (ke_24 (kr_8_2 hk_r0) hi_8) d_8_removeLegsIn_46 ?_
      refine lv_iload_n hx hb d_8_removeLegsIn_49 rfl (lv_at hl 1 rfl) ?_
      refine lv_icmp_le (tgt := 68) hx hb d_8_removeLegsIn_50 (by decide) (fun hc => ?_) (fun hc => ?_)
      · have hf := hf.1 hc
        obtain ⟨x2_9, ex2_9⟩ : ∃ y : Int32, y = x2 + 1 := ⟨_, rfl⟩
        have hf := hf x2_9 ex2_9
        refine lv_iinc (v := x2_9) (lv' := [(2, .int x2_9), (0, .ref (ad r0)), (1, .int x1), (3, .int x3)]) hx hb d_8_removeLegsIn_68 hl (k := 2) rfl (by rw [ex2_9]; rfl) (by decide) rfl (fun ls hl => ?_)
        obtain ⟨x3_10, ex3_10⟩ : ∃ y : Int32, y = x3 + 1 := ⟨_, rfl⟩
        have hf := hf x3_10 ex3_10
        refine lv_iinc (v := x3_10) (lv' := [(3, .int x3_10), (2, .int x2_9), (0, .ref (ad r0)), (1, .int x1)]) hx hb d_8_removeLegsIn_71 hl (k := 3) rfl (by rw [ex3_10]; rfl) (by decide) rfl (fun ls hl => ?_)
        refine lv_goto (tgt := 4) hx hb d_8_removeLegsIn_74 (by decide) ?_
        exact hB4 _ _ _ _ _ _  hG (lv_sub hl [2, 3, 1, 0] rfl) hf
      · have hf := hf.2 hc
        refine lv_aload_n hx hb d_8_removeLegsIn_53 rfl (lv_at hl 0 rfl) ?_
        refine gf_8_19 S hG hk_r0 d_8_removeLegsIn_54 ?_
        refine lv_iload_n hx hb d_8_removeLegsIn_57 rfl (lv_at hl 2 rfl) ?_
        refine mq4 S hG (kr_8_2 hk_r0) hf.1 d_8_removeLegsIn_58 ?_
        have hi_11 := vin_lt hf.1
        have hf := hf.2
        refine lv_dup hx hb d_8_removeLegsIn_59 rfl ?_
        refine gf_8_92 S hG (ke_24 (kr_8_2 hk_r0) hi_11) d_8_removeLegsIn_60 ?_
        refine lv_iconst (v := (1 : Int32)) hx hb d_8_removeLegsIn_63 (by decide) ?_
        refine lv_isub hx hb d_8_removeLegsIn_64 ?_
        refine pf_8_92 S hG (ke_24 (kr_8_2 hk_r0) hi_11) d_8_removeLegsIn_65 (fun σ_12 eσ_12 H locs hG => ?_)
        have hf := hf σ_12 eσ_12
        obtain ⟨x2_13, ex2_13⟩ : ∃ y : Int32, y = x2 + 1 := ⟨_, rfl⟩
        have hf := hf x2_13 ex2_13
        refine lv_iinc (v := x2_13) (lv' := [(2, .int x2_13), (0, .ref (ad r0)), (1, .int x1), (3, .int x3)]) hx hb d_8_removeLegsIn_68 hl (k := 2) rfl (by rw [ex2_13]; rfl) (by decide) rfl (fun ls hl => ?_)
        obtain ⟨x3_14, ex3_14⟩ : ∃ y : Int32, y = x3 + 1 := ⟨_, rfl⟩
        have hf := hf x3_14 ex3_14
        refine lv_iinc (v := x3_14) (lv' := [(3, .int x3_14), (2, .int x2_13), (0, .ref (ad r0)), (1, .int x1)]) hx hb d_8_removeLegsIn_71 hl (k := 3) rfl (by rw [ex3_14]; rfl) (by decide) rfl (fun ls hl => ?_)
        refine lv_goto (tgt := 4) hx hb d_8_removeLegsIn_74 (by decide) ?_
        exact hB4 _ _ _ _ _ _  hG (lv_sub hl [2, 3, 1, 0] rfl) hf
set_option maxHeartbeats 4000000 in
set_option maxRecDepth 100000 in
theorem lp_8_removeLegsIn_4 {r0 : Nat} {x1 : Int32} {Q : St → Prop} (S : SC A D ac st p m c prog_10_method_11_code 4 s args "SweeperRounds$World" R cells slots 1 21) (hR : RtV A D ac ad p l e R s m args below meth c prog_10_method_11_code cells slots QW Q) (hk_r0 : kd r0 = 8) : ∀ (n : Nat) (x2 : Int32) (x3 : Int32) (σ : St) (H : Heap) (locs : List Loc) (ls : Array Slot), DG A D ac ad s σ H locs → lv_has ls 4 [(0, .ref (ad r0)), (1, .int x1), (2, .int x2), (3, .int x3)] → itN (m_8_removeLegsIn_4 r0 x1 Q) (fun _ _ _ => False) n x2 x3 σ → W p l e R s m args below meth c H locs cells slots QW (F0 m 4 ls []) := by
  intro n
  induction n with
  | zero =>
    intro x2 x3 σ H locs ls  hG hl hf
    exact hf.elim
  | succ n ih =>
    intro x2 x3 σ H locs ls  hG hl hf
    exact w_8_removeLegsIn_4 S hR hk_r0  ih hG hl hf
set_option maxHeartbeats 4000000 in
set_option maxRecDepth 100000 in
theorem w_8_removeLegsIn_0 {r0 : Nat} {x1 : Int32} {Q : St → Prop} {σ : St} {H : Heap} {locs : List Loc} {ls : Array Slot} (S : SC A D ac st p m c prog_10_method_11_code 4 s args "SweeperRounds$World" R cells slots 1 21) (hR : RtV A D ac ad p l e R s m args below meth c prog_10_method_11_code cells slots QW Q) (hk_r0 : kd r0 = 8) (hG : DG A D ac ad s σ H locs) (hl : lv_has ls 4 [(0, .ref (ad r0)), (1, .int x1)]) (hf : m_8_removeLegsIn r0 x1 Q σ) : W p l e R s m args below meth c H locs cells slots QW (F0 m 0 ls []) := by
  have hx := S.1.1
  have hb := S.1.2.1
  unfold m_8_removeLegsIn at hf
  refine lv_iconst (v := (0 : Int32)) hx hb d_8_removeLegsIn_0 (by decide) ?_
  refine lv_istore_n (lv' := [(2, .int (0 : Int32)), (0, .ref (ad r0)), (1, .int x1)]) hx hb d_8_removeLegsIn_1 rfl hl (by decide) rfl (fun ls hl => ?_)
  refine lv_iconst (v := (0 : Int32)) hx hb d_8_removeLegsIn_2 (by decide) ?_
  refine lv_istore_n (lv' := [(3, .int (0 : Int32)), (2, .int (0 : Int32)), (0, .ref (ad r0)), (1, .int x1)]) hx hb d_8_removeLegsIn_3 rfl hl (by decide) rfl (fun ls hl => ?_)
  exact lp_8_removeLegsIn_4 S hR hk_r0  FU _ _ _ _ _ _  hG (lv_sub hl [2, 3, 1, 0] rfl) hf
theorem c_8_removeLegsIn (l : Launch) {D : va_G} {ac : Nat → ClassId} {ad st : Nat → Nat} {A : Nat → Prop} {σ : St} {r0 : Nat} {x1 : Int32} {Q : St → Prop} (hk_r0 : kd r0 = 8) (hf : m_8_removeLegsIn r0 x1 Q σ) : Met l y_8_removeLegsIn (Cond.code y_8_removeLegsIn prog_10_method_11_code 4 none :: wA) { frames := 1, cells := 0, slots := 0, locals := 21 } (va_Pc [.ref (ad r0), .int x1] (GSt A D ac ad st σ)) (va_Qv Q (GSt A D ac ad st) A) 0 0 A :=
  mkV l (by decide +kernel) rfl [.ref (ad r0), .int x1] (Nat.le_of_ble_eq_true rfl) (fun p e s m args below meth c ls QW S hR hG hl => w_8_removeLegsIn_0 S hR hk_r0 hG hl hf)
set_option maxHeartbeats 4000000 in
set_option maxRecDepth 100000 in
theorem w_8_removeStreet_20 {r0 : Nat} {x1 : Int32} {Q : St → Prop} {B20 : Int32 → St → Prop} {x2 : Int32} {σ : St} {H : Heap} {locs : List Loc} {ls : Array Slot} (S : SC A D ac st p m c prog_10_method_10_code 3 s args "SweeperRounds$World" R cells slots 3 64) (hR : RtV A D ac ad p l e R s m args below meth c prog_10_method_10_code cells slots QW Q) (hk_r0 : kd r0 = 8) (hB20 : ∀ (x2 : Int32) (σ : St) (H : Heap) (locs : List Loc) (ls : Array Slot), DG A D ac ad s σ H locs → lv_has ls 3 [(0, .ref (ad r0)), (1, .int x1), (2, .int x2)] → B20 x2 σ → W p l e R s m args below meth c H locs cells slots QW (F0 m 20 ls [])) (hG : DG A D ac ad s σ H locs) (hl : lv_has ls 3 [(0, .ref (ad r0)), (1, .int x1), (2, .int x2)]) (hf : m_8_removeStreet_20 r0 x1 Q B20 x2 σ) : W p l e R s m args below meth c H locs cells slots QW (F0 m 20 ls []) := by
  have hx := S.1.1
  have hb := S.1.2.1
  unfold m_8_removeStreet_20 at hf
  refine lv_iload_n hx hb d_8_removeStreet_20 rfl (lv_at hl 2 rfl) ?_
  refine lv_aload_n hx hb d_8_removeStreet_21 rfl (lv_at hl 0 rfl) ?_
  refine gf_8_52 S hG hk_r0 d_8_removeStreet_22 ?_
  refine lv_iconst (v := (1 : Int32)) hx hb d_8_removeStreet_25 (by decide) ?_
  refine lv_isub hx hb d_8_removeStreet_26 ?_
  refine lv_icmp_ge (tgt := 53) hx hb d_8_removeStreet_27 (by decide) (fun hc => ?_) (fun hc => ?_)
  · have hf := hf.1 hc
    refine lv_aload_n hx hb d_8_removeStreet_53 rfl (lv_at hl 0 rfl) ?_
    refine lv_dup hx hb d_8_removeStreet_54 rfl ?_
    refine gf_8_52 S hG hk_r0 d_8_removeStreet_55 ?_
    refine lv_iconst (v := (1 : Int32)) hx hb d_8_removeStreet_58 (by decide) ?_
    refine lv_isub hx hb d_8_removeStreet_59 ?_
    refine pf_8_52 S hG hk_r0 d_8_removeStreet_60 (fun σ_1 eσ_1 H locs hG => ?_)
    have hf := hf σ_1 eσ_1
    refine lv_aload_n hx hb d_8_removeStreet_63 rfl (lv_at hl 0 rfl) ?_
    refine lv_iload_n hx hb d_8_removeStreet_64 rfl (lv_at hl 1 rfl) ?_
    refine iv_8_104 S hl.1 hG hk_r0 (c_8_removeLegsIn l hk_r0 hf) ⟨Nat.le_of_ble_eq_true rfl, Nat.le_of_ble_eq_true rfl⟩ (Nat.le_of_ble_eq_true rfl) d_8_removeStreet_65 (fun σ_2 hf H locs hG => ?_)
    refine lv_aload_n hx hb d_8_removeStreet_68 rfl (lv_at hl 0 rfl) ?_
    refine lv_iconst (v := (0 : Int32)) hx hb d_8_removeStreet_69 (by decide) ?_
    refine pf_8_65 S hG hk_r0 (by unfold isB; decide) d_8_removeStreet_70 (fun σ_4 eσ_4 H locs hG => ?_)
    have hf := hf σ_4 eσ_4
    exact hR _ _ _ _ _ hG hf d_8_removeStreet_73
  · have hf := hf.2 hc
    refine lv_aload_n hx hb d_8_removeStreet_30 rfl (lv_at hl 0 rfl) ?_
    refine gf_8_11 S hG hk_r0 d_8_removeStreet_31 ?_
    refine lv_iload_n hx hb d_8_removeStreet_34 rfl (lv_at hl 2 rfl) ?_
    refine mq3 S hG (kr_8_0 hk_r0) hf.1 d_8_removeStreet_35 ?_
    have hi_5 := vin_lt hf.1
    have hf := hf.2
    refine lv_aload_n hx hb d_8_removeStreet_36 rfl (lv_at hl 0 rfl) ?_
    refine gf_8_11 S hG hk_r0 d_8_removeStreet_37 ?_
    refine lv_iload_n hx hb d_8_removeStreet_40 rfl (lv_at hl 2 rfl) ?_
    refine lv_iconst (v := (1 : Int32)) hx hb d_8_removeStreet_41 (by decide) ?_
    refine lv_iadd hx hb d_8_removeStreet_42 ?_
    refine mq3 S hG (kr_8_0 hk_r0) hf.1 d_8_removeStreet_43 ?_
    have hi_6 := vin_lt hf.1
    have hf := hf.2
    refine iv_8_55 S hl.1 hG (ke_23 (kr_8_0 hk_r0) hi_5) (c_6_copyFrom l (ke_23 (kr_8_0 hk_r0) hi_5) (ke_23 (kr_8_0 hk_r0) hi_6) hf) ⟨Nat.le_of_ble_eq_true rfl, Nat.le_of_ble_eq_true rfl⟩ (Nat.le_of_ble_eq_true rfl) d_8_removeStreet_44 (fun σ_7 hf H locs hG => ?_)
    obtain ⟨x2_9, ex2_9⟩ : ∃ y : Int32, y = x2 + 1 := ⟨_, rfl⟩
    have hf := hf x2_9 ex2_9
    refine lv_iinc (v := x2_9) (lv' := [(2, .int x2_9), (0, .ref (ad r0)), (1, .int x1)]) hx hb d_8_removeStreet_47 hl (k := 2) rfl (by rw [ex2_9]; rfl) (by decide) rfl (fun ls hl => ?_)
    refine lv_goto (tgt := 20) hx hb d_8_removeStreet_50 (by decide) ?_
    exact hB20 _ _ _ _ _  hG (lv_sub hl [1, 2, 0] rfl) hf
set_option maxHeartbeats 4000000 in
set_option maxRecDepth 100000 in
theorem lp_8_removeStreet_20 {r0 : Nat} {x1 : Int32} {Q : St → Prop} (S : SC A D ac st p m c prog_10_method_10_code 3 s args "SweeperRounds$World" R cells slots 3 64) (hR : RtV A D ac ad p l e R s m args below meth c prog_10_method_10_code cells slots QW Q) (hk_r0 : kd r0 = 8) : ∀ (n : Nat) (x2 : Int32) (σ : St) (H : Heap) (locs : List Loc) (ls : Array Slot), DG A D ac ad s σ H locs → lv_has ls 3 [(0, .ref (ad r0)), (1, .int x1), (2, .int x2)] → itN (m_8_removeStreet_20 r0 x1 Q) (fun _ _ => False) n x2 σ → W p l e R s m args below meth c H locs cells slots QW (F0 m 20 ls []) := by
  intro n
  induction n with
  | zero =>
    intro x2 σ H locs ls  hG hl hf
    exact hf.elim
  | succ n ih =>
    intro x2 σ H locs ls  hG hl hf
    exact w_8_removeStreet_20 S hR hk_r0  ih hG hl hf
set_option maxHeartbeats 4000000 in
set_option maxRecDepth 100000 in
theorem w_8_removeStreet_0 {r0 : Nat} {x1 : Int32} {Q : St → Prop} {σ : St} {H : Heap} {locs : List Loc} {ls : Array Slot} (S : SC A D ac st p m c prog_10_method_10_code 3 s args "SweeperRounds$World" R cells slots 3 64) (hR : RtV A D ac ad p l e R s m args below meth c prog_10_method_10_code cells slots QW Q) (hk_r0 : kd r0 = 8) (hG : DG A D ac ad s σ H locs) (hl : lv_has ls 3 [(0, .ref (ad r0)), (1, .int x1)]) (hf : m_8_removeStreet r0 x1 Q σ) : W p l e R s m args below meth c H locs cells slots QW (F0 m 0 ls []) := by
  have hx := S.1.1
  have hb := S.1.2.1
  unfold m_8_removeStreet at hf
  refine lv_aload_n hx hb d_8_removeStreet_0 rfl (lv_at hl 0 rfl) ?_
  refine gf_8_27 S hG hk_r0 d_8_removeStreet_1 ?_
  refine lv_iconst (v := (2 : Int32)) hx hb d_8_removeStreet_4 (by decide) ?_
  refine lv_dup2_11 hx hb d_8_removeStreet_5 rfl rfl ?_
  refine mia S hG 27 rfl rfl (kr_8_8 hk_r0) hf.1 d_8_removeStreet_6 ?_
  have hf := hf.2
  refine lv_aload_n hx hb d_8_removeStreet_7 rfl (lv_at hl 0 rfl) ?_
  refine gf_8_11 S hG hk_r0 d_8_removeStreet_8 ?_
  refine lv_iload_n hx hb d_8_removeStreet_11 rfl (lv_at hl 1 rfl) ?_
  refine mq3 S hG (kr_8_0 hk_r0) hf.1 d_8_removeStreet_12 ?_
  have hi_1 := vin_lt hf.1
  have hf := hf.2
  refine iv_8_88 S hl.1 hG (ke_23 (kr_8_0 hk_r0) hi_1) (c_6_allDirt l (ke_23 (kr_8_0 hk_r0) hi_1) hf) ⟨Nat.le_of_ble_eq_true rfl, Nat.le_of_ble_eq_true rfl⟩ (Nat.le_of_ble_eq_true rfl) d_8_removeStreet_13 (fun v_3 σ_2 hf H locs hG => ?_)
  refine lv_iadd hx hb d_8_removeStreet_16 ?_
  refine mis S hG 27 rfl rfl (kr_8_8 hk_r0) hf.1 d_8_removeStreet_17 (fun σ_4 eσ_4 H locs hG => ?_)
  have hf := hf.2 σ_4 eσ_4
  refine lv_iload_n hx hb d_8_removeStreet_18 rfl (lv_at hl 1 rfl) ?_
  refine lv_istore_n (lv' := [(2, .int x1), (0, .ref (ad r0)), (1, .int x1)]) hx hb d_8_removeStreet_19 rfl hl (by decide) rfl (fun ls hl => ?_)
  exact lp_8_removeStreet_20 S hR hk_r0  FU _ _ _ _ _  hG (lv_sub hl [1, 2, 0] rfl) hf
theorem c_8_removeStreet (l : Launch) {D : va_G} {ac : Nat → ClassId} {ad st : Nat → Nat} {A : Nat → Prop} {σ : St} {r0 : Nat} {x1 : Int32} {Q : St → Prop} (hk_r0 : kd r0 = 8) (hf : m_8_removeStreet r0 x1 Q σ) : Met l y_8_removeStreet (Cond.code y_8_removeStreet prog_10_method_10_code 3 none :: wA) { frames := 3, cells := 0, slots := 0, locals := 64 } (va_Pc [.ref (ad r0), .int x1] (GSt A D ac ad st σ)) (va_Qv Q (GSt A D ac ad st) A) 0 0 A :=
  mkV l (by decide +kernel) rfl [.ref (ad r0), .int x1] (Nat.le_of_ble_eq_true rfl) (fun p e s m args below meth c ls QW S hR hG hl => w_8_removeStreet_0 S hR hk_r0 hG hl hf)
set_option maxHeartbeats 4000000 in
set_option maxRecDepth 100000 in
theorem w_9_dropStreet_0 {r0 : Nat} {x1 : Int32} {Q : Int32 → St → Prop} {σ : St} {H : Heap} {locs : List Loc} {ls : Array Slot} (S : SC A D ac st p m c prog_1_method_7_code 2 s args "SweeperRounds" R cells slots 4 86) (hR : RtI A D ac ad p l e R s m args below meth c prog_1_method_7_code cells slots QW Q) (hk_r0 : kd r0 = 9) (hG : DG A D ac ad s σ H locs) (hl : lv_has ls 2 [(0, .ref (ad r0)), (1, .int x1)]) (hf : m_9_dropStreet r0 x1 Q σ) : W p l e R s m args below meth c H locs cells slots QW (F0 m 0 ls []) := by
  have hx := S.1.1
  have hb := S.1.2.1
  unfold m_9_dropStreet at hf
  refine lv_aload_n hx hb d_9_dropStreet_0 rfl (lv_at hl 0 rfl) ?_
  refine gf_9_26 S hG hk_r0 d_9_dropStreet_1 ?_
  refine lv_iload_n hx hb d_9_dropStreet_4 rfl (lv_at hl 1 rfl) ?_
  refine iv_9_100 S hl.1 hG (kr_9_2 hk_r0) (c_8_hasStreet l (kr_9_2 hk_r0) hf) ⟨Nat.le_of_ble_eq_true rfl, Nat.le_of_ble_eq_true rfl⟩ (Nat.le_of_ble_eq_true rfl) d_9_dropStreet_5 (fun v_2 σ_1 hf H locs hG => ?_)
  refine lv_if_ne (tgt := 13) hx hb d_9_dropStreet_8 (by decide) (fun hc => ?_) (fun hc => ?_)
  · have hf := hf.1 hc
    refine lv_aload_n hx hb d_9_dropStreet_13 rfl (lv_at hl 0 rfl) ?_
    refine gf_9_42 S hG hk_r0 d_9_dropStreet_14 ?_
    refine lv_aload_n hx hb d_9_dropStreet_17 rfl (lv_at hl 0 rfl) ?_
    refine gf_9_26 S hG hk_r0 d_9_dropStreet_18 ?_
    refine iv_9_80 S hl.1 hG (kr_9_4 hk_r0) (c_0_remember l (kr_9_4 hk_r0) (kr_9_2 hk_r0) hf) ⟨Nat.le_of_ble_eq_true rfl, Nat.le_of_ble_eq_true rfl⟩ (Nat.le_of_ble_eq_true rfl) d_9_dropStreet_21 (fun σ_3 hf H locs hG => ?_)
    refine lv_aload_n hx hb d_9_dropStreet_24 rfl (lv_at hl 0 rfl) ?_
    refine gf_9_26 S hG hk_r0 d_9_dropStreet_25 ?_
    refine lv_iload_n hx hb d_9_dropStreet_28 rfl (lv_at hl 1 rfl) ?_
    refine iv_9_104 S hl.1 hG (kr_9_2 hk_r0) (c_8_removeStreet l (kr_9_2 hk_r0) hf) ⟨Nat.le_of_ble_eq_true rfl, Nat.le_of_ble_eq_true rfl⟩ (Nat.le_of_ble_eq_true rfl) d_9_dropStreet_29 (fun σ_5 hf H locs hG => ?_)
    refine lv_aload_n hx hb d_9_dropStreet_32 rfl (lv_at hl 0 rfl) ?_
    refine gf_9_26 S hG hk_r0 d_9_dropStreet_33 ?_
    refine gf_9_108 S hG (kr_9_2 hk_r0) d_9_dropStreet_36 ?_
    exact hR _ _ _ _ _ _ hG hf d_9_dropStreet_39
  · have hf := hf.2 hc
    refine lv_iconst (v := (-1 : Int32)) hx hb d_9_dropStreet_11 (by decide) ?_
    exact hR _ _ _ _ _ _ hG hf d_9_dropStreet_12
theorem c_9_dropStreet (l : Launch) {D : va_G} {ac : Nat → ClassId} {ad st : Nat → Nat} {A : Nat → Prop} {σ : St} {r0 : Nat} {x1 : Int32} {Q : Int32 → St → Prop} (hk_r0 : kd r0 = 9) (hf : m_9_dropStreet r0 x1 Q σ) : Met l y_9_dropStreet (Cond.code y_9_dropStreet prog_1_method_7_code 2 (some .int) :: wA) { frames := 4, cells := 0, slots := 0, locals := 86 } (va_Pc [.ref (ad r0), .int x1] (GSt A D ac ad st σ)) (va_Qi Q (GSt A D ac ad st) A) 0 0 A :=
  mkI l (by decide +kernel) rfl [.ref (ad r0), .int x1] (Nat.le_of_ble_eq_true rfl) (fun p e s m args below meth c ls QW S hR hG hl => w_9_dropStreet_0 S hR hk_r0 hG hl hf)
set_option maxHeartbeats 4000000 in
set_option maxRecDepth 100000 in
theorem w_8_hasCell_0 {r0 : Nat} {x1 : Int32} {x2 : Int32} {x3 : Int32} {Q : Int32 → St → Prop} {σ : St} {H : Heap} {locs : List Loc} {ls : Array Slot} (S : SC A D ac st p m c prog_10_method_4_code 4 s args "SweeperRounds$World" R cells slots 1 21) (hR : RtZ A D ac ad p l e R s m args below meth c prog_10_method_4_code cells slots QW Q) (hk_r0 : kd r0 = 8) (hG : DG A D ac ad s σ H locs) (hl : lv_has ls 4 [(0, .ref (ad r0)), (1, .int x1), (2, .int x2), (3, .int x3)]) (hf : m_8_hasCell r0 x1 x2 x3 Q σ) : W p l e R s m args below meth c H locs cells slots QW (F0 m 0 ls []) := by
  have hx := S.1.1
  have hb := S.1.2.1
  unfold m_8_hasCell at hf
  refine lv_aload_n hx hb d_8_hasCell_0 rfl (lv_at hl 0 rfl) ?_
  refine lv_iload_n hx hb d_8_hasCell_1 rfl (lv_at hl 1 rfl) ?_
  refine iv_8_81 S hl.1 hG hk_r0 (c_8_hasStreet l hk_r0 hf) ⟨Nat.le_of_ble_eq_true rfl, Nat.le_of_ble_eq_true rfl⟩ (Nat.le_of_ble_eq_true rfl) d_8_hasCell_2 (fun v_2 σ_1 hf H locs hG => ?_)
  refine lv_if_eq (tgt := 38) hx hb d_8_hasCell_5 (by decide) (fun hc => ?_) (fun hc => ?_)
  · have hf := hf.1 hc
    refine lv_iconst (v := (0 : Int32)) hx hb d_8_hasCell_38 (by decide) ?_
    exact hR _ _ _ _ _ _ hG (by unfold isB; decide) hf d_8_hasCell_39
  · have hf := hf.2 hc
    refine lv_iload_n hx hb d_8_hasCell_8 rfl (lv_at hl 2 rfl) ?_
    refine lv_if_lt (tgt := 38) hx hb d_8_hasCell_9 (by decide) (fun hc => ?_) (fun hc => ?_)
    · have hf := hf.1 hc
      refine lv_iconst (v := (0 : Int32)) hx hb d_8_hasCell_38 (by decide) ?_
      exact hR _ _ _ _ _ _ hG (by unfold isB; decide) hf d_8_hasCell_39
    · have hf := hf.2 hc
      refine lv_iload_n hx hb d_8_hasCell_12 rfl (lv_at hl 2 rfl) ?_
      refine lv_iconst (v := (2 : Int32)) hx hb d_8_hasCell_13 (by decide) ?_
      refine lv_icmp_ge (tgt := 38) hx hb d_8_hasCell_14 (by decide) (fun hc => ?_) (fun hc => ?_)
      · have hf := hf.1 hc
        refine lv_iconst (v := (0 : Int32)) hx hb d_8_hasCell_38 (by decide) ?_
        exact hR _ _ _ _ _ _ hG (by unfold isB; decide) hf d_8_hasCell_39
      · have hf := hf.2 hc
        refine lv_iload_n hx hb d_8_hasCell_17 rfl (lv_at hl 3 rfl) ?_
        refine lv_if_lt (tgt := 38) hx hb d_8_hasCell_18 (by decide) (fun hc => ?_) (fun hc => ?_)
        · have hf := hf.1 hc
          refine lv_iconst (v := (0 : Int32)) hx hb d_8_hasCell_38 (by decide) ?_
          exact hR _ _ _ _ _ _ hG (by unfold isB; decide) hf d_8_hasCell_39
        · have hf := hf.2 hc
          refine lv_iload_n hx hb d_8_hasCell_21 rfl (lv_at hl 3 rfl) ?_
          refine lv_aload_n hx hb d_8_hasCell_22 rfl (lv_at hl 0 rfl) ?_
          refine gf_8_11 S hG hk_r0 d_8_hasCell_23 ?_
          refine lv_iload_n hx hb d_8_hasCell_26 rfl (lv_at hl 1 rfl) ?_
          refine mq3 S hG (kr_8_0 hk_r0) hf.1 d_8_hasCell_27 ?_
          have hi_3 := vin_lt hf.1
          have hf := hf.2
          refine gf_8_85 S hG (ke_23 (kr_8_0 hk_r0) hi_3) d_8_hasCell_28 ?_
          refine lv_icmp_ge (tgt := 38) hx hb d_8_hasCell_31 (by decide) (fun hc => ?_) (fun hc => ?_)
          · have hf := hf.1 hc
            refine lv_iconst (v := (0 : Int32)) hx hb d_8_hasCell_38 (by decide) ?_
            exact hR _ _ _ _ _ _ hG (by unfold isB; decide) hf d_8_hasCell_39
          · have hf := hf.2 hc
            refine lv_iconst (v := (1 : Int32)) hx hb d_8_hasCell_34 (by decide) ?_
            refine lv_goto (tgt := 39) hx hb d_8_hasCell_35 (by decide) ?_
            exact hR _ _ _ _ _ _ hG (by unfold isB; decide) hf d_8_hasCell_39
theorem c_8_hasCell (l : Launch) {D : va_G} {ac : Nat → ClassId} {ad st : Nat → Nat} {A : Nat → Prop} {σ : St} {r0 : Nat} {x1 : Int32} {x2 : Int32} {x3 : Int32} {Q : Int32 → St → Prop} (hk_r0 : kd r0 = 8) (hf : m_8_hasCell r0 x1 x2 x3 Q σ) : Met l y_8_hasCell (Cond.code y_8_hasCell prog_10_method_4_code 4 (some .boolean) :: wA) { frames := 1, cells := 0, slots := 0, locals := 21 } (va_Pc [.ref (ad r0), .int x1, .int x2, .int x3] (GSt A D ac ad st σ)) (va_Qi Q (GSt A D ac ad st) A) 0 0 A :=
  mkZ l (by decide +kernel) rfl [.ref (ad r0), .int x1, .int x2, .int x3] (Nat.le_of_ble_eq_true rfl) (fun p e s m args below meth c ls QW S hR hG hl => w_8_hasCell_0 S hR hk_r0 hG hl hf)
set_option maxHeartbeats 4000000 in
set_option maxRecDepth 100000 in
theorem w_8_layDirt_0 {r0 : Nat} {x1 : Int32} {x2 : Int32} {x3 : Int32} {Q : Int32 → St → Prop} {σ : St} {H : Heap} {locs : List Loc} {ls : Array Slot} (S : SC A D ac st p m c prog_10_method_14_code 6 s args "SweeperRounds$World" R cells slots 1 16) (hR : RtI A D ac ad p l e R s m args below meth c prog_10_method_14_code cells slots QW Q) (hk_r0 : kd r0 = 8) (hG : DG A D ac ad s σ H locs) (hl : lv_has ls 6 [(0, .ref (ad r0)), (1, .int x1), (2, .int x2), (3, .int x3)]) (hf : m_8_layDirt r0 x1 x2 x3 Q σ) : W p l e R s m args below meth c H locs cells slots QW (F0 m 0 ls []) := by
  have hx := S.1.1
  have hb := S.1.2.1
  unfold m_8_layDirt at hf
  refine lv_aload_n hx hb d_8_layDirt_0 rfl (lv_at hl 0 rfl) ?_
  refine gf_8_11 S hG hk_r0 d_8_layDirt_1 ?_
  refine lv_iload_n hx hb d_8_layDirt_4 rfl (lv_at hl 1 rfl) ?_
  refine mq3 S hG (kr_8_0 hk_r0) hf.1 d_8_layDirt_5 ?_
  have hi_1 := vin_lt hf.1
  have hf := hf.2
  refine gf_8_111 S hG (ke_23 (kr_8_0 hk_r0) hi_1) d_8_layDirt_6 ?_
  refine lv_topr (fun r4_2 er4_2 => ?_)
  have hf := hf r4_2 er4_2
  have hk_r4_2 : kd r4_2 = 20 := er4_2 ▸ (kr_6_3 (ke_23 (kr_8_0 hk_r0) hi_1))
  refine lv_astore (lv' := [(4, .ref (ad r4_2)), (0, .ref (ad r0)), (1, .int x1), (2, .int x2), (3, .int x3)]) hx hb d_8_layDirt_9 hl (by decide) rfl (fun ls hl => ?_)
  refine lv_aload hx hb d_8_layDirt_11 (lv_at hl 0 rfl) ?_
  refine lv_iload_n hx hb d_8_layDirt_13 rfl (lv_at hl 3 rfl) ?_
  refine mia S hG 20 rfl rfl hk_r4_2 hf.1 d_8_layDirt_14 ?_
  have hf := hf.2
  refine lv_topi (fun x5_3 ex5_3 => ?_)
  have hf := hf x5_3 ex5_3
  refine lv_istore (lv' := [(5, .int x5_3), (4, .ref (ad r4_2)), (0, .ref (ad r0)), (1, .int x1), (2, .int x2), (3, .int x3)]) hx hb d_8_layDirt_15 hl (by decide) rfl (fun ls hl => ?_)
  refine lv_aload hx hb d_8_layDirt_17 (lv_at hl 1 rfl) ?_
  refine lv_iload_n hx hb d_8_layDirt_19 rfl (lv_at hl 4 rfl) ?_
  refine lv_iload_n hx hb d_8_layDirt_20 rfl (lv_at hl 5 rfl) ?_
  refine mis S hG 20 rfl rfl hk_r4_2 hf.1 d_8_layDirt_21 (fun σ_4 eσ_4 H locs hG => ?_)
  have hf := hf.2 σ_4 eσ_4
  refine lv_aload_n hx hb d_8_layDirt_22 rfl (lv_at hl 2 rfl) ?_
  refine gf_8_27 S hG hk_r0 d_8_layDirt_23 ?_
  refine lv_iconst (v := (0 : Int32)) hx hb d_8_layDirt_26 (by decide) ?_
  refine lv_dup2_11 hx hb d_8_layDirt_27 rfl rfl ?_
  refine mia S hG 27 rfl rfl (kr_8_8 hk_r0) hf.1 d_8_layDirt_28 ?_
  have hf := hf.2
  refine lv_iconst (v := (0 : Int32)) hx hb d_8_layDirt_29 (by decide) ?_
  refine lv_iload_n hx hb d_8_layDirt_30 rfl (lv_at hl 5 rfl) ?_
  refine lv_iload hx hb d_8_layDirt_31 (lv_at hl 0 rfl) ?_
  refine lv_isub hx hb d_8_layDirt_33 ?_
  refine mmx S hl.1 wm_530 wm_531 wm_78 wm_532 (by decide) (Nat.le_of_ble_eq_true rfl) d_8_layDirt_34 ?_
  refine lv_iadd hx hb d_8_layDirt_37 ?_
  refine mis S hG 27 rfl rfl (kr_8_8 hk_r0) hf.1 d_8_layDirt_38 (fun σ_5 eσ_5 H locs hG => ?_)
  have hf := hf.2 σ_5 eσ_5
  refine lv_aload_n hx hb d_8_layDirt_39 rfl (lv_at hl 2 rfl) ?_
  refine gf_8_27 S hG hk_r0 d_8_layDirt_40 ?_
  refine lv_iconst (v := (2 : Int32)) hx hb d_8_layDirt_43 (by decide) ?_
  refine lv_dup2_11 hx hb d_8_layDirt_44 rfl rfl ?_
  refine mia S hG 27 rfl rfl (kr_8_8 hk_r0) hf.1 d_8_layDirt_45 ?_
  have hf := hf.2
  refine lv_iconst (v := (0 : Int32)) hx hb d_8_layDirt_46 (by decide) ?_
  refine lv_iload hx hb d_8_layDirt_47 (lv_at hl 0 rfl) ?_
  refine lv_iload_n hx hb d_8_layDirt_49 rfl (lv_at hl 5 rfl) ?_
  refine lv_isub hx hb d_8_layDirt_50 ?_
  refine mmx S hl.1 wm_530 wm_531 wm_78 wm_532 (by decide) (Nat.le_of_ble_eq_true rfl) d_8_layDirt_51 ?_
  refine lv_iadd hx hb d_8_layDirt_54 ?_
  refine mis S hG 27 rfl rfl (kr_8_8 hk_r0) hf.1 d_8_layDirt_55 (fun σ_6 eσ_6 H locs hG => ?_)
  have hf := hf.2 σ_6 eσ_6
  refine lv_iload hx hb d_8_layDirt_56 (lv_at hl 0 rfl) ?_
  exact hR _ _ _ _ _ _ hG hf d_8_layDirt_58
theorem c_8_layDirt (l : Launch) {D : va_G} {ac : Nat → ClassId} {ad st : Nat → Nat} {A : Nat → Prop} {σ : St} {r0 : Nat} {x1 : Int32} {x2 : Int32} {x3 : Int32} {Q : Int32 → St → Prop} (hk_r0 : kd r0 = 8) (hf : m_8_layDirt r0 x1 x2 x3 Q σ) : Met l y_8_layDirt (Cond.code y_8_layDirt prog_10_method_14_code 6 (some .int) :: wA) { frames := 1, cells := 0, slots := 0, locals := 16 } (va_Pc [.ref (ad r0), .int x1, .int x2, .int x3] (GSt A D ac ad st σ)) (va_Qi Q (GSt A D ac ad st) A) 0 0 A :=
  mkI l (by decide +kernel) rfl [.ref (ad r0), .int x1, .int x2, .int x3] (Nat.le_of_ble_eq_true rfl) (fun p e s m args below meth c ls QW S hR hG hl => w_8_layDirt_0 S hR hk_r0 hG hl hf)
set_option maxHeartbeats 4000000 in
set_option maxRecDepth 100000 in
theorem w_9_lay_0 {r0 : Nat} {x1 : Int32} {x2 : Int32} {x3 : Int32} {x4 : Int32} {Q : Int32 → St → Prop} {σ : St} {H : Heap} {locs : List Loc} {ls : Array Slot} (S : SC A D ac st p m c prog_1_method_8_code 5 s args "SweeperRounds" R cells slots 3 65) (hR : RtI A D ac ad p l e R s m args below meth c prog_1_method_8_code cells slots QW Q) (hk_r0 : kd r0 = 9) (hG : DG A D ac ad s σ H locs) (hl : lv_has ls 5 [(0, .ref (ad r0)), (1, .int x1), (2, .int x2), (3, .int x3), (4, .int x4)]) (hf : m_9_lay r0 x1 x2 x3 x4 Q σ) : W p l e R s m args below meth c H locs cells slots QW (F0 m 0 ls []) := by
  have hx := S.1.1
  have hb := S.1.2.1
  unfold m_9_lay at hf
  refine lv_aload_n hx hb d_9_lay_0 rfl (lv_at hl 0 rfl) ?_
  refine gf_9_26 S hG hk_r0 d_9_lay_1 ?_
  refine lv_iload_n hx hb d_9_lay_4 rfl (lv_at hl 1 rfl) ?_
  refine lv_iload_n hx hb d_9_lay_5 rfl (lv_at hl 2 rfl) ?_
  refine lv_iload_n hx hb d_9_lay_6 rfl (lv_at hl 3 rfl) ?_
  refine iv_9_111 S hl.1 hG (kr_9_2 hk_r0) (c_8_hasCell l (kr_9_2 hk_r0) hf) ⟨Nat.le_of_ble_eq_true rfl, Nat.le_of_ble_eq_true rfl⟩ (Nat.le_of_ble_eq_true rfl) d_9_lay_7 (fun v_2 σ_1 hf H locs hG => ?_)
  refine lv_if_eq (tgt := 25) hx hb d_9_lay_10 (by decide) (fun hc => ?_) (fun hc => ?_)
  · have hf := hf.1 hc
    refine lv_iconst (v := (-1 : Int32)) hx hb d_9_lay_25 (by decide) ?_
    exact hR _ _ _ _ _ _ hG hf d_9_lay_26
  · have hf := hf.2 hc
    refine lv_iload hx hb d_9_lay_13 (lv_at hl 4 rfl) ?_
    refine lv_if_lt (tgt := 25) hx hb d_9_lay_15 (by decide) (fun hc => ?_) (fun hc => ?_)
    · have hf := hf.1 hc
      refine lv_iconst (v := (-1 : Int32)) hx hb d_9_lay_25 (by decide) ?_
      exact hR _ _ _ _ _ _ hG hf d_9_lay_26
    · have hf := hf.2 hc
      refine lv_iload hx hb d_9_lay_18 (lv_at hl 4 rfl) ?_
      refine lv_bipush (v := (99 : Int32)) hx hb d_9_lay_20 (by decide) ?_
      refine lv_icmp_le (tgt := 27) hx hb d_9_lay_22 (by decide) (fun hc => ?_) (fun hc => ?_)
      · have hf := hf.1 hc
        refine lv_aload_n hx hb d_9_lay_27 rfl (lv_at hl 0 rfl) ?_
        refine gf_9_42 S hG hk_r0 d_9_lay_28 ?_
        refine lv_aload_n hx hb d_9_lay_31 rfl (lv_at hl 0 rfl) ?_
        refine gf_9_26 S hG hk_r0 d_9_lay_32 ?_
        refine iv_9_80 S hl.1 hG (kr_9_4 hk_r0) (c_0_remember l (kr_9_4 hk_r0) (kr_9_2 hk_r0) hf) ⟨Nat.le_of_ble_eq_true rfl, Nat.le_of_ble_eq_true rfl⟩ (Nat.le_of_ble_eq_true rfl) d_9_lay_35 (fun σ_3 hf H locs hG => ?_)
        refine lv_aload_n hx hb d_9_lay_38 rfl (lv_at hl 0 rfl) ?_
        refine gf_9_26 S hG hk_r0 d_9_lay_39 ?_
        refine lv_iload_n hx hb d_9_lay_42 rfl (lv_at hl 1 rfl) ?_
        refine lv_iload_n hx hb d_9_lay_43 rfl (lv_at hl 2 rfl) ?_
        refine lv_iload_n hx hb d_9_lay_44 rfl (lv_at hl 3 rfl) ?_
        refine iv_9_115 S hl.1 hG  (c_9_placeOf l  hf) ⟨Nat.le_of_ble_eq_true rfl, Nat.le_of_ble_eq_true rfl⟩ (Nat.le_of_ble_eq_true rfl) d_9_lay_45 (fun v_6 σ_5 hf H locs hG => ?_)
        refine lv_iload hx hb d_9_lay_48 (lv_at hl 4 rfl) ?_
        refine iv_9_119 S hl.1 hG (kr_9_2 hk_r0) (c_8_layDirt l (kr_9_2 hk_r0) hf) ⟨Nat.le_of_ble_eq_true rfl, Nat.le_of_ble_eq_true rfl⟩ (Nat.le_of_ble_eq_true rfl) d_9_lay_50 (fun v_8 σ_7 hf H locs hG => ?_)
        exact hR _ _ _ _ _ _ hG hf d_9_lay_53
      · have hf := hf.2 hc
        refine lv_iconst (v := (-1 : Int32)) hx hb d_9_lay_25 (by decide) ?_
        exact hR _ _ _ _ _ _ hG hf d_9_lay_26
theorem c_9_lay (l : Launch) {D : va_G} {ac : Nat → ClassId} {ad st : Nat → Nat} {A : Nat → Prop} {σ : St} {r0 : Nat} {x1 : Int32} {x2 : Int32} {x3 : Int32} {x4 : Int32} {Q : Int32 → St → Prop} (hk_r0 : kd r0 = 9) (hf : m_9_lay r0 x1 x2 x3 x4 Q σ) : Met l y_9_lay (Cond.code y_9_lay prog_1_method_8_code 5 (some .int) :: wA) { frames := 3, cells := 0, slots := 0, locals := 65 } (va_Pc [.ref (ad r0), .int x1, .int x2, .int x3, .int x4] (GSt A D ac ad st σ)) (va_Qi Q (GSt A D ac ad st) A) 0 0 A :=
  mkI l (by decide +kernel) rfl [.ref (ad r0), .int x1, .int x2, .int x3, .int x4] (Nat.le_of_ble_eq_true rfl) (fun p e s m args below meth c ls QW S hR hG hl => w_9_lay_0 S hR hk_r0 hG hl hf)
set_option maxHeartbeats 4000000 in
set_option maxRecDepth 100000 in
theorem w_9_park_0 {r0 : Nat} {x1 : Int32} {x2 : Int32} {x3 : Int32} {x4 : Int32} {Q : Int32 → St → Prop} {σ : St} {H : Heap} {locs : List Loc} {ls : Array Slot} (S : SC A D ac st p m c prog_1_method_9_code 8 s args "SweeperRounds" R cells slots 3 65) (hR : RtI A D ac ad p l e R s m args below meth c prog_1_method_9_code cells slots QW Q) (hk_r0 : kd r0 = 9) (hG : DG A D ac ad s σ H locs) (hl : lv_has ls 8 [(0, .ref (ad r0)), (1, .int x1), (2, .int x2), (3, .int x3), (4, .int x4)]) (hf : m_9_park r0 x1 x2 x3 x4 Q σ) : W p l e R s m args below meth c H locs cells slots QW (F0 m 0 ls []) := by
  have hx := S.1.1
  have hb := S.1.2.1
  unfold m_9_park at hf
  refine lv_aload_n hx hb d_9_park_0 rfl (lv_at hl 0 rfl) ?_
  refine gf_9_26 S hG hk_r0 d_9_park_1 ?_
  refine lv_iload_n hx hb d_9_park_4 rfl (lv_at hl 1 rfl) ?_
  refine lv_iload_n hx hb d_9_park_5 rfl (lv_at hl 2 rfl) ?_
  refine lv_iload_n hx hb d_9_park_6 rfl (lv_at hl 3 rfl) ?_
  refine iv_9_111 S hl.1 hG (kr_9_2 hk_r0) (c_8_hasCell l (kr_9_2 hk_r0) hf) ⟨Nat.le_of_ble_eq_true rfl, Nat.le_of_ble_eq_true rfl⟩ (Nat.le_of_ble_eq_true rfl) d_9_park_7 (fun v_2 σ_1 hf H locs hG => ?_)
  refine lv_if_ne (tgt := 15) hx hb d_9_park_10 (by decide) (fun hc => ?_) (fun hc => ?_)
  · have hf := hf.1 hc
    refine lv_aload_n hx hb d_9_park_15 rfl (lv_at hl 0 rfl) ?_
    refine gf_9_42 S hG hk_r0 d_9_park_16 ?_
    refine lv_aload_n hx hb d_9_park_19 rfl (lv_at hl 0 rfl) ?_
    refine gf_9_26 S hG hk_r0 d_9_park_20 ?_
    refine iv_9_80 S hl.1 hG (kr_9_4 hk_r0) (c_0_remember l (kr_9_4 hk_r0) (kr_9_2 hk_r0) hf) ⟨Nat.le_of_ble_eq_true rfl, Nat.le_of_ble_eq_true rfl⟩ (Nat.le_of_ble_eq_true rfl) d_9_park_23 (fun σ_3 hf H locs hG => ?_)
    refine lv_aload_n hx hb d_9_park_26 rfl (lv_at hl 0 rfl) ?_
    refine gf_9_26 S hG hk_r0 d_9_park_27 ?_
    refine gf_9_122 S hG (kr_9_2 hk_r0) d_9_park_30 ?_
    refine lv_iload_n hx hb d_9_park_33 rfl (lv_at hl 1 rfl) ?_
    refine mq3 S hG (kr_8_0 (kr_9_2 hk_r0)) hf.1 d_9_park_34 ?_
    have hi_5 := vin_lt hf.1
    have hf := hf.2
    refine gf_9_126 S hG (ke_23 (kr_8_0 (kr_9_2 hk_r0)) hi_5) d_9_park_35 ?_
    refine lv_topr (fun r5_6 er5_6 => ?_)
    have hf := hf r5_6 er5_6
    have hk_r5_6 : kd r5_6 = 22 := er5_6 ▸ (kr_6_4 (ke_23 (kr_8_0 (kr_9_2 hk_r0)) hi_5))
    refine lv_astore (lv' := [(5, .ref (ad r5_6)), (0, .ref (ad r0)), (1, .int x1), (2, .int x2), (3, .int x3), (4, .int x4)]) hx hb d_9_park_38 hl (by decide) rfl (fun ls hl => ?_)
    refine lv_iload_n hx hb d_9_park_40 rfl (lv_at hl 3 rfl) ?_
    refine lv_iload_n hx hb d_9_park_41 rfl (lv_at hl 4 rfl) ?_
    refine iv_9_115 S hl.1 hG  (c_9_placeOf l  hf) ⟨Nat.le_of_ble_eq_true rfl, Nat.le_of_ble_eq_true rfl⟩ (Nat.le_of_ble_eq_true rfl) d_9_park_42 (fun v_8 σ_7 hf H locs hG => ?_)
    refine lv_istore (lv' := [(6, .int v_8), (5, .ref (ad r5_6)), (0, .ref (ad r0)), (1, .int x1), (2, .int x2), (3, .int x3), (4, .int x4)]) hx hb d_9_park_45 hl (by decide) rfl (fun ls hl => ?_)
    refine lv_aload hx hb d_9_park_47 (lv_at hl 1 rfl) ?_
    refine lv_iload hx hb d_9_park_49 (lv_at hl 0 rfl) ?_
    refine mza S hG hk_r5_6 hf.1 d_9_park_51 ?_
    have hf := hf.2
    refine lv_topi (fun x7_9 ex7_9 => ?_)
    have hf := hf x7_9 ex7_9
    refine lv_istore (lv' := [(7, .int x7_9), (6, .int v_8), (5, .ref (ad r5_6)), (0, .ref (ad r0)), (1, .int x1), (2, .int x2), (3, .int x3), (4, .int x4)]) hx hb d_9_park_52 hl (by decide) rfl (fun ls hl => ?_)
    refine lv_aload hx hb d_9_park_54 (lv_at hl 2 rfl) ?_
    refine lv_iload hx hb d_9_park_56 (lv_at hl 1 rfl) ?_
    refine lv_iload hx hb d_9_park_58 (lv_at hl 7 rfl) ?_
    refine mzs S hG hk_r5_6 hf.1 d_9_park_60 (fun σ_10 eσ_10 H locs hG => ?_)
    have hf := hf.2 σ_10 eσ_10
    refine lv_iload hx hb d_9_park_61 (lv_at hl 0 rfl) ?_
    refine lv_if_eq (tgt := 70) hx hb d_9_park_63 (by decide) (fun hc => ?_) (fun hc => ?_)
    · have hf := hf.1 hc
      refine lv_iconst (v := (0 : Int32)) hx hb d_9_park_70 (by decide) ?_
      exact hR _ _ _ _ _ _ hG hf d_9_park_71
    · have hf := hf.2 hc
      refine lv_iconst (v := (1 : Int32)) hx hb d_9_park_66 (by decide) ?_
      refine lv_goto (tgt := 71) hx hb d_9_park_67 (by decide) ?_
      exact hR _ _ _ _ _ _ hG hf d_9_park_71
  · have hf := hf.2 hc
    refine lv_iconst (v := (-1 : Int32)) hx hb d_9_park_13 (by decide) ?_
    exact hR _ _ _ _ _ _ hG hf d_9_park_14
theorem c_9_park (l : Launch) {D : va_G} {ac : Nat → ClassId} {ad st : Nat → Nat} {A : Nat → Prop} {σ : St} {r0 : Nat} {x1 : Int32} {x2 : Int32} {x3 : Int32} {x4 : Int32} {Q : Int32 → St → Prop} (hk_r0 : kd r0 = 9) (hf : m_9_park r0 x1 x2 x3 x4 Q σ) : Met l y_9_park (Cond.code y_9_park prog_1_method_9_code 8 (some .int) :: wA) { frames := 3, cells := 0, slots := 0, locals := 65 } (va_Pc [.ref (ad r0), .int x1, .int x2, .int x3, .int x4] (GSt A D ac ad st σ)) (va_Qi Q (GSt A D ac ad st) A) 0 0 A :=
  mkI l (by decide +kernel) rfl [.ref (ad r0), .int x1, .int x2, .int x3, .int x4] (Nat.le_of_ble_eq_true rfl) (fun p e s m args below meth c ls QW S hR hG hl => w_9_park_0 S hR hk_r0 hG hl hf)
set_option maxHeartbeats 4000000 in
set_option maxRecDepth 100000 in
theorem w_8_grip_0 {r0 : Nat} {Q : Int32 → St → Prop} {σ : St} {H : Heap} {locs : List Loc} {ls : Array Slot} (S : SC A D ac st p m c prog_10_method_16_code 1 s args "SweeperRounds$World" R cells slots 0 0) (hR : RtI A D ac ad p l e R s m args below meth c prog_10_method_16_code cells slots QW Q) (hk_r0 : kd r0 = 8) (hG : DG A D ac ad s σ H locs) (hl : lv_has ls 1 [(0, .ref (ad r0))]) (hf : m_8_grip r0 Q σ) : W p l e R s m args below meth c H locs cells slots QW (F0 m 0 ls []) := by
  have hx := S.1.1
  have hb := S.1.2.1
  unfold m_8_grip at hf
  refine lv_bipush (v := (100 : Int32)) hx hb d_8_grip_0 (by decide) ?_
  refine lv_bipush (v := (15 : Int32)) hx hb d_8_grip_2 (by decide) ?_
  refine lv_aload_n hx hb d_8_grip_4 rfl (lv_at hl 0 rfl) ?_
  refine gf_8_23 S hG hk_r0 d_8_grip_5 ?_
  refine lv_iconst (v := (0 : Int32)) hx hb d_8_grip_8 (by decide) ?_
  refine mia S hG 26 rfl rfl (kr_8_5 hk_r0) hf.1 d_8_grip_9 ?_
  have hf := hf.2
  refine lv_iconst (v := (1 : Int32)) hx hb d_8_grip_10 (by decide) ?_
  refine lv_isub hx hb d_8_grip_11 ?_
  refine lv_imul hx hb d_8_grip_12 ?_
  refine lv_isub hx hb d_8_grip_13 ?_
  refine lv_aload_n hx hb d_8_grip_14 rfl (lv_at hl 0 rfl) ?_
  refine gf_8_48 S hG hk_r0 d_8_grip_15 ?_
  refine lv_imul hx hb d_8_grip_18 ?_
  refine lv_sipush (v := (1000 : Int32)) hx hb d_8_grip_19 (by decide) ?_
  refine lv_idiv hx hb d_8_grip_22 (by decide) ?_
  exact hR _ _ _ _ _ _ hG hf d_8_grip_23
theorem c_8_grip (l : Launch) {D : va_G} {ac : Nat → ClassId} {ad st : Nat → Nat} {A : Nat → Prop} {σ : St} {r0 : Nat} {Q : Int32 → St → Prop} (hk_r0 : kd r0 = 8) (hf : m_8_grip r0 Q σ) : Met l y_8_grip (Cond.code y_8_grip prog_10_method_16_code 1 (some .int) :: wA) { frames := 0, cells := 0, slots := 0, locals := 0 } (va_Pc [.ref (ad r0)] (GSt A D ac ad st σ)) (va_Qi Q (GSt A D ac ad st) A) 0 0 A :=
  mkI l (by decide +kernel) rfl [.ref (ad r0)] (Nat.le_of_ble_eq_true rfl) (fun p e s m args below meth c ls QW S hR hG hl => w_8_grip_0 S hR hk_r0 hG hl hf)
set_option maxHeartbeats 4000000 in
set_option maxRecDepth 100000 in
theorem w_6_couldGive_0 {r0 : Nat} {x1 : Int32} {x2 : Int32} {Q : Int32 → St → Prop} {σ : St} {H : Heap} {locs : List Loc} {ls : Array Slot} (S : SC A D ac st p m c prog_8_method_8_code 3 s args "SweeperRounds$Street" R cells slots 0 0) (hR : RtI A D ac ad p l e R s m args below meth c prog_8_method_8_code cells slots QW Q) (hk_r0 : kd r0 = 6) (hG : DG A D ac ad s σ H locs) (hl : lv_has ls 3 [(0, .ref (ad r0)), (1, .int x1), (2, .int x2)]) (hf : m_6_couldGive r0 x1 x2 Q σ) : W p l e R s m args below meth c H locs cells slots QW (F0 m 0 ls []) := by
  have hx := S.1.1
  have hb := S.1.2.1
  unfold m_6_couldGive at hf
  refine lv_aload_n hx hb d_6_couldGive_0 rfl (lv_at hl 0 rfl) ?_
  refine gf_6_15 S hG hk_r0 d_6_couldGive_1 ?_
  refine lv_iload_n hx hb d_6_couldGive_4 rfl (lv_at hl 1 rfl) ?_
  refine mza S hG (kr_6_4 hk_r0) hf.1 d_6_couldGive_5 ?_
  have hf := hf.2
  refine lv_if_eq (tgt := 13) hx hb d_6_couldGive_6 (by decide) (fun hc => ?_) (fun hc => ?_)
  · have hf := hf.1 hc
    refine lv_aload_n hx hb d_6_couldGive_13 rfl (lv_at hl 0 rfl) ?_
    refine gf_6_9 S hG hk_r0 d_6_couldGive_14 ?_
    refine lv_iload_n hx hb d_6_couldGive_17 rfl (lv_at hl 1 rfl) ?_
    refine mia S hG 20 rfl rfl (kr_6_3 hk_r0) hf.1 d_6_couldGive_18 ?_
    have hf := hf.2
    refine lv_iload_n hx hb d_6_couldGive_19 rfl (lv_at hl 2 rfl) ?_
    refine lv_imul hx hb d_6_couldGive_20 ?_
    refine lv_bipush (v := (100 : Int32)) hx hb d_6_couldGive_21 (by decide) ?_
    refine lv_idiv hx hb d_6_couldGive_23 (by decide) ?_
    exact hR _ _ _ _ _ _ hG hf d_6_couldGive_24
  · have hf := hf.2 hc
    refine lv_iconst (v := (0 : Int32)) hx hb d_6_couldGive_9 (by decide) ?_
    refine lv_goto (tgt := 24) hx hb d_6_couldGive_10 (by decide) ?_
    exact hR _ _ _ _ _ _ hG hf d_6_couldGive_24
theorem c_6_couldGive (l : Launch) {D : va_G} {ac : Nat → ClassId} {ad st : Nat → Nat} {A : Nat → Prop} {σ : St} {r0 : Nat} {x1 : Int32} {x2 : Int32} {Q : Int32 → St → Prop} (hk_r0 : kd r0 = 6) (hf : m_6_couldGive r0 x1 x2 Q σ) : Met l y_6_couldGive (Cond.code y_6_couldGive prog_8_method_8_code 3 (some .int) :: wA) { frames := 0, cells := 0, slots := 0, locals := 0 } (va_Pc [.ref (ad r0), .int x1, .int x2] (GSt A D ac ad st σ)) (va_Qi Q (GSt A D ac ad st) A) 0 0 A :=
  mkI l (by decide +kernel) rfl [.ref (ad r0), .int x1, .int x2] (Nat.le_of_ble_eq_true rfl) (fun p e s m args below meth c ls QW S hR hG hl => w_6_couldGive_0 S hR hk_r0 hG hl hf)
set_option maxHeartbeats 4000000 in
set_option maxRecDepth 100000 in
theorem w_8_room_0 {r0 : Nat} {Q : Int32 → St → Prop} {σ : St} {H : Heap} {locs : List Loc} {ls : Array Slot} (S : SC A D ac st p m c prog_10_method_17_code 1 s args "SweeperRounds$World" R cells slots 0 0) (hR : RtI A D ac ad p l e R s m args below meth c prog_10_method_17_code cells slots QW Q) (hk_r0 : kd r0 = 8) (hG : DG A D ac ad s σ H locs) (hl : lv_has ls 1 [(0, .ref (ad r0))]) (hf : m_8_room r0 Q σ) : W p l e R s m args below meth c H locs cells slots QW (F0 m 0 ls []) := by
  have hx := S.1.1
  have hb := S.1.2.1
  unfold m_8_room at hf
  refine lv_aload_n hx hb d_8_room_0 rfl (lv_at hl 0 rfl) ?_
  refine gf_8_23 S hG hk_r0 d_8_room_1 ?_
  refine lv_iconst (v := (1 : Int32)) hx hb d_8_room_4 (by decide) ?_
  refine mia S hG 26 rfl rfl (kr_8_5 hk_r0) hf.1 d_8_room_5 ?_
  have hf := hf.2
  refine lv_aload_n hx hb d_8_room_6 rfl (lv_at hl 0 rfl) ?_
  refine gf_8_69 S hG hk_r0 d_8_room_7 ?_
  refine lv_isub hx hb d_8_room_10 ?_
  exact hR _ _ _ _ _ _ hG hf d_8_room_11
theorem c_8_room (l : Launch) {D : va_G} {ac : Nat → ClassId} {ad st : Nat → Nat} {A : Nat → Prop} {σ : St} {r0 : Nat} {Q : Int32 → St → Prop} (hk_r0 : kd r0 = 8) (hf : m_8_room r0 Q σ) : Met l y_8_room (Cond.code y_8_room prog_10_method_17_code 1 (some .int) :: wA) { frames := 0, cells := 0, slots := 0, locals := 0 } (va_Pc [.ref (ad r0)] (GSt A D ac ad st σ)) (va_Qi Q (GSt A D ac ad st) A) 0 0 A :=
  mkI l (by decide +kernel) rfl [.ref (ad r0)] (Nat.le_of_ble_eq_true rfl) (fun p e s m args below meth c ls QW S hR hG hl => w_8_room_0 S hR hk_r0 hG hl hf)
set_option maxHeartbeats 4000000 in
set_option maxRecDepth 100000 in
theorem w_9_cell_0 {r0 : Nat} {x1 : Int32} {x2 : Int32} {x3 : Int32} {x4 : Int32} {Q : Int32 → St → Prop} {σ : St} {H : Heap} {locs : List Loc} {ls : Array Slot} (S : SC A D ac st p m c prog_1_method_10_code 7 s args "SweeperRounds" R cells slots 2 44) (hR : RtI A D ac ad p l e R s m args below meth c prog_1_method_10_code cells slots QW Q) (hk_r0 : kd r0 = 9) (hG : DG A D ac ad s σ H locs) (hl : lv_has ls 7 [(0, .ref (ad r0)), (1, .int x1), (2, .int x2), (3, .int x3), (4, .int x4)]) (hf : m_9_cell r0 x1 x2 x3 x4 Q σ) : W p l e R s m args below meth c H locs cells slots QW (F0 m 0 ls []) := by
  have hx := S.1.1
  have hb := S.1.2.1
  unfold m_9_cell at hf
  refine lv_aload_n hx hb d_9_cell_0 rfl (lv_at hl 0 rfl) ?_
  refine gf_9_26 S hG hk_r0 d_9_cell_1 ?_
  refine lv_iload_n hx hb d_9_cell_4 rfl (lv_at hl 1 rfl) ?_
  refine lv_iload_n hx hb d_9_cell_5 rfl (lv_at hl 2 rfl) ?_
  refine lv_iload_n hx hb d_9_cell_6 rfl (lv_at hl 3 rfl) ?_
  refine iv_9_111 S hl.1 hG (kr_9_2 hk_r0) (c_8_hasCell l (kr_9_2 hk_r0) hf) ⟨Nat.le_of_ble_eq_true rfl, Nat.le_of_ble_eq_true rfl⟩ (Nat.le_of_ble_eq_true rfl) d_9_cell_7 (fun v_2 σ_1 hf H locs hG => ?_)
  refine lv_if_ne (tgt := 15) hx hb d_9_cell_10 (by decide) (fun hc => ?_) (fun hc => ?_)
  · have hf := hf.1 hc
    refine lv_aload_n hx hb d_9_cell_15 rfl (lv_at hl 0 rfl) ?_
    refine gf_9_26 S hG hk_r0 d_9_cell_16 ?_
    refine gf_9_122 S hG (kr_9_2 hk_r0) d_9_cell_19 ?_
    refine lv_iload_n hx hb d_9_cell_22 rfl (lv_at hl 1 rfl) ?_
    refine mq3 S hG (kr_8_0 (kr_9_2 hk_r0)) hf.1 d_9_cell_23 ?_
    have hi_3 := vin_lt hf.1
    have hf := hf.2
    refine lv_topr (fun r5_4 er5_4 => ?_)
    have hf := hf r5_4 er5_4
    have hk_r5_4 : kd r5_4 = 6 := er5_4 ▸ (ke_23 (kr_8_0 (kr_9_2 hk_r0)) hi_3)
    refine lv_astore (lv' := [(5, .ref (ad r5_4)), (0, .ref (ad r0)), (1, .int x1), (2, .int x2), (3, .int x3), (4, .int x4)]) hx hb d_9_cell_24 hl (by decide) rfl (fun ls hl => ?_)
    refine lv_iload_n hx hb d_9_cell_26 rfl (lv_at hl 3 rfl) ?_
    refine lv_iload_n hx hb d_9_cell_27 rfl (lv_at hl 4 rfl) ?_
    refine iv_9_115 S hl.1 hG  (c_9_placeOf l  hf) ⟨Nat.le_of_ble_eq_true rfl, Nat.le_of_ble_eq_true rfl⟩ (Nat.le_of_ble_eq_true rfl) d_9_cell_28 (fun v_6 σ_5 hf H locs hG => ?_)
    refine lv_istore (lv' := [(6, .int v_6), (5, .ref (ad r5_4)), (0, .ref (ad r0)), (1, .int x1), (2, .int x2), (3, .int x3), (4, .int x4)]) hx hb d_9_cell_31 hl (by decide) rfl (fun ls hl => ?_)
    refine lv_iload hx hb d_9_cell_33 (lv_at hl 6 rfl) ?_
    refine lv_topi (fun q_7 eq_7 => ?_)
    rcases sw_0_2 q_7 with hq_7 | hq_7 | hq_7 | hq_7
    · rw [eq_7] at hq_7 ⊢
      refine lv_tableOut (tgt := 111) hx hb d_9_cell_35 hq_7 (by decide) ?_
      have hf := hf.1 hq_7
      refine lv_iconst (v := (-1 : Int32)) hx hb d_9_cell_111 (by decide) ?_
      exact hR _ _ _ _ _ _ hG hf d_9_cell_112
    · subst hq_7
      refine lv_tableIn (off := 25) (tgt := 60) hx hb d_9_cell_35 (by decide) (by decide) (by decide) (by decide) ?_
      have hf := hf.2.1 eq_7.symm
      refine lv_aload hx hb d_9_cell_60 (lv_at hl 1 rfl) ?_
      refine gf_9_130 S hG hk_r5_4 d_9_cell_62 ?_
      refine lv_iload hx hb d_9_cell_65 (lv_at hl 0 rfl) ?_
      refine mia S hG 20 rfl rfl (kr_6_3 hk_r5_4) hf.1 d_9_cell_67 ?_
      have hf := hf.2
      exact hR _ _ _ _ _ _ hG hf d_9_cell_68
    · subst hq_7
      refine lv_tableIn (off := 34) (tgt := 69) hx hb d_9_cell_35 (by decide) (by decide) (by decide) (by decide) ?_
      have hf := hf.2.2.1 eq_7.symm
      refine lv_aload hx hb d_9_cell_69 (lv_at hl 1 rfl) ?_
      refine gf_9_126 S hG hk_r5_4 d_9_cell_71 ?_
      refine lv_iload hx hb d_9_cell_74 (lv_at hl 0 rfl) ?_
      refine mza S hG (kr_6_4 hk_r5_4) hf.1 d_9_cell_76 ?_
      have hf := hf.2
      refine lv_if_eq (tgt := 84) hx hb d_9_cell_77 (by decide) (fun hc => ?_) (fun hc => ?_)
      · have hf := hf.1 hc
        refine lv_iconst (v := (0 : Int32)) hx hb d_9_cell_84 (by decide) ?_
        exact hR _ _ _ _ _ _ hG hf d_9_cell_85
      · have hf := hf.2 hc
        refine lv_iconst (v := (1 : Int32)) hx hb d_9_cell_80 (by decide) ?_
        refine lv_goto (tgt := 85) hx hb d_9_cell_81 (by decide) ?_
        exact hR _ _ _ _ _ _ hG hf d_9_cell_85
    · subst hq_7
      refine lv_tableIn (off := 51) (tgt := 86) hx hb d_9_cell_35 (by decide) (by decide) (by decide) (by decide) ?_
      have hf := hf.2.2.2 eq_7.symm
      refine lv_aload hx hb d_9_cell_86 (lv_at hl 1 rfl) ?_
      refine lv_iload hx hb d_9_cell_88 (lv_at hl 0 rfl) ?_
      refine lv_aload_n hx hb d_9_cell_90 rfl (lv_at hl 2 rfl) ?_
      refine gf_9_26 S hG hk_r0 d_9_cell_91 ?_
      refine iv_9_134 S hl.1 hG (kr_9_2 hk_r0) (c_8_grip l (kr_9_2 hk_r0) hf) ⟨Nat.le_of_ble_eq_true rfl, Nat.le_of_ble_eq_true rfl⟩ (Nat.le_of_ble_eq_true rfl) d_9_cell_94 (fun v_9 σ_8 hf H locs hG => ?_)
      refine iv_9_138 S hl.1 hG hk_r5_4 (c_6_couldGive l hk_r5_4 hf) ⟨Nat.le_of_ble_eq_true rfl, Nat.le_of_ble_eq_true rfl⟩ (Nat.le_of_ble_eq_true rfl) d_9_cell_97 (fun v_11 σ_10 hf H locs hG => ?_)
      refine lv_aload_n hx hb d_9_cell_100 rfl (lv_at hl 2 rfl) ?_
      refine gf_9_26 S hG hk_r0 d_9_cell_101 ?_
      refine iv_9_141 S hl.1 hG (kr_9_2 hk_r0) (c_8_room l (kr_9_2 hk_r0) hf) ⟨Nat.le_of_ble_eq_true rfl, Nat.le_of_ble_eq_true rfl⟩ (Nat.le_of_ble_eq_true rfl) d_9_cell_104 (fun v_13 σ_12 hf H locs hG => ?_)
      refine mmn S hl.1 wm_553 wm_472 wm_78 wm_473 (by decide) (Nat.le_of_ble_eq_true rfl) d_9_cell_107 ?_
      exact hR _ _ _ _ _ _ hG hf d_9_cell_110
  · have hf := hf.2 hc
    refine lv_iconst (v := (-1 : Int32)) hx hb d_9_cell_13 (by decide) ?_
    exact hR _ _ _ _ _ _ hG hf d_9_cell_14
theorem c_9_cell (l : Launch) {D : va_G} {ac : Nat → ClassId} {ad st : Nat → Nat} {A : Nat → Prop} {σ : St} {r0 : Nat} {x1 : Int32} {x2 : Int32} {x3 : Int32} {x4 : Int32} {Q : Int32 → St → Prop} (hk_r0 : kd r0 = 9) (hf : m_9_cell r0 x1 x2 x3 x4 Q σ) : Met l y_9_cell (Cond.code y_9_cell prog_1_method_10_code 7 (some .int) :: wA) { frames := 2, cells := 0, slots := 0, locals := 44 } (va_Pc [.ref (ad r0), .int x1, .int x2, .int x3, .int x4] (GSt A D ac ad st σ)) (va_Qi Q (GSt A D ac ad st) A) 0 0 A :=
  mkI l (by decide +kernel) rfl [.ref (ad r0), .int x1, .int x2, .int x3, .int x4] (Nat.le_of_ble_eq_true rfl) (fun p e s m args below meth c ls QW S hR hG hl => w_9_cell_0 S hR hk_r0 hG hl hf)
set_option maxHeartbeats 4000000 in
set_option maxRecDepth 100000 in
theorem w_6_parkedCells_31 {r0 : Nat} {x2 : Int32} {B4 : Int32 → Int32 → St → Prop} {Q : Int32 → St → Prop} {t0 : Int32} {t1 : Int32} {σ : St} {H : Heap} {locs : List Loc} {ls : Array Slot} (S : SC A D ac st p m c prog_8_method_6_code 3 s args "SweeperRounds$Street" R cells slots 1 21) (hR : RtI A D ac ad p l e R s m args below meth c prog_8_method_6_code cells slots QW Q) (hk_r0 : kd r0 = 6) (hB4 : ∀ (x1 : Int32) (x2 : Int32) (σ : St) (H : Heap) (locs : List Loc) (ls : Array Slot), DG A D ac ad s σ H locs → lv_has ls 3 [(0, .ref (ad r0)), (1, .int x1), (2, .int x2)] → B4 x1 x2 σ → W p l e R s m args below meth c H locs cells slots QW (F0 m 4 ls [])) (hG : DG A D ac ad s σ H locs) (hl : lv_has ls 3 [(0, .ref (ad r0)), (2, .int x2)]) (hf : m_6_parkedCells_31 r0 x2 B4 Q t0 t1 σ) : W p l e R s m args below meth c H locs cells slots QW (F0 m 31 ls [.int t0, .int t1]) := by
  have hx := S.1.1
  have hb := S.1.2.1
  unfold m_6_parkedCells_31 at hf
  refine lv_iadd hx hb d_6_parkedCells_31 ?_
  refine lv_topi (fun x1_1 ex1_1 => ?_)
  have hf := hf x1_1 ex1_1
  refine lv_istore_n (lv' := [(1, .int x1_1), (0, .ref (ad r0)), (2, .int x2)]) hx hb d_6_parkedCells_32 rfl hl (by decide) rfl (fun ls hl => ?_)
  refine lv_iload_n hx hb d_6_parkedCells_33 rfl (lv_at hl 0 rfl) ?_
  refine lv_aload_n hx hb d_6_parkedCells_34 rfl (lv_at hl 1 rfl) ?_
  refine gf_6_15 S hG hk_r0 d_6_parkedCells_35 ?_
  refine lv_iconst (v := (1 : Int32)) hx hb d_6_parkedCells_38 (by decide) ?_
  refine lv_iload_n hx hb d_6_parkedCells_39 rfl (lv_at hl 2 rfl) ?_
  refine iv_6_29 S hl.1 hG  (c_9_placeOf l  hf) ⟨Nat.le_of_ble_eq_true rfl, Nat.le_of_ble_eq_true rfl⟩ (Nat.le_of_ble_eq_true rfl) d_6_parkedCells_40 (fun v_3 σ_2 hf H locs hG => ?_)
  refine mza S hG (kr_6_4 hk_r0) hf.1 d_6_parkedCells_43 ?_
  have hf := hf.2
  refine lv_if_eq (tgt := 51) hx hb d_6_parkedCells_44 (by decide) (fun hc => ?_) (fun hc => ?_)
  · have hf := hf.1 hc
    refine lv_iconst (v := (0 : Int32)) hx hb d_6_parkedCells_51 (by decide) ?_
    refine lv_iadd hx hb d_6_parkedCells_52 ?_
    refine lv_topi (fun x1_4 ex1_4 => ?_)
    have hf := hf x1_4 ex1_4
    refine lv_istore_n (lv' := [(1, .int x1_4), (0, .ref (ad r0)), (2, .int x2)]) hx hb d_6_parkedCells_53 rfl hl (by decide) rfl (fun ls hl => ?_)
    obtain ⟨x2_5, ex2_5⟩ : ∃ y : Int32, y = x2 + 1 := ⟨_, rfl⟩
    have hf := hf x2_5 ex2_5
    refine lv_iinc (v := x2_5) (lv' := [(2, .int x2_5), (1, .int x1_4), (0, .ref (ad r0))]) hx hb d_6_parkedCells_54 hl (k := 2) rfl (by rw [ex2_5]; rfl) (by decide) rfl (fun ls hl => ?_)
    refine lv_goto (tgt := 4) hx hb d_6_parkedCells_57 (by decide) ?_
    exact hB4 _ _ _ _ _ _  hG (lv_sub hl [2, 1, 0] rfl) hf
  · have hf := hf.2 hc
    refine lv_iconst (v := (1 : Int32)) hx hb d_6_parkedCells_47 (by decide) ?_
    refine lv_goto (tgt := 52) hx hb d_6_parkedCells_48 (by decide) ?_
    refine lv_iadd hx hb d_6_parkedCells_52 ?_
    refine lv_topi (fun x1_6 ex1_6 => ?_)
    have hf := hf x1_6 ex1_6
    refine lv_istore_n (lv' := [(1, .int x1_6), (0, .ref (ad r0)), (2, .int x2)]) hx hb d_6_parkedCells_53 rfl hl (by decide) rfl (fun ls hl => ?_)
    obtain ⟨x2_7, ex2_7⟩ : ∃ y : Int32, y = x2 + 1 := ⟨_, rfl⟩
    have hf := hf x2_7 ex2_7
    refine lv_iinc (v := x2_7) (lv' := [(2, .int x2_7), (1, .int x1_6), (0, .ref (ad r0))]) hx hb d_6_parkedCells_54 hl (k := 2) rfl (by rw [ex2_7]; rfl) (by decide) rfl (fun ls hl => ?_)
    refine lv_goto (tgt := 4) hx hb d_6_parkedCells_57 (by decide) ?_
    exact hB4 _ _ _ _ _ _  hG (lv_sub hl [2, 1, 0] rfl) hf
set_option maxHeartbeats 4000000 in
set_option maxRecDepth 100000 in
theorem w_6_parkedCells_4 {r0 : Nat} {Q : Int32 → St → Prop} {B4 : Int32 → Int32 → St → Prop} {x1 : Int32} {x2 : Int32} {σ : St} {H : Heap} {locs : List Loc} {ls : Array Slot} (S : SC A D ac st p m c prog_8_method_6_code 3 s args "SweeperRounds$Street" R cells slots 1 21) (hR : RtI A D ac ad p l e R s m args below meth c prog_8_method_6_code cells slots QW Q) (hk_r0 : kd r0 = 6) (hB4 : ∀ (x1 : Int32) (x2 : Int32) (σ : St) (H : Heap) (locs : List Loc) (ls : Array Slot), DG A D ac ad s σ H locs → lv_has ls 3 [(0, .ref (ad r0)), (1, .int x1), (2, .int x2)] → B4 x1 x2 σ → W p l e R s m args below meth c H locs cells slots QW (F0 m 4 ls [])) (hG : DG A D ac ad s σ H locs) (hl : lv_has ls 3 [(0, .ref (ad r0)), (1, .int x1), (2, .int x2)]) (hf : m_6_parkedCells_4 r0 Q B4 x1 x2 σ) : W p l e R s m args below meth c H locs cells slots QW (F0 m 4 ls []) := by
  have hx := S.1.1
  have hb := S.1.2.1
  unfold m_6_parkedCells_4 at hf
  refine lv_iload_n hx hb d_6_parkedCells_4 rfl (lv_at hl 2 rfl) ?_
  refine lv_aload_n hx hb d_6_parkedCells_5 rfl (lv_at hl 0 rfl) ?_
  refine gf_6_19 S hG hk_r0 d_6_parkedCells_6 ?_
  refine lv_icmp_ge (tgt := 60) hx hb d_6_parkedCells_9 (by decide) (fun hc => ?_) (fun hc => ?_)
  · have hf := hf.1 hc
    refine lv_iload_n hx hb d_6_parkedCells_60 rfl (lv_at hl 1 rfl) ?_
    exact hR _ _ _ _ _ _ hG hf d_6_parkedCells_61
  · have hf := hf.2 hc
    refine lv_iload_n hx hb d_6_parkedCells_12 rfl (lv_at hl 1 rfl) ?_
    refine lv_aload_n hx hb d_6_parkedCells_13 rfl (lv_at hl 0 rfl) ?_
    refine gf_6_15 S hG hk_r0 d_6_parkedCells_14 ?_
    refine lv_iconst (v := (0 : Int32)) hx hb d_6_parkedCells_17 (by decide) ?_
    refine lv_iload_n hx hb d_6_parkedCells_18 rfl (lv_at hl 2 rfl) ?_
    refine iv_6_29 S hl.1 hG  (c_9_placeOf l  hf) ⟨Nat.le_of_ble_eq_true rfl, Nat.le_of_ble_eq_true rfl⟩ (Nat.le_of_ble_eq_true rfl) d_6_parkedCells_19 (fun v_2 σ_1 hf H locs hG => ?_)
    refine mza S hG (kr_6_4 hk_r0) hf.1 d_6_parkedCells_22 ?_
    have hf := hf.2
    refine lv_if_eq (tgt := 30) hx hb d_6_parkedCells_23 (by decide) (fun hc => ?_) (fun hc => ?_)
    · have hf := hf.1 hc
      refine lv_iconst (v := (0 : Int32)) hx hb d_6_parkedCells_30 (by decide) ?_
      exact w_6_parkedCells_31 S hR hk_r0   hB4 hG (lv_sub hl [0, 2] rfl) hf
    · have hf := hf.2 hc
      refine lv_iconst (v := (1 : Int32)) hx hb d_6_parkedCells_26 (by decide) ?_
      refine lv_goto (tgt := 31) hx hb d_6_parkedCells_27 (by decide) ?_
      exact w_6_parkedCells_31 S hR hk_r0   hB4 hG (lv_sub hl [0, 2] rfl) hf
set_option maxHeartbeats 4000000 in
set_option maxRecDepth 100000 in
theorem lp_6_parkedCells_4 {r0 : Nat} {Q : Int32 → St → Prop} (S : SC A D ac st p m c prog_8_method_6_code 3 s args "SweeperRounds$Street" R cells slots 1 21) (hR : RtI A D ac ad p l e R s m args below meth c prog_8_method_6_code cells slots QW Q) (hk_r0 : kd r0 = 6) : ∀ (n : Nat) (x1 : Int32) (x2 : Int32) (σ : St) (H : Heap) (locs : List Loc) (ls : Array Slot), DG A D ac ad s σ H locs → lv_has ls 3 [(0, .ref (ad r0)), (1, .int x1), (2, .int x2)] → itN (m_6_parkedCells_4 r0 Q) (fun _ _ _ => False) n x1 x2 σ → W p l e R s m args below meth c H locs cells slots QW (F0 m 4 ls []) := by
  intro n
  induction n with
  | zero =>
    intro x1 x2 σ H locs ls  hG hl hf
    exact hf.elim
  | succ n ih =>
    intro x1 x2 σ H locs ls  hG hl hf
    exact w_6_parkedCells_4 S hR hk_r0  ih hG hl hf
set_option maxHeartbeats 4000000 in
set_option maxRecDepth 100000 in
theorem w_6_parkedCells_0 {r0 : Nat} {Q : Int32 → St → Prop} {σ : St} {H : Heap} {locs : List Loc} {ls : Array Slot} (S : SC A D ac st p m c prog_8_method_6_code 3 s args "SweeperRounds$Street" R cells slots 1 21) (hR : RtI A D ac ad p l e R s m args below meth c prog_8_method_6_code cells slots QW Q) (hk_r0 : kd r0 = 6) (hG : DG A D ac ad s σ H locs) (hl : lv_has ls 3 [(0, .ref (ad r0))]) (hf : m_6_parkedCells r0 Q σ) : W p l e R s m args below meth c H locs cells slots QW (F0 m 0 ls []) := by
  have hx := S.1.1
  have hb := S.1.2.1
  unfold m_6_parkedCells at hf
  refine lv_iconst (v := (0 : Int32)) hx hb d_6_parkedCells_0 (by decide) ?_
  refine lv_istore_n (lv' := [(1, .int (0 : Int32)), (0, .ref (ad r0))]) hx hb d_6_parkedCells_1 rfl hl (by decide) rfl (fun ls hl => ?_)
  refine lv_iconst (v := (0 : Int32)) hx hb d_6_parkedCells_2 (by decide) ?_
  refine lv_istore_n (lv' := [(2, .int (0 : Int32)), (1, .int (0 : Int32)), (0, .ref (ad r0))]) hx hb d_6_parkedCells_3 rfl hl (by decide) rfl (fun ls hl => ?_)
  exact lp_6_parkedCells_4 S hR hk_r0  FU _ _ _ _ _ _  hG (lv_sub hl [2, 1, 0] rfl) hf
theorem c_6_parkedCells (l : Launch) {D : va_G} {ac : Nat → ClassId} {ad st : Nat → Nat} {A : Nat → Prop} {σ : St} {r0 : Nat} {Q : Int32 → St → Prop} (hk_r0 : kd r0 = 6) (hf : m_6_parkedCells r0 Q σ) : Met l y_6_parkedCells (Cond.code y_6_parkedCells prog_8_method_6_code 3 (some .int) :: wA) { frames := 1, cells := 0, slots := 0, locals := 21 } (va_Pc [.ref (ad r0)] (GSt A D ac ad st σ)) (va_Qi Q (GSt A D ac ad st) A) 0 0 A :=
  mkI l (by decide +kernel) rfl [.ref (ad r0)] (Nat.le_of_ble_eq_true rfl) (fun p e s m args below meth c ls QW S hR hG hl => w_6_parkedCells_0 S hR hk_r0 hG hl hf)
set_option maxHeartbeats 4000000 in
set_option maxRecDepth 100000 in
theorem w_6_greatestDirt_4 {r0 : Nat} {Q : Int32 → St → Prop} {B4 : Int32 → Int32 → St → Prop} {x1 : Int32} {x2 : Int32} {σ : St} {H : Heap} {locs : List Loc} {ls : Array Slot} (S : SC A D ac st p m c prog_8_method_7_code 3 s args "SweeperRounds$Street" R cells slots 1 21) (hR : RtI A D ac ad p l e R s m args below meth c prog_8_method_7_code cells slots QW Q) (hk_r0 : kd r0 = 6) (hB4 : ∀ (x1 : Int32) (x2 : Int32) (σ : St) (H : Heap) (locs : List Loc) (ls : Array Slot), DG A D ac ad s σ H locs → lv_has ls 3 [(0, .ref (ad r0)), (1, .int x1), (2, .int x2)] → B4 x1 x2 σ → W p l e R s m args below meth c H locs cells slots QW (F0 m 4 ls [])) (hG : DG A D ac ad s σ H locs) (hl : lv_has ls 3 [(0, .ref (ad r0)), (1, .int x1), (2, .int x2)]) (hf : m_6_greatestDirt_4 r0 Q B4 x1 x2 σ) : W p l e R s m args below meth c H locs cells slots QW (F0 m 4 ls []) := by
  have hx := S.1.1
  have hb := S.1.2.1
  unfold m_6_greatestDirt_4 at hf
  refine lv_iload_n hx hb d_6_greatestDirt_4 rfl (lv_at hl 2 rfl) ?_
  refine lv_aload_n hx hb d_6_greatestDirt_5 rfl (lv_at hl 0 rfl) ?_
  refine gf_6_19 S hG hk_r0 d_6_greatestDirt_6 ?_
  refine lv_icmp_ge (tgt := 48) hx hb d_6_greatestDirt_9 (by decide) (fun hc => ?_) (fun hc => ?_)
  · have hf := hf.1 hc
    refine lv_iload_n hx hb d_6_greatestDirt_48 rfl (lv_at hl 1 rfl) ?_
    exact hR _ _ _ _ _ _ hG hf d_6_greatestDirt_49
  · have hf := hf.2 hc
    refine lv_iload_n hx hb d_6_greatestDirt_12 rfl (lv_at hl 1 rfl) ?_
    refine lv_aload_n hx hb d_6_greatestDirt_13 rfl (lv_at hl 0 rfl) ?_
    refine gf_6_9 S hG hk_r0 d_6_greatestDirt_14 ?_
    refine lv_iconst (v := (0 : Int32)) hx hb d_6_greatestDirt_17 (by decide) ?_
    refine lv_iload_n hx hb d_6_greatestDirt_18 rfl (lv_at hl 2 rfl) ?_
    refine iv_6_29 S hl.1 hG  (c_9_placeOf l  hf) ⟨Nat.le_of_ble_eq_true rfl, Nat.le_of_ble_eq_true rfl⟩ (Nat.le_of_ble_eq_true rfl) d_6_greatestDirt_19 (fun v_2 σ_1 hf H locs hG => ?_)
    refine mia S hG 20 rfl rfl (kr_6_3 hk_r0) hf.1 d_6_greatestDirt_22 ?_
    have hf := hf.2
    refine mmx S hl.1 wm_567 wm_531 wm_78 wm_532 (by decide) (Nat.le_of_ble_eq_true rfl) d_6_greatestDirt_23 ?_
    refine lv_topi (fun x1_3 ex1_3 => ?_)
    have hf := hf x1_3 ex1_3
    refine lv_istore_n (lv' := [(1, .int x1_3), (0, .ref (ad r0)), (2, .int x2)]) hx hb d_6_greatestDirt_26 rfl hl (by decide) rfl (fun ls hl => ?_)
    refine lv_iload_n hx hb d_6_greatestDirt_27 rfl (lv_at hl 0 rfl) ?_
    refine lv_aload_n hx hb d_6_greatestDirt_28 rfl (lv_at hl 1 rfl) ?_
    refine gf_6_9 S hG hk_r0 d_6_greatestDirt_29 ?_
    refine lv_iconst (v := (1 : Int32)) hx hb d_6_greatestDirt_32 (by decide) ?_
    refine lv_iload_n hx hb d_6_greatestDirt_33 rfl (lv_at hl 2 rfl) ?_
    refine iv_6_29 S hl.1 hG  (c_9_placeOf l  hf) ⟨Nat.le_of_ble_eq_true rfl, Nat.le_of_ble_eq_true rfl⟩ (Nat.le_of_ble_eq_true rfl) d_6_greatestDirt_34 (fun v_5 σ_4 hf H locs hG => ?_)
    refine mia S hG 20 rfl rfl (kr_6_3 hk_r0) hf.1 d_6_greatestDirt_37 ?_
    have hf := hf.2
    refine mmx S hl.1 wm_567 wm_531 wm_78 wm_532 (by decide) (Nat.le_of_ble_eq_true rfl) d_6_greatestDirt_38 ?_
    refine lv_topi (fun x1_6 ex1_6 => ?_)
    have hf := hf x1_6 ex1_6
    refine lv_istore_n (lv' := [(1, .int x1_6), (0, .ref (ad r0)), (2, .int x2)]) hx hb d_6_greatestDirt_41 rfl hl (by decide) rfl (fun ls hl => ?_)
    obtain ⟨x2_7, ex2_7⟩ : ∃ y : Int32, y = x2 + 1 := ⟨_, rfl⟩
    have hf := hf x2_7 ex2_7
    refine lv_iinc (v := x2_7) (lv' := [(2, .int x2_7), (1, .int x1_6), (0, .ref (ad r0))]) hx hb d_6_greatestDirt_42 hl (k := 2) rfl (by rw [ex2_7]; rfl) (by decide) rfl (fun ls hl => ?_)
    refine lv_goto (tgt := 4) hx hb d_6_greatestDirt_45 (by decide) ?_
    exact hB4 _ _ _ _ _ _  hG (lv_sub hl [2, 1, 0] rfl) hf
set_option maxHeartbeats 4000000 in
set_option maxRecDepth 100000 in
theorem lp_6_greatestDirt_4 {r0 : Nat} {Q : Int32 → St → Prop} (S : SC A D ac st p m c prog_8_method_7_code 3 s args "SweeperRounds$Street" R cells slots 1 21) (hR : RtI A D ac ad p l e R s m args below meth c prog_8_method_7_code cells slots QW Q) (hk_r0 : kd r0 = 6) : ∀ (n : Nat) (x1 : Int32) (x2 : Int32) (σ : St) (H : Heap) (locs : List Loc) (ls : Array Slot), DG A D ac ad s σ H locs → lv_has ls 3 [(0, .ref (ad r0)), (1, .int x1), (2, .int x2)] → itN (m_6_greatestDirt_4 r0 Q) (fun _ _ _ => False) n x1 x2 σ → W p l e R s m args below meth c H locs cells slots QW (F0 m 4 ls []) := by
  intro n
  induction n with
  | zero =>
    intro x1 x2 σ H locs ls  hG hl hf
    exact hf.elim
  | succ n ih =>
    intro x1 x2 σ H locs ls  hG hl hf
    exact w_6_greatestDirt_4 S hR hk_r0  ih hG hl hf
set_option maxHeartbeats 4000000 in
set_option maxRecDepth 100000 in
theorem w_6_greatestDirt_0 {r0 : Nat} {Q : Int32 → St → Prop} {σ : St} {H : Heap} {locs : List Loc} {ls : Array Slot} (S : SC A D ac st p m c prog_8_method_7_code 3 s args "SweeperRounds$Street" R cells slots 1 21) (hR : RtI A D ac ad p l e R s m args below meth c prog_8_method_7_code cells slots QW Q) (hk_r0 : kd r0 = 6) (hG : DG A D ac ad s σ H locs) (hl : lv_has ls 3 [(0, .ref (ad r0))]) (hf : m_6_greatestDirt r0 Q σ) : W p l e R s m args below meth c H locs cells slots QW (F0 m 0 ls []) := by
  have hx := S.1.1
  have hb := S.1.2.1
  unfold m_6_greatestDirt at hf
  refine lv_iconst (v := (0 : Int32)) hx hb d_6_greatestDirt_0 (by decide) ?_
  refine lv_istore_n (lv' := [(1, .int (0 : Int32)), (0, .ref (ad r0))]) hx hb d_6_greatestDirt_1 rfl hl (by decide) rfl (fun ls hl => ?_)
  refine lv_iconst (v := (0 : Int32)) hx hb d_6_greatestDirt_2 (by decide) ?_
  refine lv_istore_n (lv' := [(2, .int (0 : Int32)), (1, .int (0 : Int32)), (0, .ref (ad r0))]) hx hb d_6_greatestDirt_3 rfl hl (by decide) rfl (fun ls hl => ?_)
  exact lp_6_greatestDirt_4 S hR hk_r0  FU _ _ _ _ _ _  hG (lv_sub hl [2, 1, 0] rfl) hf
theorem c_6_greatestDirt (l : Launch) {D : va_G} {ac : Nat → ClassId} {ad st : Nat → Nat} {A : Nat → Prop} {σ : St} {r0 : Nat} {Q : Int32 → St → Prop} (hk_r0 : kd r0 = 6) (hf : m_6_greatestDirt r0 Q σ) : Met l y_6_greatestDirt (Cond.code y_6_greatestDirt prog_8_method_7_code 3 (some .int) :: wA) { frames := 1, cells := 0, slots := 0, locals := 21 } (va_Pc [.ref (ad r0)] (GSt A D ac ad st σ)) (va_Qi Q (GSt A D ac ad st) A) 0 0 A :=
  mkI l (by decide +kernel) rfl [.ref (ad r0)] (Nat.le_of_ble_eq_true rfl) (fun p e s m args below meth c ls QW S hR hG hl => w_6_greatestDirt_0 S hR hk_r0 hG hl hf)
set_option maxHeartbeats 4000000 in
set_option maxRecDepth 100000 in
theorem w_8_legsIn_4 {r0 : Nat} {x1 : Int32} {Q : Int32 → St → Prop} {B4 : Int32 → Int32 → St → Prop} {x2 : Int32} {x3 : Int32} {σ : St} {H : Heap} {locs : List Loc} {ls : Array Slot} (S : SC A D ac st p m c prog_10_method_7_code 4 s args "SweeperRounds$World" R cells slots 0 0) (hR : RtI A D ac ad p l e R s m args below meth c prog_10_method_7_code cells slots QW Q) (hk_r0 : kd r0 = 8) (hB4 : ∀ (x2 : Int32) (x3 : Int32) (σ : St) (H : Heap) (locs : List Loc) (ls : Array Slot), DG A D ac ad s σ H locs → lv_has ls 4 [(0, .ref (ad r0)), (1, .int x1), (2, .int x2), (3, .int x3)] → B4 x2 x3 σ → W p l e R s m args below meth c H locs cells slots QW (F0 m 4 ls [])) (hG : DG A D ac ad s σ H locs) (hl : lv_has ls 4 [(0, .ref (ad r0)), (1, .int x1), (2, .int x2), (3, .int x3)]) (hf : m_8_legsIn_4 r0 x1 Q B4 x2 x3 σ) : W p l e R s m args below meth c H locs cells slots QW (F0 m 4 ls []) := by
  have hx := S.1.1
  have hb := S.1.2.1
  unfold m_8_legsIn_4 at hf
  refine lv_iload_n hx hb d_8_legsIn_4 rfl (lv_at hl 3 rfl) ?_
  refine lv_aload_n hx hb d_8_legsIn_5 rfl (lv_at hl 0 rfl) ?_
  refine gf_8_59 S hG hk_r0 d_8_legsIn_6 ?_
  refine lv_icmp_ge (tgt := 39) hx hb d_8_legsIn_9 (by decide) (fun hc => ?_) (fun hc => ?_)
  · have hf := hf.1 hc
    refine lv_iload_n hx hb d_8_legsIn_39 rfl (lv_at hl 2 rfl) ?_
    exact hR _ _ _ _ _ _ hG hf d_8_legsIn_40
  · have hf := hf.2 hc
    refine lv_iload_n hx hb d_8_legsIn_12 rfl (lv_at hl 2 rfl) ?_
    refine lv_aload_n hx hb d_8_legsIn_13 rfl (lv_at hl 0 rfl) ?_
    refine gf_8_19 S hG hk_r0 d_8_legsIn_14 ?_
    refine lv_iload_n hx hb d_8_legsIn_17 rfl (lv_at hl 3 rfl) ?_
    refine mq4 S hG (kr_8_2 hk_r0) hf.1 d_8_legsIn_18 ?_
    have hi_1 := vin_lt hf.1
    have hf := hf.2
    refine gf_8_92 S hG (ke_24 (kr_8_2 hk_r0) hi_1) d_8_legsIn_19 ?_
    refine lv_iload_n hx hb d_8_legsIn_22 rfl (lv_at hl 1 rfl) ?_
    refine lv_icmp_ne (tgt := 30) hx hb d_8_legsIn_23 (by decide) (fun hc => ?_) (fun hc => ?_)
    · have hf := hf.1 hc
      refine lv_iconst (v := (0 : Int32)) hx hb d_8_legsIn_30 (by decide) ?_
      refine lv_iadd hx hb d_8_legsIn_31 ?_
      refine lv_topi (fun x2_2 ex2_2 => ?_)
      have hf := hf x2_2 ex2_2
      refine lv_istore_n (lv' := [(2, .int x2_2), (0, .ref (ad r0)), (1, .int x1), (3, .int x3)]) hx hb d_8_legsIn_32 rfl hl (by decide) rfl (fun ls hl => ?_)
      obtain ⟨x3_3, ex3_3⟩ : ∃ y : Int32, y = x3 + 1 := ⟨_, rfl⟩
      have hf := hf x3_3 ex3_3
      refine lv_iinc (v := x3_3) (lv' := [(3, .int x3_3), (2, .int x2_2), (0, .ref (ad r0)), (1, .int x1)]) hx hb d_8_legsIn_33 hl (k := 3) rfl (by rw [ex3_3]; rfl) (by decide) rfl (fun ls hl => ?_)
      refine lv_goto (tgt := 4) hx hb d_8_legsIn_36 (by decide) ?_
      exact hB4 _ _ _ _ _ _  hG (lv_sub hl [2, 3, 1, 0] rfl) hf
    · have hf := hf.2 hc
      refine lv_iconst (v := (1 : Int32)) hx hb d_8_legsIn_26 (by decide) ?_
      refine lv_goto (tgt := 31) hx hb d_8_legsIn_27 (by decide) ?_
      refine lv_iadd hx hb d_8_legsIn_31 ?_
      refine lv_topi (fun x2_4 ex2_4 => ?_)
      have hf := hf x2_4 ex2_4
      refine lv_istore_n (lv' := [(2, .int x2_4), (0, .ref (ad r0)), (1, .int x1), (3, .int x3)]) hx hb d_8_legsIn_32 rfl hl (by decide) rfl (fun ls hl => ?_)
      obtain ⟨x3_5, ex3_5⟩ : ∃ y : Int32, y = x3 + 1 := ⟨_, rfl⟩
      have hf := hf x3_5 ex3_5
      refine lv_iinc (v := x3_5) (lv' := [(3, .int x3_5), (2, .int x2_4), (0, .ref (ad r0)), (1, .int x1)]) hx hb d_8_legsIn_33 hl (k := 3) rfl (by rw [ex3_5]; rfl) (by decide) rfl (fun ls hl => ?_)
      refine lv_goto (tgt := 4) hx hb d_8_legsIn_36 (by decide) ?_
      exact hB4 _ _ _ _ _ _  hG (lv_sub hl [2, 3, 1, 0] rfl) hf
set_option maxHeartbeats 4000000 in
set_option maxRecDepth 100000 in
theorem lp_8_legsIn_4 {r0 : Nat} {x1 : Int32} {Q : Int32 → St → Prop} (S : SC A D ac st p m c prog_10_method_7_code 4 s args "SweeperRounds$World" R cells slots 0 0) (hR : RtI A D ac ad p l e R s m args below meth c prog_10_method_7_code cells slots QW Q) (hk_r0 : kd r0 = 8) : ∀ (n : Nat) (x2 : Int32) (x3 : Int32) (σ : St) (H : Heap) (locs : List Loc) (ls : Array Slot), DG A D ac ad s σ H locs → lv_has ls 4 [(0, .ref (ad r0)), (1, .int x1), (2, .int x2), (3, .int x3)] → itN (m_8_legsIn_4 r0 x1 Q) (fun _ _ _ => False) n x2 x3 σ → W p l e R s m args below meth c H locs cells slots QW (F0 m 4 ls []) := by
  intro n
  induction n with
  | zero =>
    intro x2 x3 σ H locs ls  hG hl hf
    exact hf.elim
  | succ n ih =>
    intro x2 x3 σ H locs ls  hG hl hf
    exact w_8_legsIn_4 S hR hk_r0  ih hG hl hf
set_option maxHeartbeats 4000000 in
set_option maxRecDepth 100000 in
theorem w_8_legsIn_0 {r0 : Nat} {x1 : Int32} {Q : Int32 → St → Prop} {σ : St} {H : Heap} {locs : List Loc} {ls : Array Slot} (S : SC A D ac st p m c prog_10_method_7_code 4 s args "SweeperRounds$World" R cells slots 0 0) (hR : RtI A D ac ad p l e R s m args below meth c prog_10_method_7_code cells slots QW Q) (hk_r0 : kd r0 = 8) (hG : DG A D ac ad s σ H locs) (hl : lv_has ls 4 [(0, .ref (ad r0)), (1, .int x1)]) (hf : m_8_legsIn r0 x1 Q σ) : W p l e R s m args below meth c H locs cells slots QW (F0 m 0 ls []) := by
  have hx := S.1.1
  have hb := S.1.2.1
  unfold m_8_legsIn at hf
  refine lv_iconst (v := (0 : Int32)) hx hb d_8_legsIn_0 (by decide) ?_
  refine lv_istore_n (lv' := [(2, .int (0 : Int32)), (0, .ref (ad r0)), (1, .int x1)]) hx hb d_8_legsIn_1 rfl hl (by decide) rfl (fun ls hl => ?_)
  refine lv_iconst (v := (0 : Int32)) hx hb d_8_legsIn_2 (by decide) ?_
  refine lv_istore_n (lv' := [(3, .int (0 : Int32)), (2, .int (0 : Int32)), (0, .ref (ad r0)), (1, .int x1)]) hx hb d_8_legsIn_3 rfl hl (by decide) rfl (fun ls hl => ?_)
  exact lp_8_legsIn_4 S hR hk_r0  FU _ _ _ _ _ _  hG (lv_sub hl [2, 3, 1, 0] rfl) hf
theorem c_8_legsIn (l : Launch) {D : va_G} {ac : Nat → ClassId} {ad st : Nat → Nat} {A : Nat → Prop} {σ : St} {r0 : Nat} {x1 : Int32} {Q : Int32 → St → Prop} (hk_r0 : kd r0 = 8) (hf : m_8_legsIn r0 x1 Q σ) : Met l y_8_legsIn (Cond.code y_8_legsIn prog_10_method_7_code 4 (some .int) :: wA) { frames := 0, cells := 0, slots := 0, locals := 0 } (va_Pc [.ref (ad r0), .int x1] (GSt A D ac ad st σ)) (va_Qi Q (GSt A D ac ad st) A) 0 0 A :=
  mkI l (by decide +kernel) rfl [.ref (ad r0), .int x1] (Nat.le_of_ble_eq_true rfl) (fun p e s m args below meth c ls QW S hR hG hl => w_8_legsIn_0 S hR hk_r0 hG hl hf)
set_option maxHeartbeats 4000000 in
set_option maxRecDepth 100000 in
theorem w_9_street_0 {r0 : Nat} {x1 : Int32} {x2 : Int32} {Q : Int32 → St → Prop} {σ : St} {H : Heap} {locs : List Loc} {ls : Array Slot} (S : SC A D ac st p m c prog_1_method_11_code 4 s args "SweeperRounds" R cells slots 2 44) (hR : RtI A D ac ad p l e R s m args below meth c prog_1_method_11_code cells slots QW Q) (hk_r0 : kd r0 = 9) (hG : DG A D ac ad s σ H locs) (hl : lv_has ls 4 [(0, .ref (ad r0)), (1, .int x1), (2, .int x2)]) (hf : m_9_street r0 x1 x2 Q σ) : W p l e R s m args below meth c H locs cells slots QW (F0 m 0 ls []) := by
  have hx := S.1.1
  have hb := S.1.2.1
  unfold m_9_street at hf
  refine lv_aload_n hx hb d_9_street_0 rfl (lv_at hl 0 rfl) ?_
  refine gf_9_26 S hG hk_r0 d_9_street_1 ?_
  refine lv_iload_n hx hb d_9_street_4 rfl (lv_at hl 1 rfl) ?_
  refine iv_9_100 S hl.1 hG (kr_9_2 hk_r0) (c_8_hasStreet l (kr_9_2 hk_r0) hf) ⟨Nat.le_of_ble_eq_true rfl, Nat.le_of_ble_eq_true rfl⟩ (Nat.le_of_ble_eq_true rfl) d_9_street_5 (fun v_2 σ_1 hf H locs hG => ?_)
  refine lv_if_ne (tgt := 13) hx hb d_9_street_8 (by decide) (fun hc => ?_) (fun hc => ?_)
  · have hf := hf.1 hc
    refine lv_aload_n hx hb d_9_street_13 rfl (lv_at hl 0 rfl) ?_
    refine gf_9_26 S hG hk_r0 d_9_street_14 ?_
    refine gf_9_122 S hG (kr_9_2 hk_r0) d_9_street_17 ?_
    refine lv_iload_n hx hb d_9_street_20 rfl (lv_at hl 1 rfl) ?_
    refine mq3 S hG (kr_8_0 (kr_9_2 hk_r0)) hf.1 d_9_street_21 ?_
    have hi_3 := vin_lt hf.1
    have hf := hf.2
    refine lv_topr (fun r3_4 er3_4 => ?_)
    have hf := hf r3_4 er3_4
    have hk_r3_4 : kd r3_4 = 6 := er3_4 ▸ (ke_23 (kr_8_0 (kr_9_2 hk_r0)) hi_3)
    refine lv_astore_n (lv' := [(3, .ref (ad r3_4)), (0, .ref (ad r0)), (1, .int x1), (2, .int x2)]) hx hb d_9_street_22 rfl hl (by decide) rfl (fun ls hl => ?_)
    refine lv_iload_n hx hb d_9_street_23 rfl (lv_at hl 3 rfl) ?_
    refine lv_topi (fun q_5 eq_5 => ?_)
    rcases sw_0_7 q_5 with hq_5 | hq_5 | hq_5 | hq_5 | hq_5 | hq_5 | hq_5 | hq_5 | hq_5
    · rw [eq_5] at hq_5 ⊢
      refine lv_tableOut (tgt := 118) hx hb d_9_street_24 hq_5 (by decide) ?_
      have hf := hf.1 hq_5
      refine lv_iconst (v := (-1 : Int32)) hx hb d_9_street_118 (by decide) ?_
      exact hR _ _ _ _ _ _ hG hf d_9_street_119
    · subst hq_5
      refine lv_tableIn (off := 48) (tgt := 72) hx hb d_9_street_24 (by decide) (by decide) (by decide) (by decide) ?_
      have hf := hf.2.1 eq_5.symm
      refine lv_aload_n hx hb d_9_street_72 rfl (lv_at hl 0 rfl) ?_
      refine gf_9_91 S hG hk_r3_4 d_9_street_73 ?_
      exact hR _ _ _ _ _ _ hG hf d_9_street_76
    · subst hq_5
      refine lv_tableIn (off := 53) (tgt := 77) hx hb d_9_street_24 (by decide) (by decide) (by decide) (by decide) ?_
      have hf := hf.2.2.1 eq_5.symm
      refine lv_aload_n hx hb d_9_street_77 rfl (lv_at hl 0 rfl) ?_
      refine gf_9_149 S hG hk_r3_4 d_9_street_78 ?_
      exact hR _ _ _ _ _ _ hG hf d_9_street_81
    · subst hq_5
      refine lv_tableIn (off := 58) (tgt := 82) hx hb d_9_street_24 (by decide) (by decide) (by decide) (by decide) ?_
      have hf := hf.2.2.2.1 eq_5.symm
      refine lv_aload_n hx hb d_9_street_82 rfl (lv_at hl 0 rfl) ?_
      refine gf_9_152 S hG hk_r3_4 d_9_street_83 ?_
      exact hR _ _ _ _ _ _ hG hf d_9_street_86
    · subst hq_5
      refine lv_tableIn (off := 63) (tgt := 87) hx hb d_9_street_24 (by decide) (by decide) (by decide) (by decide) ?_
      have hf := hf.2.2.2.2.1 eq_5.symm
      refine lv_aload_n hx hb d_9_street_87 rfl (lv_at hl 0 rfl) ?_
      refine lv_iconst (v := (0 : Int32)) hx hb d_9_street_88 (by decide) ?_
      refine iv_9_155 S hl.1 hG hk_r3_4 (c_6_dirtOfSide l hk_r3_4 hf) ⟨Nat.le_of_ble_eq_true rfl, Nat.le_of_ble_eq_true rfl⟩ (Nat.le_of_ble_eq_true rfl) d_9_street_89 (fun v_7 σ_6 hf H locs hG => ?_)
      exact hR _ _ _ _ _ _ hG hf d_9_street_92
    · subst hq_5
      refine lv_tableIn (off := 69) (tgt := 93) hx hb d_9_street_24 (by decide) (by decide) (by decide) (by decide) ?_
      have hf := hf.2.2.2.2.2.1 eq_5.symm
      refine lv_aload_n hx hb d_9_street_93 rfl (lv_at hl 0 rfl) ?_
      refine lv_iconst (v := (1 : Int32)) hx hb d_9_street_94 (by decide) ?_
      refine iv_9_155 S hl.1 hG hk_r3_4 (c_6_dirtOfSide l hk_r3_4 hf) ⟨Nat.le_of_ble_eq_true rfl, Nat.le_of_ble_eq_true rfl⟩ (Nat.le_of_ble_eq_true rfl) d_9_street_95 (fun v_9 σ_8 hf H locs hG => ?_)
      exact hR _ _ _ _ _ _ hG hf d_9_street_98
    · subst hq_5
      refine lv_tableIn (off := 75) (tgt := 99) hx hb d_9_street_24 (by decide) (by decide) (by decide) (by decide) ?_
      have hf := hf.2.2.2.2.2.2.1 eq_5.symm
      refine lv_aload_n hx hb d_9_street_99 rfl (lv_at hl 0 rfl) ?_
      refine iv_9_159 S hl.1 hG hk_r3_4 (c_6_parkedCells l hk_r3_4 hf) ⟨Nat.le_of_ble_eq_true rfl, Nat.le_of_ble_eq_true rfl⟩ (Nat.le_of_ble_eq_true rfl) d_9_street_100 (fun v_11 σ_10 hf H locs hG => ?_)
      exact hR _ _ _ _ _ _ hG hf d_9_street_103
    · subst hq_5
      refine lv_tableIn (off := 80) (tgt := 104) hx hb d_9_street_24 (by decide) (by decide) (by decide) (by decide) ?_
      have hf := hf.2.2.2.2.2.2.2.1 eq_5.symm
      refine lv_aload_n hx hb d_9_street_104 rfl (lv_at hl 0 rfl) ?_
      refine iv_9_162 S hl.1 hG hk_r3_4 (c_6_greatestDirt l hk_r3_4 hf) ⟨Nat.le_of_ble_eq_true rfl, Nat.le_of_ble_eq_true rfl⟩ (Nat.le_of_ble_eq_true rfl) d_9_street_105 (fun v_13 σ_12 hf H locs hG => ?_)
      exact hR _ _ _ _ _ _ hG hf d_9_street_108
    · subst hq_5
      refine lv_tableIn (off := 85) (tgt := 109) hx hb d_9_street_24 (by decide) (by decide) (by decide) (by decide) ?_
      have hf := hf.2.2.2.2.2.2.2.2 eq_5.symm
      refine lv_aload_n hx hb d_9_street_109 rfl (lv_at hl 1 rfl) ?_
      refine gf_9_26 S hG hk_r0 d_9_street_110 ?_
      refine lv_iload_n hx hb d_9_street_113 rfl (lv_at hl 2 rfl) ?_
      refine iv_9_165 S hl.1 hG (kr_9_2 hk_r0) (c_8_legsIn l (kr_9_2 hk_r0) hf) ⟨Nat.le_of_ble_eq_true rfl, Nat.le_of_ble_eq_true rfl⟩ (Nat.le_of_ble_eq_true rfl) d_9_street_114 (fun v_15 σ_14 hf H locs hG => ?_)
      exact hR _ _ _ _ _ _ hG hf d_9_street_117
  · have hf := hf.2 hc
    refine lv_iconst (v := (-1 : Int32)) hx hb d_9_street_11 (by decide) ?_
    exact hR _ _ _ _ _ _ hG hf d_9_street_12
theorem c_9_street (l : Launch) {D : va_G} {ac : Nat → ClassId} {ad st : Nat → Nat} {A : Nat → Prop} {σ : St} {r0 : Nat} {x1 : Int32} {x2 : Int32} {Q : Int32 → St → Prop} (hk_r0 : kd r0 = 9) (hf : m_9_street r0 x1 x2 Q σ) : Met l y_9_street (Cond.code y_9_street prog_1_method_11_code 4 (some .int) :: wA) { frames := 2, cells := 0, slots := 0, locals := 44 } (va_Pc [.ref (ad r0), .int x1, .int x2] (GSt A D ac ad st σ)) (va_Qi Q (GSt A D ac ad st) A) 0 0 A :=
  mkI l (by decide +kernel) rfl [.ref (ad r0), .int x1, .int x2] (Nat.le_of_ble_eq_true rfl) (fun p e s m args below meth c ls QW S hR hG hl => w_9_street_0 S hR hk_r0 hG hl hf)
set_option maxHeartbeats 4000000 in
set_option maxRecDepth 100000 in
theorem w_8_leastSetting_0 {r0 : Nat} {x1 : Int32} {Q : Int32 → St → Prop} {σ : St} {H : Heap} {locs : List Loc} {ls : Array Slot} (S : SC A D ac st p m c prog_10_method_15_code 2 s args "SweeperRounds$World" R cells slots 1 13) (hR : RtI A D ac ad p l e R s m args below meth c prog_10_method_15_code cells slots QW Q) (hk_r0 : kd r0 = 8) (hG : DG A D ac ad s σ H locs) (hl : lv_has ls 2 [(0, .ref (ad r0)), (1, .int x1)]) (hf : m_8_leastSetting r0 x1 Q σ) : W p l e R s m args below meth c H locs cells slots QW (F0 m 0 ls []) := by
  have hx := S.1.1
  have hb := S.1.2.1
  unfold m_8_leastSetting at hf
  refine lv_iload_n hx hb d_8_leastSetting_0 rfl (lv_at hl 1 rfl) ?_
  refine lv_iconst (v := (1 : Int32)) hx hb d_8_leastSetting_1 (by decide) ?_
  refine lv_icmp_ne (tgt := 20) hx hb d_8_leastSetting_2 (by decide) (fun hc => ?_) (fun hc => ?_)
  · have hf := hf.1 hc
    refine mgsN S hG 1 (by decide) (host := "SweeperRounds") (by decide +kernel) d_8_leastSetting_20 ?_
    refine lv_iload_n hx hb d_8_leastSetting_23 rfl (lv_at hl 1 rfl) ?_
    refine mts S hG 1 (by decide) hf.1 d_8_leastSetting_24 ?_
    have hf := hf.2
    exact hR _ _ _ _ _ _ hG hf d_8_leastSetting_25
  · have hf := hf.2 hc
    refine mgsN S hG 1 (by decide) (host := "SweeperRounds") (by decide +kernel) d_8_leastSetting_5 ?_
    refine lv_iload_n hx hb d_8_leastSetting_8 rfl (lv_at hl 1 rfl) ?_
    refine mts S hG 1 (by decide) hf.1 d_8_leastSetting_9 ?_
    have hf := hf.2
    refine lv_aload_n hx hb d_8_leastSetting_10 rfl (lv_at hl 0 rfl) ?_
    refine gf_8_69 S hG hk_r0 d_8_leastSetting_11 ?_
    refine mmx S hl.1 wm_530 wm_531 wm_78 wm_532 (by decide) (Nat.le_of_ble_eq_true rfl) d_8_leastSetting_14 ?_
    refine lv_goto (tgt := 25) hx hb d_8_leastSetting_17 (by decide) ?_
    exact hR _ _ _ _ _ _ hG hf d_8_leastSetting_25
theorem c_8_leastSetting (l : Launch) {D : va_G} {ac : Nat → ClassId} {ad st : Nat → Nat} {A : Nat → Prop} {σ : St} {r0 : Nat} {x1 : Int32} {Q : Int32 → St → Prop} (hk_r0 : kd r0 = 8) (hf : m_8_leastSetting r0 x1 Q σ) : Met l y_8_leastSetting (Cond.code y_8_leastSetting prog_10_method_15_code 2 (some .int) :: wA) { frames := 1, cells := 0, slots := 0, locals := 13 } (va_Pc [.ref (ad r0), .int x1] (GSt A D ac ad st σ)) (va_Qi Q (GSt A D ac ad st) A) 0 0 A :=
  mkI l (by decide +kernel) rfl [.ref (ad r0), .int x1] (Nat.le_of_ble_eq_true rfl) (fun p e s m args below meth c ls QW S hR hG hl => w_8_leastSetting_0 S hR hk_r0 hG hl hf)
set_option maxHeartbeats 4000000 in
set_option maxRecDepth 100000 in
theorem w_9_set_0 {r0 : Nat} {x1 : Int32} {x2 : Int32} {Q : Int32 → St → Prop} {σ : St} {H : Heap} {locs : List Loc} {ls : Array Slot} (S : SC A D ac st p m c prog_1_method_12_code 4 s args "SweeperRounds" R cells slots 3 65) (hR : RtI A D ac ad p l e R s m args below meth c prog_1_method_12_code cells slots QW Q) (hk_r0 : kd r0 = 9) (hG : DG A D ac ad s σ H locs) (hl : lv_has ls 4 [(0, .ref (ad r0)), (1, .int x1), (2, .int x2)]) (hf : m_9_set r0 x1 x2 Q σ) : W p l e R s m args below meth c H locs cells slots QW (F0 m 0 ls []) := by
  have hx := S.1.1
  have hb := S.1.2.1
  unfold m_9_set at hf
  refine lv_iload_n hx hb d_9_set_0 rfl (lv_at hl 1 rfl) ?_
  refine lv_if_lt (tgt := 31) hx hb d_9_set_1 (by decide) (fun hc => ?_) (fun hc => ?_)
  · have hf := hf.1 hc
    refine lv_iconst (v := (-1 : Int32)) hx hb d_9_set_31 (by decide) ?_
    exact hR _ _ _ _ _ _ hG hf d_9_set_32
  · have hf := hf.2 hc
    refine lv_iload_n hx hb d_9_set_4 rfl (lv_at hl 1 rfl) ?_
    refine lv_bipush (v := (6 : Int32)) hx hb d_9_set_5 (by decide) ?_
    refine lv_icmp_ge (tgt := 31) hx hb d_9_set_7 (by decide) (fun hc => ?_) (fun hc => ?_)
    · have hf := hf.1 hc
      refine lv_iconst (v := (-1 : Int32)) hx hb d_9_set_31 (by decide) ?_
      exact hR _ _ _ _ _ _ hG hf d_9_set_32
    · have hf := hf.2 hc
      refine lv_iload_n hx hb d_9_set_10 rfl (lv_at hl 2 rfl) ?_
      refine lv_aload_n hx hb d_9_set_11 rfl (lv_at hl 0 rfl) ?_
      refine gf_9_26 S hG hk_r0 d_9_set_12 ?_
      refine lv_iload_n hx hb d_9_set_15 rfl (lv_at hl 1 rfl) ?_
      refine iv_9_168 S hl.1 hG (kr_9_2 hk_r0) (c_8_leastSetting l (kr_9_2 hk_r0) hf) ⟨Nat.le_of_ble_eq_true rfl, Nat.le_of_ble_eq_true rfl⟩ (Nat.le_of_ble_eq_true rfl) d_9_set_16 (fun v_2 σ_1 hf H locs hG => ?_)
      refine lv_icmp_lt (tgt := 31) hx hb d_9_set_19 (by decide) (fun hc => ?_) (fun hc => ?_)
      · have hf := hf.1 hc
        refine lv_iconst (v := (-1 : Int32)) hx hb d_9_set_31 (by decide) ?_
        exact hR _ _ _ _ _ _ hG hf d_9_set_32
      · have hf := hf.2 hc
        refine lv_iload_n hx hb d_9_set_22 rfl (lv_at hl 2 rfl) ?_
        refine mgs S hG 2 (by decide) wm_582 d_9_set_23 ?_
        refine lv_iload_n hx hb d_9_set_26 rfl (lv_at hl 1 rfl) ?_
        refine mts S hG 2 (by decide) hf.1 d_9_set_27 ?_
        have hf := hf.2
        refine lv_icmp_le (tgt := 33) hx hb d_9_set_28 (by decide) (fun hc => ?_) (fun hc => ?_)
        · have hf := hf.1 hc
          refine lv_aload_n hx hb d_9_set_33 rfl (lv_at hl 0 rfl) ?_
          refine gf_9_42 S hG hk_r0 d_9_set_34 ?_
          refine lv_aload_n hx hb d_9_set_37 rfl (lv_at hl 0 rfl) ?_
          refine gf_9_26 S hG hk_r0 d_9_set_38 ?_
          refine iv_9_80 S hl.1 hG (kr_9_4 hk_r0) (c_0_remember l (kr_9_4 hk_r0) (kr_9_2 hk_r0) hf) ⟨Nat.le_of_ble_eq_true rfl, Nat.le_of_ble_eq_true rfl⟩ (Nat.le_of_ble_eq_true rfl) d_9_set_41 (fun σ_3 hf H locs hG => ?_)
          refine lv_aload_n hx hb d_9_set_44 rfl (lv_at hl 0 rfl) ?_
          refine gf_9_26 S hG hk_r0 d_9_set_45 ?_
          refine gf_9_174 S hG (kr_9_2 hk_r0) d_9_set_48 ?_
          refine lv_iload_n hx hb d_9_set_51 rfl (lv_at hl 1 rfl) ?_
          refine mia S hG 26 rfl rfl (kr_8_5 (kr_9_2 hk_r0)) hf.1 d_9_set_52 ?_
          have hf := hf.2
          refine lv_topi (fun x3_5 ex3_5 => ?_)
          have hf := hf x3_5 ex3_5
          refine lv_istore_n (lv' := [(3, .int x3_5), (0, .ref (ad r0)), (1, .int x1), (2, .int x2)]) hx hb d_9_set_53 rfl hl (by decide) rfl (fun ls hl => ?_)
          refine lv_aload_n hx hb d_9_set_54 rfl (lv_at hl 1 rfl) ?_
          refine gf_9_26 S hG hk_r0 d_9_set_55 ?_
          refine gf_9_174 S hG (kr_9_2 hk_r0) d_9_set_58 ?_
          refine lv_iload_n hx hb d_9_set_61 rfl (lv_at hl 2 rfl) ?_
          refine lv_iload_n hx hb d_9_set_62 rfl (lv_at hl 3 rfl) ?_
          refine mis S hG 26 rfl rfl (kr_8_5 (kr_9_2 hk_r0)) hf.1 d_9_set_63 (fun σ_6 eσ_6 H locs hG => ?_)
          have hf := hf.2 σ_6 eσ_6
          refine lv_iload_n hx hb d_9_set_64 rfl (lv_at hl 0 rfl) ?_
          exact hR _ _ _ _ _ _ hG hf d_9_set_65
        · have hf := hf.2 hc
          refine lv_iconst (v := (-1 : Int32)) hx hb d_9_set_31 (by decide) ?_
          exact hR _ _ _ _ _ _ hG hf d_9_set_32
theorem c_9_set (l : Launch) {D : va_G} {ac : Nat → ClassId} {ad st : Nat → Nat} {A : Nat → Prop} {σ : St} {r0 : Nat} {x1 : Int32} {x2 : Int32} {Q : Int32 → St → Prop} (hk_r0 : kd r0 = 9) (hf : m_9_set r0 x1 x2 Q σ) : Met l y_9_set (Cond.code y_9_set prog_1_method_12_code 4 (some .int) :: wA) { frames := 3, cells := 0, slots := 0, locals := 65 } (va_Pc [.ref (ad r0), .int x1, .int x2] (GSt A D ac ad st σ)) (va_Qi Q (GSt A D ac ad st) A) 0 0 A :=
  mkI l (by decide +kernel) rfl [.ref (ad r0), .int x1, .int x2] (Nat.le_of_ble_eq_true rfl) (fun p e s m args below meth c ls QW S hR hG hl => w_9_set_0 S hR hk_r0 hG hl hf)
set_option maxHeartbeats 4000000 in
set_option maxRecDepth 100000 in
theorem w_8_appendLeg_0 {r0 : Nat} {x1 : Int32} {x2 : Int32} {Q : Int32 → St → Prop} {σ : St} {H : Heap} {locs : List Loc} {ls : Array Slot} (S : SC A D ac st p m c prog_10_method_12_code 4 s args "SweeperRounds$World" R cells slots 0 0) (hR : RtI A D ac ad p l e R s m args below meth c prog_10_method_12_code cells slots QW Q) (hk_r0 : kd r0 = 8) (hG : DG A D ac ad s σ H locs) (hl : lv_has ls 4 [(0, .ref (ad r0)), (1, .int x1), (2, .int x2)]) (hf : m_8_appendLeg r0 x1 x2 Q σ) : W p l e R s m args below meth c H locs cells slots QW (F0 m 0 ls []) := by
  have hx := S.1.1
  have hb := S.1.2.1
  unfold m_8_appendLeg at hf
  refine lv_aload_n hx hb d_8_appendLeg_0 rfl (lv_at hl 0 rfl) ?_
  refine gf_8_19 S hG hk_r0 d_8_appendLeg_1 ?_
  refine lv_aload_n hx hb d_8_appendLeg_4 rfl (lv_at hl 0 rfl) ?_
  refine gf_8_59 S hG hk_r0 d_8_appendLeg_5 ?_
  refine mq4 S hG (kr_8_2 hk_r0) hf.1 d_8_appendLeg_8 ?_
  have hi_1 := vin_lt hf.1
  have hf := hf.2
  refine lv_topr (fun r3_2 er3_2 => ?_)
  have hf := hf r3_2 er3_2
  have hk_r3_2 : kd r3_2 = 1 := er3_2 ▸ (ke_24 (kr_8_2 hk_r0) hi_1)
  refine lv_astore_n (lv' := [(3, .ref (ad r3_2)), (0, .ref (ad r0)), (1, .int x1), (2, .int x2)]) hx hb d_8_appendLeg_9 rfl hl (by decide) rfl (fun ls hl => ?_)
  refine lv_aload_n hx hb d_8_appendLeg_10 rfl (lv_at hl 0 rfl) ?_
  refine lv_iload_n hx hb d_8_appendLeg_11 rfl (lv_at hl 2 rfl) ?_
  refine pf_8_92 S hG hk_r3_2 d_8_appendLeg_12 (fun σ_3 eσ_3 H locs hG => ?_)
  have hf := hf σ_3 eσ_3
  refine lv_aload_n hx hb d_8_appendLeg_15 rfl (lv_at hl 0 rfl) ?_
  refine lv_iload_n hx hb d_8_appendLeg_16 rfl (lv_at hl 3 rfl) ?_
  refine pf_8_108 S hG hk_r3_2 d_8_appendLeg_17 (fun σ_4 eσ_4 H locs hG => ?_)
  have hf := hf σ_4 eσ_4
  refine lv_aload_n hx hb d_8_appendLeg_20 rfl (lv_at hl 1 rfl) ?_
  refine lv_dup hx hb d_8_appendLeg_21 rfl ?_
  refine gf_8_59 S hG hk_r0 d_8_appendLeg_22 ?_
  refine lv_iconst (v := (1 : Int32)) hx hb d_8_appendLeg_25 (by decide) ?_
  refine lv_iadd hx hb d_8_appendLeg_26 ?_
  refine pf_8_59 S hG hk_r0 d_8_appendLeg_27 (fun σ_5 eσ_5 H locs hG => ?_)
  have hf := hf σ_5 eσ_5
  refine lv_aload_n hx hb d_8_appendLeg_30 rfl (lv_at hl 1 rfl) ?_
  refine lv_iconst (v := (0 : Int32)) hx hb d_8_appendLeg_31 (by decide) ?_
  refine pf_8_65 S hG hk_r0 (by unfold isB; decide) d_8_appendLeg_32 (fun σ_6 eσ_6 H locs hG => ?_)
  have hf := hf σ_6 eσ_6
  refine lv_aload_n hx hb d_8_appendLeg_35 rfl (lv_at hl 1 rfl) ?_
  refine gf_8_59 S hG hk_r0 d_8_appendLeg_36 ?_
  refine lv_iconst (v := (1 : Int32)) hx hb d_8_appendLeg_39 (by decide) ?_
  refine lv_isub hx hb d_8_appendLeg_40 ?_
  exact hR _ _ _ _ _ _ hG hf d_8_appendLeg_41
theorem c_8_appendLeg (l : Launch) {D : va_G} {ac : Nat → ClassId} {ad st : Nat → Nat} {A : Nat → Prop} {σ : St} {r0 : Nat} {x1 : Int32} {x2 : Int32} {Q : Int32 → St → Prop} (hk_r0 : kd r0 = 8) (hf : m_8_appendLeg r0 x1 x2 Q σ) : Met l y_8_appendLeg (Cond.code y_8_appendLeg prog_10_method_12_code 4 (some .int) :: wA) { frames := 0, cells := 0, slots := 0, locals := 0 } (va_Pc [.ref (ad r0), .int x1, .int x2] (GSt A D ac ad st σ)) (va_Qi Q (GSt A D ac ad st) A) 0 0 A :=
  mkI l (by decide +kernel) rfl [.ref (ad r0), .int x1, .int x2] (Nat.le_of_ble_eq_true rfl) (fun p e s m args below meth c ls QW S hR hG hl => w_8_appendLeg_0 S hR hk_r0 hG hl hf)
set_option maxHeartbeats 4000000 in
set_option maxRecDepth 100000 in
theorem w_9_addLeg_0 {r0 : Nat} {x1 : Int32} {x2 : Int32} {Q : Int32 → St → Prop} {σ : St} {H : Heap} {locs : List Loc} {ls : Array Slot} (S : SC A D ac st p m c prog_1_method_13_code 3 s args "SweeperRounds" R cells slots 3 65) (hR : RtI A D ac ad p l e R s m args below meth c prog_1_method_13_code cells slots QW Q) (hk_r0 : kd r0 = 9) (hG : DG A D ac ad s σ H locs) (hl : lv_has ls 3 [(0, .ref (ad r0)), (1, .int x1), (2, .int x2)]) (hf : m_9_addLeg r0 x1 x2 Q σ) : W p l e R s m args below meth c H locs cells slots QW (F0 m 0 ls []) := by
  have hx := S.1.1
  have hb := S.1.2.1
  unfold m_9_addLeg at hf
  refine lv_aload_n hx hb d_9_addLeg_0 rfl (lv_at hl 0 rfl) ?_
  refine gf_9_26 S hG hk_r0 d_9_addLeg_1 ?_
  refine lv_iload_n hx hb d_9_addLeg_4 rfl (lv_at hl 1 rfl) ?_
  refine iv_9_100 S hl.1 hG (kr_9_2 hk_r0) (c_8_hasStreet l (kr_9_2 hk_r0) hf) ⟨Nat.le_of_ble_eq_true rfl, Nat.le_of_ble_eq_true rfl⟩ (Nat.le_of_ble_eq_true rfl) d_9_addLeg_5 (fun v_2 σ_1 hf H locs hG => ?_)
  refine lv_if_eq (tgt := 20) hx hb d_9_addLeg_8 (by decide) (fun hc => ?_) (fun hc => ?_)
  · have hf := hf.1 hc
    refine lv_iconst (v := (-1 : Int32)) hx hb d_9_addLeg_20 (by decide) ?_
    exact hR _ _ _ _ _ _ hG hf d_9_addLeg_21
  · have hf := hf.2 hc
    refine lv_iload_n hx hb d_9_addLeg_11 rfl (lv_at hl 2 rfl) ?_
    refine lv_if_lt (tgt := 20) hx hb d_9_addLeg_12 (by decide) (fun hc => ?_) (fun hc => ?_)
    · have hf := hf.1 hc
      refine lv_iconst (v := (-1 : Int32)) hx hb d_9_addLeg_20 (by decide) ?_
      exact hR _ _ _ _ _ _ hG hf d_9_addLeg_21
    · have hf := hf.2 hc
      refine lv_iload_n hx hb d_9_addLeg_15 rfl (lv_at hl 2 rfl) ?_
      refine lv_iconst (v := (2 : Int32)) hx hb d_9_addLeg_16 (by decide) ?_
      refine lv_icmp_lt (tgt := 22) hx hb d_9_addLeg_17 (by decide) (fun hc => ?_) (fun hc => ?_)
      · have hf := hf.1 hc
        refine lv_aload_n hx hb d_9_addLeg_22 rfl (lv_at hl 0 rfl) ?_
        refine gf_9_26 S hG hk_r0 d_9_addLeg_23 ?_
        refine gf_9_108 S hG (kr_9_2 hk_r0) d_9_addLeg_26 ?_
        refine lv_bipush (v := (10 : Int32)) hx hb d_9_addLeg_29 (by decide) ?_
        refine lv_icmp_lt (tgt := 37) hx hb d_9_addLeg_31 (by decide) (fun hc => ?_) (fun hc => ?_)
        · have hf := hf.1 hc
          refine lv_aload_n hx hb d_9_addLeg_37 rfl (lv_at hl 0 rfl) ?_
          refine gf_9_42 S hG hk_r0 d_9_addLeg_38 ?_
          refine lv_aload_n hx hb d_9_addLeg_41 rfl (lv_at hl 0 rfl) ?_
          refine gf_9_26 S hG hk_r0 d_9_addLeg_42 ?_
          refine iv_9_80 S hl.1 hG (kr_9_4 hk_r0) (c_0_remember l (kr_9_4 hk_r0) (kr_9_2 hk_r0) hf) ⟨Nat.le_of_ble_eq_true rfl, Nat.le_of_ble_eq_true rfl⟩ (Nat.le_of_ble_eq_true rfl) d_9_addLeg_45 (fun σ_3 hf H locs hG => ?_)
          refine lv_aload_n hx hb d_9_addLeg_48 rfl (lv_at hl 0 rfl) ?_
          refine gf_9_26 S hG hk_r0 d_9_addLeg_49 ?_
          refine lv_iload_n hx hb d_9_addLeg_52 rfl (lv_at hl 1 rfl) ?_
          refine lv_iload_n hx hb d_9_addLeg_53 rfl (lv_at hl 2 rfl) ?_
          refine iv_9_177 S hl.1 hG (kr_9_2 hk_r0) (c_8_appendLeg l (kr_9_2 hk_r0) hf) ⟨Nat.le_of_ble_eq_true rfl, Nat.le_of_ble_eq_true rfl⟩ (Nat.le_of_ble_eq_true rfl) d_9_addLeg_54 (fun v_6 σ_5 hf H locs hG => ?_)
          exact hR _ _ _ _ _ _ hG hf d_9_addLeg_57
        · have hf := hf.2 hc
          refine lv_bipush (v := (-3 : Int32)) hx hb d_9_addLeg_34 (by decide) ?_
          exact hR _ _ _ _ _ _ hG hf d_9_addLeg_36
      · have hf := hf.2 hc
        refine lv_iconst (v := (-1 : Int32)) hx hb d_9_addLeg_20 (by decide) ?_
        exact hR _ _ _ _ _ _ hG hf d_9_addLeg_21
theorem c_9_addLeg (l : Launch) {D : va_G} {ac : Nat → ClassId} {ad st : Nat → Nat} {A : Nat → Prop} {σ : St} {r0 : Nat} {x1 : Int32} {x2 : Int32} {Q : Int32 → St → Prop} (hk_r0 : kd r0 = 9) (hf : m_9_addLeg r0 x1 x2 Q σ) : Met l y_9_addLeg (Cond.code y_9_addLeg prog_1_method_13_code 3 (some .int) :: wA) { frames := 3, cells := 0, slots := 0, locals := 65 } (va_Pc [.ref (ad r0), .int x1, .int x2] (GSt A D ac ad st σ)) (va_Qi Q (GSt A D ac ad st) A) 0 0 A :=
  mkI l (by decide +kernel) rfl [.ref (ad r0), .int x1, .int x2] (Nat.le_of_ble_eq_true rfl) (fun p e s m args below meth c ls QW S hR hG hl => w_9_addLeg_0 S hR hk_r0 hG hl hf)
end MB
