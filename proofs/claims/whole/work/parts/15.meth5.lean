theorem d_10_type_0 : decode prog_12_method_22_code 0 = .ok (.iload_n 1, 1) := by decide +kernel
theorem d_10_type_1 : decode prog_12_method_22_code 1 = .ok (.bipush 32, 2) := by decide +kernel
theorem d_10_type_3 : decode prog_12_method_22_code 3 = .ok (.bipush 126, 2) := by decide +kernel
theorem d_10_type_5 : decode prog_12_method_22_code 5 = .ok (.invokestatic 40, 3) := by decide +kernel
theorem d_10_type_8 : decode prog_12_method_22_code 8 = .ok (.ifCond .ne 5, 3) := by decide +kernel
theorem d_10_type_11 : decode prog_12_method_22_code 11 = .ok (.iconst (-1), 1) := by decide +kernel
theorem d_10_type_12 : decode prog_12_method_22_code 12 = .ok (.ireturn, 1) := by decide +kernel
theorem d_10_type_13 : decode prog_12_method_22_code 13 = .ok (.aload_n 0, 1) := by decide +kernel
theorem d_10_type_14 : decode prog_12_method_22_code 14 = .ok (.getfield 75, 3) := by decide +kernel
theorem d_10_type_17 : decode prog_12_method_22_code 17 = .ok (.bipush 80, 2) := by decide +kernel
theorem d_10_type_19 : decode prog_12_method_22_code 19 = .ok (.if_icmp .ne 6, 3) := by decide +kernel
theorem d_10_type_22 : decode prog_12_method_22_code 22 = .ok (.bipush (-3), 2) := by decide +kernel
theorem d_10_type_24 : decode prog_12_method_22_code 24 = .ok (.ireturn, 1) := by decide +kernel
theorem d_10_type_25 : decode prog_12_method_22_code 25 = .ok (.aload_n 0, 1) := by decide +kernel
theorem d_10_type_26 : decode prog_12_method_22_code 26 = .ok (.getfield 13, 3) := by decide +kernel
theorem d_10_type_29 : decode prog_12_method_22_code 29 = .ok (.aload_n 0, 1) := by decide +kernel
theorem d_10_type_30 : decode prog_12_method_22_code 30 = .ok (.getfield 75, 3) := by decide +kernel
theorem d_10_type_33 : decode prog_12_method_22_code 33 = .ok (.iload_n 1, 1) := by decide +kernel
theorem d_10_type_34 : decode prog_12_method_22_code 34 = .ok (.iastore, 1) := by decide +kernel
theorem d_10_type_35 : decode prog_12_method_22_code 35 = .ok (.aload_n 0, 1) := by decide +kernel
theorem d_10_type_36 : decode prog_12_method_22_code 36 = .ok (.dup, 1) := by decide +kernel
theorem d_10_type_37 : decode prog_12_method_22_code 37 = .ok (.getfield 75, 3) := by decide +kernel
theorem d_10_type_40 : decode prog_12_method_22_code 40 = .ok (.iconst 1, 1) := by decide +kernel
theorem d_10_type_41 : decode prog_12_method_22_code 41 = .ok (.iadd, 1) := by decide +kernel
theorem d_10_type_42 : decode prog_12_method_22_code 42 = .ok (.putfield 75, 3) := by decide +kernel
theorem d_10_type_45 : decode prog_12_method_22_code 45 = .ok (.aload_n 0, 1) := by decide +kernel
theorem d_10_type_46 : decode prog_12_method_22_code 46 = .ok (.getfield 75, 3) := by decide +kernel
theorem d_10_type_49 : decode prog_12_method_22_code 49 = .ok (.ireturn, 1) := by decide +kernel
def m_10_type (r0 : Nat) (x1 : Int32) (Q : Int32 → St → Prop) (σ : St) : Prop :=
  m_10_in x1 (32 : Int32) (126 : Int32) (fun (v_2 : Int32) (σ_1 : St) => ((¬ v_2 = 0 → ((¬ (σ_1.1 r0 3) = (80 : Int32) → vp_in (σ_1.1 r0 3) 80 ∧ ∀ σ_3 : St, σ_3 = wr σ_1 (r0 + 2) ((σ_1.1 r0 3)).toNatClampNeg x1 → ∀ σ_4 : St, σ_4 = wr σ_3 r0 3 ((σ_3.1 r0 3) + (1 : Int32)) → Q (σ_4.1 r0 3) σ_4) ∧ ((σ_1.1 r0 3) = (80 : Int32) → Q (-3 : Int32) σ_1))) ∧ (v_2 = 0 → Q (-1 : Int32) σ_1))) σ
theorem d_10_clearText_0 : decode prog_12_method_23_code 0 = .ok (.aload_n 0, 1) := by decide +kernel
theorem d_10_clearText_1 : decode prog_12_method_23_code 1 = .ok (.getfield 75, 3) := by decide +kernel
theorem d_10_clearText_4 : decode prog_12_method_23_code 4 = .ok (.istore_n 1, 1) := by decide +kernel
theorem d_10_clearText_5 : decode prog_12_method_23_code 5 = .ok (.aload_n 0, 1) := by decide +kernel
theorem d_10_clearText_6 : decode prog_12_method_23_code 6 = .ok (.iconst 0, 1) := by decide +kernel
theorem d_10_clearText_7 : decode prog_12_method_23_code 7 = .ok (.putfield 75, 3) := by decide +kernel
theorem d_10_clearText_10 : decode prog_12_method_23_code 10 = .ok (.iload_n 1, 1) := by decide +kernel
theorem d_10_clearText_11 : decode prog_12_method_23_code 11 = .ok (.ireturn, 1) := by decide +kernel
def m_10_clearText (r0 : Nat) (Q : Int32 → St → Prop) (σ : St) : Prop :=
  ∀ x1_1 : Int32, x1_1 = (σ.1 r0 3) → ∀ σ_2 : St, σ_2 = wr σ r0 3 (0 : Int32) → Q x1_1 σ_2
theorem d_10_here_0 : decode prog_12_method_24_code 0 = .ok (.aload_n 0, 1) := by decide +kernel
theorem d_10_here_1 : decode prog_12_method_24_code 1 = .ok (.getfield 78, 3) := by decide +kernel
theorem d_10_here_4 : decode prog_12_method_24_code 4 = .ok (.aload_n 0, 1) := by decide +kernel
theorem d_10_here_5 : decode prog_12_method_24_code 5 = .ok (.getfield 75, 3) := by decide +kernel
theorem d_10_here_8 : decode prog_12_method_24_code 8 = .ok (.if_icmp .ge 15, 3) := by decide +kernel
theorem d_10_here_11 : decode prog_12_method_24_code 11 = .ok (.aload_n 0, 1) := by decide +kernel
theorem d_10_here_12 : decode prog_12_method_24_code 12 = .ok (.getfield 13, 3) := by decide +kernel
theorem d_10_here_15 : decode prog_12_method_24_code 15 = .ok (.aload_n 0, 1) := by decide +kernel
theorem d_10_here_16 : decode prog_12_method_24_code 16 = .ok (.getfield 78, 3) := by decide +kernel
theorem d_10_here_19 : decode prog_12_method_24_code 19 = .ok (.iaload, 1) := by decide +kernel
theorem d_10_here_20 : decode prog_12_method_24_code 20 = .ok (.goto 5, 3) := by decide +kernel
theorem d_10_here_23 : decode prog_12_method_24_code 23 = .ok (.bipush (-9), 2) := by decide +kernel
theorem d_10_here_25 : decode prog_12_method_24_code 25 = .ok (.ireturn, 1) := by decide +kernel
def m_10_here (r0 : Nat) (Q : Int32 → St → Prop) (σ : St) : Prop :=
  (((σ.1 r0 3) ≤ (σ.1 r0 6) → Q (-9 : Int32) σ) ∧ (¬ (σ.1 r0 3) ≤ (σ.1 r0 6) → vp_in (σ.1 r0 6) 80 ∧ Q (σ.1 (r0 + 2) ((σ.1 r0 6)).toNatClampNeg) σ))
theorem d_10_isDigit_0 : decode prog_12_method_25_code 0 = .ok (.aload_n 0, 1) := by decide +kernel
theorem d_10_isDigit_1 : decode prog_12_method_25_code 1 = .ok (.invokevirtual 81, 3) := by decide +kernel
theorem d_10_isDigit_4 : decode prog_12_method_25_code 4 = .ok (.bipush 48, 2) := by decide +kernel
theorem d_10_isDigit_6 : decode prog_12_method_25_code 6 = .ok (.bipush 57, 2) := by decide +kernel
theorem d_10_isDigit_8 : decode prog_12_method_25_code 8 = .ok (.invokestatic 40, 3) := by decide +kernel
theorem d_10_isDigit_11 : decode prog_12_method_25_code 11 = .ok (.ireturn, 1) := by decide +kernel
def m_10_isDigit (r0 : Nat) (Q : Int32 → St → Prop) (σ : St) : Prop :=
  m_10_here r0 (fun (v_2 : Int32) (σ_1 : St) => m_10_in v_2 (48 : Int32) (57 : Int32) (fun (v_4 : Int32) (σ_3 : St) => (isB v_4 ∧ Q v_4 σ_3)) σ_1) σ
theorem d_10_fails_0 : decode prog_12_method_26_code 0 = .ok (.aload_n 0, 1) := by decide +kernel
theorem d_10_fails_1 : decode prog_12_method_26_code 1 = .ok (.iload_n 1, 1) := by decide +kernel
theorem d_10_fails_2 : decode prog_12_method_26_code 2 = .ok (.putfield 85, 3) := by decide +kernel
theorem d_10_fails_5 : decode prog_12_method_26_code 5 = .ok (.aload_n 0, 1) := by decide +kernel
theorem d_10_fails_6 : decode prog_12_method_26_code 6 = .ok (.iload_n 2, 1) := by decide +kernel
theorem d_10_fails_7 : decode prog_12_method_26_code 7 = .ok (.putfield 88, 3) := by decide +kernel
theorem d_10_fails_10 : decode prog_12_method_26_code 10 = .ok (.iconst 0, 1) := by decide +kernel
theorem d_10_fails_11 : decode prog_12_method_26_code 11 = .ok (.ireturn, 1) := by decide +kernel
def m_10_fails (r0 : Nat) (x1 : Int32) (x2 : Int32) (Q : Int32 → St → Prop) (σ : St) : Prop :=
  ∀ σ_1 : St, σ_1 = wr σ r0 4 x1 → ∀ σ_2 : St, σ_2 = wr σ_1 r0 5 x2 → Q (0 : Int32) σ_2
theorem d_10_takes_0 : decode prog_12_method_27_code 0 = .ok (.aload_n 0, 1) := by decide +kernel
theorem d_10_takes_1 : decode prog_12_method_27_code 1 = .ok (.invokevirtual 81, 3) := by decide +kernel
theorem d_10_takes_4 : decode prog_12_method_27_code 4 = .ok (.iload_n 1, 1) := by decide +kernel
theorem d_10_takes_5 : decode prog_12_method_27_code 5 = .ok (.if_icmp .eq 13, 3) := by decide +kernel
theorem d_10_takes_8 : decode prog_12_method_27_code 8 = .ok (.aload_n 0, 1) := by decide +kernel
theorem d_10_takes_9 : decode prog_12_method_27_code 9 = .ok (.iconst 1, 1) := by decide +kernel
theorem d_10_takes_10 : decode prog_12_method_27_code 10 = .ok (.aload_n 0, 1) := by decide +kernel
theorem d_10_takes_11 : decode prog_12_method_27_code 11 = .ok (.getfield 78, 3) := by decide +kernel
theorem d_10_takes_14 : decode prog_12_method_27_code 14 = .ok (.invokevirtual 91, 3) := by decide +kernel
theorem d_10_takes_17 : decode prog_12_method_27_code 17 = .ok (.ireturn, 1) := by decide +kernel
theorem d_10_takes_18 : decode prog_12_method_27_code 18 = .ok (.aload_n 0, 1) := by decide +kernel
theorem d_10_takes_19 : decode prog_12_method_27_code 19 = .ok (.dup, 1) := by decide +kernel
theorem d_10_takes_20 : decode prog_12_method_27_code 20 = .ok (.getfield 78, 3) := by decide +kernel
theorem d_10_takes_23 : decode prog_12_method_27_code 23 = .ok (.iconst 1, 1) := by decide +kernel
theorem d_10_takes_24 : decode prog_12_method_27_code 24 = .ok (.iadd, 1) := by decide +kernel
theorem d_10_takes_25 : decode prog_12_method_27_code 25 = .ok (.putfield 78, 3) := by decide +kernel
theorem d_10_takes_28 : decode prog_12_method_27_code 28 = .ok (.iconst 1, 1) := by decide +kernel
theorem d_10_takes_29 : decode prog_12_method_27_code 29 = .ok (.ireturn, 1) := by decide +kernel
def m_10_takes (r0 : Nat) (x1 : Int32) (Q : Int32 → St → Prop) (σ : St) : Prop :=
  m_10_here r0 (fun (v_2 : Int32) (σ_1 : St) => ((v_2 = x1 → ∀ σ_3 : St, σ_3 = wr σ_1 r0 6 ((σ_1.1 r0 6) + (1 : Int32)) → Q (1 : Int32) σ_3) ∧ (¬ v_2 = x1 → m_10_fails r0 (1 : Int32) (σ_1.1 r0 6) (fun (v_5 : Int32) (σ_4 : St) => (isB v_5 ∧ Q v_5 σ_4)) σ_1))) σ
theorem d_10_readsDistance_0 : decode prog_12_method_28_code 0 = .ok (.iconst 0, 1) := by decide +kernel
theorem d_10_readsDistance_1 : decode prog_12_method_28_code 1 = .ok (.istore_n 1, 1) := by decide +kernel
theorem d_10_readsDistance_2 : decode prog_12_method_28_code 2 = .ok (.aload_n 0, 1) := by decide +kernel
theorem d_10_readsDistance_3 : decode prog_12_method_28_code 3 = .ok (.invokevirtual 95, 3) := by decide +kernel
theorem d_10_readsDistance_6 : decode prog_12_method_28_code 6 = .ok (.ifCond .eq 37, 3) := by decide +kernel
theorem d_10_readsDistance_9 : decode prog_12_method_28_code 9 = .ok (.aload_n 0, 1) := by decide +kernel
theorem d_10_readsDistance_10 : decode prog_12_method_28_code 10 = .ok (.getfield 78, 3) := by decide +kernel
theorem d_10_readsDistance_13 : decode prog_12_method_28_code 13 = .ok (.iconst 2, 1) := by decide +kernel
theorem d_10_readsDistance_14 : decode prog_12_method_28_code 14 = .ok (.if_icmp .ge 29, 3) := by decide +kernel
theorem d_10_readsDistance_17 : decode prog_12_method_28_code 17 = .ok (.bipush 10, 2) := by decide +kernel
theorem d_10_readsDistance_19 : decode prog_12_method_28_code 19 = .ok (.iload_n 1, 1) := by decide +kernel
theorem d_10_readsDistance_20 : decode prog_12_method_28_code 20 = .ok (.imul, 1) := by decide +kernel
theorem d_10_readsDistance_21 : decode prog_12_method_28_code 21 = .ok (.aload_n 0, 1) := by decide +kernel
theorem d_10_readsDistance_22 : decode prog_12_method_28_code 22 = .ok (.invokevirtual 81, 3) := by decide +kernel
theorem d_10_readsDistance_25 : decode prog_12_method_28_code 25 = .ok (.iadd, 1) := by decide +kernel
theorem d_10_readsDistance_26 : decode prog_12_method_28_code 26 = .ok (.bipush 48, 2) := by decide +kernel
theorem d_10_readsDistance_28 : decode prog_12_method_28_code 28 = .ok (.isub, 1) := by decide +kernel
theorem d_10_readsDistance_29 : decode prog_12_method_28_code 29 = .ok (.istore_n 1, 1) := by decide +kernel
theorem d_10_readsDistance_30 : decode prog_12_method_28_code 30 = .ok (.aload_n 0, 1) := by decide +kernel
theorem d_10_readsDistance_31 : decode prog_12_method_28_code 31 = .ok (.dup, 1) := by decide +kernel
theorem d_10_readsDistance_32 : decode prog_12_method_28_code 32 = .ok (.getfield 78, 3) := by decide +kernel
theorem d_10_readsDistance_35 : decode prog_12_method_28_code 35 = .ok (.iconst 1, 1) := by decide +kernel
theorem d_10_readsDistance_36 : decode prog_12_method_28_code 36 = .ok (.iadd, 1) := by decide +kernel
theorem d_10_readsDistance_37 : decode prog_12_method_28_code 37 = .ok (.putfield 78, 3) := by decide +kernel
theorem d_10_readsDistance_40 : decode prog_12_method_28_code 40 = .ok (.goto (-38), 3) := by decide +kernel
theorem d_10_readsDistance_43 : decode prog_12_method_28_code 43 = .ok (.aload_n 0, 1) := by decide +kernel
theorem d_10_readsDistance_44 : decode prog_12_method_28_code 44 = .ok (.getfield 78, 3) := by decide +kernel
theorem d_10_readsDistance_47 : decode prog_12_method_28_code 47 = .ok (.ifCond .eq 10, 3) := by decide +kernel
theorem d_10_readsDistance_50 : decode prog_12_method_28_code 50 = .ok (.aload_n 0, 1) := by decide +kernel
theorem d_10_readsDistance_51 : decode prog_12_method_28_code 51 = .ok (.invokevirtual 95, 3) := by decide +kernel
theorem d_10_readsDistance_54 : decode prog_12_method_28_code 54 = .ok (.ifCond .eq 13, 3) := by decide +kernel
theorem d_10_readsDistance_57 : decode prog_12_method_28_code 57 = .ok (.aload_n 0, 1) := by decide +kernel
theorem d_10_readsDistance_58 : decode prog_12_method_28_code 58 = .ok (.iconst 1, 1) := by decide +kernel
theorem d_10_readsDistance_59 : decode prog_12_method_28_code 59 = .ok (.aload_n 0, 1) := by decide +kernel
theorem d_10_readsDistance_60 : decode prog_12_method_28_code 60 = .ok (.getfield 78, 3) := by decide +kernel
theorem d_10_readsDistance_63 : decode prog_12_method_28_code 63 = .ok (.invokevirtual 91, 3) := by decide +kernel
theorem d_10_readsDistance_66 : decode prog_12_method_28_code 66 = .ok (.ireturn, 1) := by decide +kernel
theorem d_10_readsDistance_67 : decode prog_12_method_28_code 67 = .ok (.aload_n 0, 1) := by decide +kernel
theorem d_10_readsDistance_68 : decode prog_12_method_28_code 68 = .ok (.getfield 16, 3) := by decide +kernel
theorem d_10_readsDistance_71 : decode prog_12_method_28_code 71 = .ok (.iconst 1, 1) := by decide +kernel
theorem d_10_readsDistance_72 : decode prog_12_method_28_code 72 = .ok (.iload_n 1, 1) := by decide +kernel
theorem d_10_readsDistance_73 : decode prog_12_method_28_code 73 = .ok (.iastore, 1) := by decide +kernel
theorem d_10_readsDistance_74 : decode prog_12_method_28_code 74 = .ok (.iload_n 1, 1) := by decide +kernel
theorem d_10_readsDistance_75 : decode prog_12_method_28_code 75 = .ok (.bipush 60, 2) := by decide +kernel
theorem d_10_readsDistance_77 : decode prog_12_method_28_code 77 = .ok (.if_icmp .gt 12, 3) := by decide +kernel
theorem d_10_readsDistance_80 : decode prog_12_method_28_code 80 = .ok (.aload_n 0, 1) := by decide +kernel
theorem d_10_readsDistance_81 : decode prog_12_method_28_code 81 = .ok (.bipush 47, 2) := by decide +kernel
theorem d_10_readsDistance_83 : decode prog_12_method_28_code 83 = .ok (.invokevirtual 99, 3) := by decide +kernel
theorem d_10_readsDistance_86 : decode prog_12_method_28_code 86 = .ok (.goto 9, 3) := by decide +kernel
theorem d_10_readsDistance_89 : decode prog_12_method_28_code 89 = .ok (.aload_n 0, 1) := by decide +kernel
theorem d_10_readsDistance_90 : decode prog_12_method_28_code 90 = .ok (.iconst 2, 1) := by decide +kernel
theorem d_10_readsDistance_91 : decode prog_12_method_28_code 91 = .ok (.iconst 0, 1) := by decide +kernel
theorem d_10_readsDistance_92 : decode prog_12_method_28_code 92 = .ok (.invokevirtual 91, 3) := by decide +kernel
theorem d_10_readsDistance_95 : decode prog_12_method_28_code 95 = .ok (.ireturn, 1) := by decide +kernel
def m_10_readsDistance_57 (r0 : Nat) (Q : Int32 → St → Prop) (σ : St) : Prop :=
  m_10_fails r0 (1 : Int32) (σ.1 r0 6) (fun (v_2 : Int32) (σ_1 : St) => (isB v_2 ∧ Q v_2 σ_1)) σ
def m_10_readsDistance_43 (r0 : Nat) (x1 : Int32) (Q : Int32 → St → Prop) (σ : St) : Prop :=
  (((σ.1 r0 6) = 0 → m_10_readsDistance_57 r0 Q   σ) ∧ (¬ (σ.1 r0 6) = 0 → m_10_isDigit r0 (fun (v_2 : Int32) (σ_1 : St) => ((v_2 = 0 → vp_in (1 : Int32) 83 ∧ ∀ σ_3 : St, σ_3 = wr σ_1 (r0 + 3) ((1 : Int32)).toNatClampNeg x1 → (((60 : Int32) < x1 → m_10_fails r0 (2 : Int32) (0 : Int32) (fun (v_5 : Int32) (σ_4 : St) => (isB v_5 ∧ Q v_5 σ_4)) σ_3) ∧ (¬ (60 : Int32) < x1 → m_10_takes r0 (47 : Int32) (fun (v_7 : Int32) (σ_6 : St) => (isB v_7 ∧ Q v_7 σ_6)) σ_3))) ∧ (¬ v_2 = 0 → m_10_readsDistance_57 r0 Q   σ_1))) σ))
def m_10_readsDistance_2 (r0 : Nat) (Q : Int32 → St → Prop) (B2 : Int32 → St → Prop) (x1 : Int32) (σ : St) : Prop :=
  m_10_isDigit r0 (fun (v_2 : Int32) (σ_1 : St) => ((v_2 = 0 → m_10_readsDistance_43 r0 x1 Q   σ_1) ∧ (¬ v_2 = 0 → (((2 : Int32) ≤ (σ_1.1 r0 6) → m_10_readsDistance_43 r0 x1 Q   σ_1) ∧ (¬ (2 : Int32) ≤ (σ_1.1 r0 6) → m_10_here r0 (fun (v_4 : Int32) (σ_3 : St) => ∀ x1_5 : Int32, x1_5 = ((((10 : Int32) * x1) + v_4) - (48 : Int32)) → ∀ σ_6 : St, σ_6 = wr σ_3 r0 6 ((σ_3.1 r0 6) + (1 : Int32)) → B2 x1_5 σ_6) σ_1))))) σ
def m_10_readsDistance (r0 : Nat) (Q : Int32 → St → Prop) (σ : St) : Prop :=
  itN (m_10_readsDistance_2 r0 Q) (fun _ _ => False) FU (0 : Int32) σ
theorem d_10_readsTrees_0 : decode prog_12_method_29_code 0 = .ok (.aload_n 0, 1) := by decide +kernel
theorem d_10_readsTrees_1 : decode prog_12_method_29_code 1 = .ok (.invokevirtual 95, 3) := by decide +kernel
theorem d_10_readsTrees_4 : decode prog_12_method_29_code 4 = .ok (.ifCond .ne 13, 3) := by decide +kernel
theorem d_10_readsTrees_7 : decode prog_12_method_29_code 7 = .ok (.aload_n 0, 1) := by decide +kernel
theorem d_10_readsTrees_8 : decode prog_12_method_29_code 8 = .ok (.iconst 1, 1) := by decide +kernel
theorem d_10_readsTrees_9 : decode prog_12_method_29_code 9 = .ok (.aload_n 0, 1) := by decide +kernel
theorem d_10_readsTrees_10 : decode prog_12_method_29_code 10 = .ok (.getfield 78, 3) := by decide +kernel
theorem d_10_readsTrees_13 : decode prog_12_method_29_code 13 = .ok (.invokevirtual 91, 3) := by decide +kernel
theorem d_10_readsTrees_16 : decode prog_12_method_29_code 16 = .ok (.ireturn, 1) := by decide +kernel
theorem d_10_readsTrees_17 : decode prog_12_method_29_code 17 = .ok (.aload_n 0, 1) := by decide +kernel
theorem d_10_readsTrees_18 : decode prog_12_method_29_code 18 = .ok (.getfield 16, 3) := by decide +kernel
theorem d_10_readsTrees_21 : decode prog_12_method_29_code 21 = .ok (.iconst 2, 1) := by decide +kernel
theorem d_10_readsTrees_22 : decode prog_12_method_29_code 22 = .ok (.aload_n 0, 1) := by decide +kernel
theorem d_10_readsTrees_23 : decode prog_12_method_29_code 23 = .ok (.invokevirtual 81, 3) := by decide +kernel
theorem d_10_readsTrees_26 : decode prog_12_method_29_code 26 = .ok (.bipush 48, 2) := by decide +kernel
theorem d_10_readsTrees_28 : decode prog_12_method_29_code 28 = .ok (.isub, 1) := by decide +kernel
theorem d_10_readsTrees_29 : decode prog_12_method_29_code 29 = .ok (.iastore, 1) := by decide +kernel
theorem d_10_readsTrees_30 : decode prog_12_method_29_code 30 = .ok (.aload_n 0, 1) := by decide +kernel
theorem d_10_readsTrees_31 : decode prog_12_method_29_code 31 = .ok (.dup, 1) := by decide +kernel
theorem d_10_readsTrees_32 : decode prog_12_method_29_code 32 = .ok (.getfield 78, 3) := by decide +kernel
theorem d_10_readsTrees_35 : decode prog_12_method_29_code 35 = .ok (.iconst 1, 1) := by decide +kernel
theorem d_10_readsTrees_36 : decode prog_12_method_29_code 36 = .ok (.iadd, 1) := by decide +kernel
theorem d_10_readsTrees_37 : decode prog_12_method_29_code 37 = .ok (.putfield 78, 3) := by decide +kernel
theorem d_10_readsTrees_40 : decode prog_12_method_29_code 40 = .ok (.aload_n 0, 1) := by decide +kernel
theorem d_10_readsTrees_41 : decode prog_12_method_29_code 41 = .ok (.bipush 47, 2) := by decide +kernel
theorem d_10_readsTrees_43 : decode prog_12_method_29_code 43 = .ok (.invokevirtual 99, 3) := by decide +kernel
theorem d_10_readsTrees_46 : decode prog_12_method_29_code 46 = .ok (.ireturn, 1) := by decide +kernel
def m_10_readsTrees (r0 : Nat) (Q : Int32 → St → Prop) (σ : St) : Prop :=
  m_10_isDigit r0 (fun (v_2 : Int32) (σ_1 : St) => ((¬ v_2 = 0 → m_10_here r0 (fun (v_4 : Int32) (σ_3 : St) => vp_in (2 : Int32) 83 ∧ ∀ σ_5 : St, σ_5 = wr σ_3 (r0 + 3) ((2 : Int32)).toNatClampNeg (v_4 - (48 : Int32)) → ∀ σ_6 : St, σ_6 = wr σ_5 r0 6 ((σ_5.1 r0 6) + (1 : Int32)) → m_10_takes r0 (47 : Int32) (fun (v_8 : Int32) (σ_7 : St) => (isB v_8 ∧ Q v_8 σ_7)) σ_6) σ_1) ∧ (v_2 = 0 → m_10_fails r0 (1 : Int32) (σ_1.1 r0 6) (fun (v_10 : Int32) (σ_9 : St) => (isB v_10 ∧ Q v_10 σ_9)) σ_1))) σ
theorem d_10_isCellHere_0 : decode prog_12_method_30_code 0 = .ok (.aload_n 0, 1) := by decide +kernel
theorem d_10_isCellHere_1 : decode prog_12_method_30_code 1 = .ok (.invokevirtual 95, 3) := by decide +kernel
theorem d_10_isCellHere_4 : decode prog_12_method_30_code 4 = .ok (.ifCond .ne 17, 3) := by decide +kernel
theorem d_10_isCellHere_7 : decode prog_12_method_30_code 7 = .ok (.aload_n 0, 1) := by decide +kernel
theorem d_10_isCellHere_8 : decode prog_12_method_30_code 8 = .ok (.invokevirtual 81, 3) := by decide +kernel
theorem d_10_isCellHere_11 : decode prog_12_method_30_code 11 = .ok (.bipush 97, 2) := by decide +kernel
theorem d_10_isCellHere_13 : decode prog_12_method_30_code 13 = .ok (.bipush 106, 2) := by decide +kernel
theorem d_10_isCellHere_15 : decode prog_12_method_30_code 15 = .ok (.invokestatic 40, 3) := by decide +kernel
theorem d_10_isCellHere_18 : decode prog_12_method_30_code 18 = .ok (.ifCond .eq 7, 3) := by decide +kernel
theorem d_10_isCellHere_21 : decode prog_12_method_30_code 21 = .ok (.iconst 1, 1) := by decide +kernel
theorem d_10_isCellHere_22 : decode prog_12_method_30_code 22 = .ok (.goto 4, 3) := by decide +kernel
theorem d_10_isCellHere_25 : decode prog_12_method_30_code 25 = .ok (.iconst 0, 1) := by decide +kernel
theorem d_10_isCellHere_26 : decode prog_12_method_30_code 26 = .ok (.ireturn, 1) := by decide +kernel
def m_10_isCellHere (r0 : Nat) (Q : Int32 → St → Prop) (σ : St) : Prop :=
  m_10_isDigit r0 (fun (v_2 : Int32) (σ_1 : St) => ((¬ v_2 = 0 → Q (1 : Int32) σ_1) ∧ (v_2 = 0 → m_10_here r0 (fun (v_4 : Int32) (σ_3 : St) => m_10_in v_4 (97 : Int32) (106 : Int32) (fun (v_6 : Int32) (σ_5 : St) => ((v_6 = 0 → Q (0 : Int32) σ_5) ∧ (¬ v_6 = 0 → Q (1 : Int32) σ_5))) σ_3) σ_1))) σ
theorem d_10_readsCell_0 : decode prog_12_method_31_code 0 = .ok (.aload_n 0, 1) := by decide +kernel
theorem d_10_readsCell_1 : decode prog_12_method_31_code 1 = .ok (.invokevirtual 95, 3) := by decide +kernel
theorem d_10_readsCell_4 : decode prog_12_method_31_code 4 = .ok (.ifCond .ne 7, 3) := by decide +kernel
theorem d_10_readsCell_7 : decode prog_12_method_31_code 7 = .ok (.iconst 1, 1) := by decide +kernel
theorem d_10_readsCell_8 : decode prog_12_method_31_code 8 = .ok (.goto 4, 3) := by decide +kernel
theorem d_10_readsCell_11 : decode prog_12_method_31_code 11 = .ok (.iconst 0, 1) := by decide +kernel
theorem d_10_readsCell_12 : decode prog_12_method_31_code 12 = .ok (.istore_n 3, 1) := by decide +kernel
theorem d_10_readsCell_13 : decode prog_12_method_31_code 13 = .ok (.aload_n 0, 1) := by decide +kernel
theorem d_10_readsCell_14 : decode prog_12_method_31_code 14 = .ok (.getfield 16, 3) := by decide +kernel
theorem d_10_readsCell_17 : decode prog_12_method_31_code 17 = .ok (.iconst 3, 1) := by decide +kernel
theorem d_10_readsCell_18 : decode prog_12_method_31_code 18 = .ok (.iload_n 1, 1) := by decide +kernel
theorem d_10_readsCell_19 : decode prog_12_method_31_code 19 = .ok (.iload_n 2, 1) := by decide +kernel
theorem d_10_readsCell_20 : decode prog_12_method_31_code 20 = .ok (.invokestatic 33, 3) := by decide +kernel
theorem d_10_readsCell_23 : decode prog_12_method_31_code 23 = .ok (.iadd, 1) := by decide +kernel
theorem d_10_readsCell_24 : decode prog_12_method_31_code 24 = .ok (.bipush 10, 2) := by decide +kernel
theorem d_10_readsCell_26 : decode prog_12_method_31_code 26 = .ok (.aload_n 0, 1) := by decide +kernel
theorem d_10_readsCell_27 : decode prog_12_method_31_code 27 = .ok (.invokevirtual 81, 3) := by decide +kernel
theorem d_10_readsCell_30 : decode prog_12_method_31_code 30 = .ok (.iload_n 3, 1) := by decide +kernel
theorem d_10_readsCell_31 : decode prog_12_method_31_code 31 = .ok (.ifCond .eq 8, 3) := by decide +kernel
theorem d_10_readsCell_34 : decode prog_12_method_31_code 34 = .ok (.bipush 97, 2) := by decide +kernel
theorem d_10_readsCell_36 : decode prog_12_method_31_code 36 = .ok (.goto 5, 3) := by decide +kernel
theorem d_10_readsCell_39 : decode prog_12_method_31_code 39 = .ok (.bipush 48, 2) := by decide +kernel
theorem d_10_readsCell_41 : decode prog_12_method_31_code 41 = .ok (.isub, 1) := by decide +kernel
theorem d_10_readsCell_42 : decode prog_12_method_31_code 42 = .ok (.imul, 1) := by decide +kernel
theorem d_10_readsCell_43 : decode prog_12_method_31_code 43 = .ok (.iastore, 1) := by decide +kernel
theorem d_10_readsCell_44 : decode prog_12_method_31_code 44 = .ok (.aload_n 0, 1) := by decide +kernel
theorem d_10_readsCell_45 : decode prog_12_method_31_code 45 = .ok (.getfield 16, 3) := by decide +kernel
theorem d_10_readsCell_48 : decode prog_12_method_31_code 48 = .ok (.bipush 43, 2) := by decide +kernel
theorem d_10_readsCell_50 : decode prog_12_method_31_code 50 = .ok (.iload_n 1, 1) := by decide +kernel
theorem d_10_readsCell_51 : decode prog_12_method_31_code 51 = .ok (.iload_n 2, 1) := by decide +kernel
theorem d_10_readsCell_52 : decode prog_12_method_31_code 52 = .ok (.invokestatic 33, 3) := by decide +kernel
theorem d_10_readsCell_55 : decode prog_12_method_31_code 55 = .ok (.iadd, 1) := by decide +kernel
theorem d_10_readsCell_56 : decode prog_12_method_31_code 56 = .ok (.iload_n 3, 1) := by decide +kernel
theorem d_10_readsCell_57 : decode prog_12_method_31_code 57 = .ok (.ifCond .eq 7, 3) := by decide +kernel
theorem d_10_readsCell_60 : decode prog_12_method_31_code 60 = .ok (.iconst 1, 1) := by decide +kernel
theorem d_10_readsCell_61 : decode prog_12_method_31_code 61 = .ok (.goto 4, 3) := by decide +kernel
theorem d_10_readsCell_64 : decode prog_12_method_31_code 64 = .ok (.iconst 0, 1) := by decide +kernel
theorem d_10_readsCell_65 : decode prog_12_method_31_code 65 = .ok (.iastore, 1) := by decide +kernel
theorem d_10_readsCell_66 : decode prog_12_method_31_code 66 = .ok (.aload_n 0, 1) := by decide +kernel
theorem d_10_readsCell_67 : decode prog_12_method_31_code 67 = .ok (.dup, 1) := by decide +kernel
theorem d_10_readsCell_68 : decode prog_12_method_31_code 68 = .ok (.getfield 78, 3) := by decide +kernel
theorem d_10_readsCell_71 : decode prog_12_method_31_code 71 = .ok (.iconst 1, 1) := by decide +kernel
theorem d_10_readsCell_72 : decode prog_12_method_31_code 72 = .ok (.iadd, 1) := by decide +kernel
theorem d_10_readsCell_73 : decode prog_12_method_31_code 73 = .ok (.putfield 78, 3) := by decide +kernel
theorem d_10_readsCell_76 : decode prog_12_method_31_code 76 = .ok (.return_, 1) := by decide +kernel
def m_10_readsCell_65 (r0 : Nat) (Q : St → Prop) (t0 : Int32) (t1 : Int32) (t2 : Nat) (σ : St) : Prop :=
  vp_in t1 83 ∧ ∀ σ_1 : St, σ_1 = wr σ t2 (t1).toNatClampNeg t0 → ∀ σ_2 : St, σ_2 = wr σ_1 r0 6 ((σ_1.1 r0 6) + (1 : Int32)) → Q σ_2
def m_10_readsCell_41 (r0 : Nat) (x1 : Int32) (x2 : Int32) (x3 : Int32) (Q : St → Prop) (t0 : Int32) (t1 : Int32) (t2 : Int32) (t3 : Int32) (t4 : Nat) (σ : St) : Prop :=
  vp_in t3 83 ∧ ∀ σ_1 : St, σ_1 = wr σ t4 (t3).toNatClampNeg (t2 * (t1 - t0)) → m_10_placeOf x1 x2 (fun (v_3 : Int32) (σ_2 : St) => ((x3 = 0 → m_10_readsCell_65 r0 Q  (0 : Int32) ((43 : Int32) + v_3) (r0 + 3) σ_2) ∧ (¬ x3 = 0 → m_10_readsCell_65 r0 Q  (1 : Int32) ((43 : Int32) + v_3) (r0 + 3) σ_2))) σ_1
def m_10_readsCell_12 (r0 : Nat) (x1 : Int32) (x2 : Int32) (Q : St → Prop) (t0 : Int32) (σ : St) : Prop :=
  m_10_placeOf x1 x2 (fun (v_2 : Int32) (σ_1 : St) => m_10_here r0 (fun (v_4 : Int32) (σ_3 : St) => ((t0 = 0 → m_10_readsCell_41 r0 x1 x2 t0 Q  (48 : Int32) v_4 (10 : Int32) ((3 : Int32) + v_2) (r0 + 3) σ_3) ∧ (¬ t0 = 0 → m_10_readsCell_41 r0 x1 x2 t0 Q  (97 : Int32) v_4 (10 : Int32) ((3 : Int32) + v_2) (r0 + 3) σ_3))) σ_1) σ
def m_10_readsCell (r0 : Nat) (x1 : Int32) (x2 : Int32) (Q : St → Prop) (σ : St) : Prop :=
  m_10_isDigit r0 (fun (v_2 : Int32) (σ_1 : St) => ((¬ v_2 = 0 → m_10_readsCell_12 r0 x1 x2 Q  (0 : Int32) σ_1) ∧ (v_2 = 0 → m_10_readsCell_12 r0 x1 x2 Q  (1 : Int32) σ_1))) σ
theorem d_10_readsSides_0 : decode prog_12_method_32_code 0 = .ok (.iconst 0, 1) := by decide +kernel
theorem d_10_readsSides_1 : decode prog_12_method_32_code 1 = .ok (.istore_n 1, 1) := by decide +kernel
theorem d_10_readsSides_2 : decode prog_12_method_32_code 2 = .ok (.iload_n 1, 1) := by decide +kernel
theorem d_10_readsSides_3 : decode prog_12_method_32_code 3 = .ok (.bipush 20, 2) := by decide +kernel
theorem d_10_readsSides_5 : decode prog_12_method_32_code 5 = .ok (.if_icmp .ge 22, 3) := by decide +kernel
theorem d_10_readsSides_8 : decode prog_12_method_32_code 8 = .ok (.aload_n 0, 1) := by decide +kernel
theorem d_10_readsSides_9 : decode prog_12_method_32_code 9 = .ok (.invokevirtual 102, 3) := by decide +kernel
theorem d_10_readsSides_12 : decode prog_12_method_32_code 12 = .ok (.ifCond .eq 15, 3) := by decide +kernel
theorem d_10_readsSides_15 : decode prog_12_method_32_code 15 = .ok (.aload_n 0, 1) := by decide +kernel
theorem d_10_readsSides_16 : decode prog_12_method_32_code 16 = .ok (.iconst 0, 1) := by decide +kernel
theorem d_10_readsSides_17 : decode prog_12_method_32_code 17 = .ok (.iload_n 1, 1) := by decide +kernel
theorem d_10_readsSides_18 : decode prog_12_method_32_code 18 = .ok (.invokevirtual 105, 3) := by decide +kernel
theorem d_10_readsSides_21 : decode prog_12_method_32_code 21 = .ok (.iinc 1 1, 3) := by decide +kernel
theorem d_10_readsSides_24 : decode prog_12_method_32_code 24 = .ok (.goto (-22), 3) := by decide +kernel
theorem d_10_readsSides_27 : decode prog_12_method_32_code 27 = .ok (.aload_n 0, 1) := by decide +kernel
theorem d_10_readsSides_28 : decode prog_12_method_32_code 28 = .ok (.getfield 16, 3) := by decide +kernel
theorem d_10_readsSides_31 : decode prog_12_method_32_code 31 = .ok (.iconst 0, 1) := by decide +kernel
theorem d_10_readsSides_32 : decode prog_12_method_32_code 32 = .ok (.iload_n 1, 1) := by decide +kernel
theorem d_10_readsSides_33 : decode prog_12_method_32_code 33 = .ok (.iastore, 1) := by decide +kernel
theorem d_10_readsSides_34 : decode prog_12_method_32_code 34 = .ok (.iload_n 1, 1) := by decide +kernel
theorem d_10_readsSides_35 : decode prog_12_method_32_code 35 = .ok (.ifCond .eq 12, 3) := by decide +kernel
theorem d_10_readsSides_38 : decode prog_12_method_32_code 38 = .ok (.aload_n 0, 1) := by decide +kernel
theorem d_10_readsSides_39 : decode prog_12_method_32_code 39 = .ok (.bipush 47, 2) := by decide +kernel
theorem d_10_readsSides_41 : decode prog_12_method_32_code 41 = .ok (.invokevirtual 99, 3) := by decide +kernel
theorem d_10_readsSides_44 : decode prog_12_method_32_code 44 = .ok (.ifCond .ne 13, 3) := by decide +kernel
theorem d_10_readsSides_47 : decode prog_12_method_32_code 47 = .ok (.aload_n 0, 1) := by decide +kernel
theorem d_10_readsSides_48 : decode prog_12_method_32_code 48 = .ok (.iconst 1, 1) := by decide +kernel
theorem d_10_readsSides_49 : decode prog_12_method_32_code 49 = .ok (.aload_n 0, 1) := by decide +kernel
theorem d_10_readsSides_50 : decode prog_12_method_32_code 50 = .ok (.getfield 78, 3) := by decide +kernel
theorem d_10_readsSides_53 : decode prog_12_method_32_code 53 = .ok (.invokevirtual 91, 3) := by decide +kernel
theorem d_10_readsSides_56 : decode prog_12_method_32_code 56 = .ok (.ireturn, 1) := by decide +kernel
theorem d_10_readsSides_57 : decode prog_12_method_32_code 57 = .ok (.iconst 0, 1) := by decide +kernel
theorem d_10_readsSides_58 : decode prog_12_method_32_code 58 = .ok (.istore_n 2, 1) := by decide +kernel
theorem d_10_readsSides_59 : decode prog_12_method_32_code 59 = .ok (.iload_n 2, 1) := by decide +kernel
theorem d_10_readsSides_60 : decode prog_12_method_32_code 60 = .ok (.iload_n 1, 1) := by decide +kernel
theorem d_10_readsSides_61 : decode prog_12_method_32_code 61 = .ok (.if_icmp .ge 32, 3) := by decide +kernel
theorem d_10_readsSides_64 : decode prog_12_method_32_code 64 = .ok (.aload_n 0, 1) := by decide +kernel
theorem d_10_readsSides_65 : decode prog_12_method_32_code 65 = .ok (.invokevirtual 102, 3) := by decide +kernel
theorem d_10_readsSides_68 : decode prog_12_method_32_code 68 = .ok (.ifCond .ne 13, 3) := by decide +kernel
theorem d_10_readsSides_71 : decode prog_12_method_32_code 71 = .ok (.aload_n 0, 1) := by decide +kernel
theorem d_10_readsSides_72 : decode prog_12_method_32_code 72 = .ok (.iconst 1, 1) := by decide +kernel
theorem d_10_readsSides_73 : decode prog_12_method_32_code 73 = .ok (.aload_n 0, 1) := by decide +kernel
theorem d_10_readsSides_74 : decode prog_12_method_32_code 74 = .ok (.getfield 78, 3) := by decide +kernel
theorem d_10_readsSides_77 : decode prog_12_method_32_code 77 = .ok (.invokevirtual 91, 3) := by decide +kernel
theorem d_10_readsSides_80 : decode prog_12_method_32_code 80 = .ok (.ireturn, 1) := by decide +kernel
theorem d_10_readsSides_81 : decode prog_12_method_32_code 81 = .ok (.aload_n 0, 1) := by decide +kernel
theorem d_10_readsSides_82 : decode prog_12_method_32_code 82 = .ok (.iconst 1, 1) := by decide +kernel
theorem d_10_readsSides_83 : decode prog_12_method_32_code 83 = .ok (.iload_n 2, 1) := by decide +kernel
theorem d_10_readsSides_84 : decode prog_12_method_32_code 84 = .ok (.invokevirtual 105, 3) := by decide +kernel
theorem d_10_readsSides_87 : decode prog_12_method_32_code 87 = .ok (.iinc 2 1, 3) := by decide +kernel
theorem d_10_readsSides_90 : decode prog_12_method_32_code 90 = .ok (.goto (-31), 3) := by decide +kernel
theorem d_10_readsSides_93 : decode prog_12_method_32_code 93 = .ok (.aload_n 0, 1) := by decide +kernel
theorem d_10_readsSides_94 : decode prog_12_method_32_code 94 = .ok (.getfield 78, 3) := by decide +kernel
theorem d_10_readsSides_97 : decode prog_12_method_32_code 97 = .ok (.aload_n 0, 1) := by decide +kernel
theorem d_10_readsSides_98 : decode prog_12_method_32_code 98 = .ok (.getfield 75, 3) := by decide +kernel
theorem d_10_readsSides_101 : decode prog_12_method_32_code 101 = .ok (.if_icmp .eq 15, 3) := by decide +kernel
theorem d_10_readsSides_104 : decode prog_12_method_32_code 104 = .ok (.aload_n 0, 1) := by decide +kernel
theorem d_10_readsSides_105 : decode prog_12_method_32_code 105 = .ok (.iconst 1, 1) := by decide +kernel
theorem d_10_readsSides_106 : decode prog_12_method_32_code 106 = .ok (.aload_n 0, 1) := by decide +kernel
theorem d_10_readsSides_107 : decode prog_12_method_32_code 107 = .ok (.getfield 78, 3) := by decide +kernel
theorem d_10_readsSides_110 : decode prog_12_method_32_code 110 = .ok (.invokevirtual 91, 3) := by decide +kernel
theorem d_10_readsSides_113 : decode prog_12_method_32_code 113 = .ok (.ifCond .eq 7, 3) := by decide +kernel
theorem d_10_readsSides_116 : decode prog_12_method_32_code 116 = .ok (.iconst 1, 1) := by decide +kernel
theorem d_10_readsSides_117 : decode prog_12_method_32_code 117 = .ok (.goto 4, 3) := by decide +kernel
theorem d_10_readsSides_120 : decode prog_12_method_32_code 120 = .ok (.iconst 0, 1) := by decide +kernel
theorem d_10_readsSides_121 : decode prog_12_method_32_code 121 = .ok (.ireturn, 1) := by decide +kernel
def m_10_readsSides_47 (r0 : Nat) (Q : Int32 → St → Prop) (σ : St) : Prop :=
  m_10_fails r0 (1 : Int32) (σ.1 r0 6) (fun (v_2 : Int32) (σ_1 : St) => (isB v_2 ∧ Q v_2 σ_1)) σ
def m_10_readsSides_59 (r0 : Nat) (x1 : Int32) (Q : Int32 → St → Prop) (B59 : Int32 → St → Prop) (x2 : Int32) (σ : St) : Prop :=
  ((x1 ≤ x2 → (((σ.1 r0 6) = (σ.1 r0 3) → Q (1 : Int32) σ) ∧ (¬ (σ.1 r0 6) = (σ.1 r0 3) → m_10_fails r0 (1 : Int32) (σ.1 r0 6) (fun (v_2 : Int32) (σ_1 : St) => ((v_2 = 0 → Q (0 : Int32) σ_1) ∧ (¬ v_2 = 0 → Q (1 : Int32) σ_1))) σ))) ∧ (¬ x1 ≤ x2 → m_10_isCellHere r0 (fun (v_4 : Int32) (σ_3 : St) => ((¬ v_4 = 0 → m_10_readsCell r0 (1 : Int32) x2 (fun (σ_5 : St) => ∀ x2_7 : Int32, x2_7 = x2 + 1 → B59 x2_7 σ_5) σ_3) ∧ (v_4 = 0 → m_10_fails r0 (1 : Int32) (σ_3.1 r0 6) (fun (v_9 : Int32) (σ_8 : St) => (isB v_9 ∧ Q v_9 σ_8)) σ_3))) σ))
def m_10_readsSides_27 (r0 : Nat) (x1 : Int32) (Q : Int32 → St → Prop) (σ : St) : Prop :=
  vp_in (0 : Int32) 83 ∧ ∀ σ_1 : St, σ_1 = wr σ (r0 + 3) ((0 : Int32)).toNatClampNeg x1 → ((x1 = 0 → m_10_readsSides_47 r0 Q   σ_1) ∧ (¬ x1 = 0 → m_10_takes r0 (47 : Int32) (fun (v_3 : Int32) (σ_2 : St) => ((¬ v_3 = 0 → itN (m_10_readsSides_59 r0 x1 Q) (fun _ _ => False) FU (0 : Int32) σ_2) ∧ (v_3 = 0 → m_10_readsSides_47 r0 Q   σ_2))) σ_1))
def m_10_readsSides_2 (r0 : Nat) (Q : Int32 → St → Prop) (B2 : Int32 → St → Prop) (x1 : Int32) (σ : St) : Prop :=
  (((20 : Int32) ≤ x1 → m_10_readsSides_27 r0 x1 Q   σ) ∧ (¬ (20 : Int32) ≤ x1 → m_10_isCellHere r0 (fun (v_2 : Int32) (σ_1 : St) => ((v_2 = 0 → m_10_readsSides_27 r0 x1 Q   σ_1) ∧ (¬ v_2 = 0 → m_10_readsCell r0 (0 : Int32) x1 (fun (σ_3 : St) => ∀ x1_5 : Int32, x1_5 = x1 + 1 → B2 x1_5 σ_3) σ_1))) σ))
def m_10_readsSides (r0 : Nat) (Q : Int32 → St → Prop) (σ : St) : Prop :=
  itN (m_10_readsSides_2 r0 Q) (fun _ _ => False) FU (0 : Int32) σ
theorem d_10_load_0 : decode prog_12_method_33_code 0 = .ok (.iload_n 1, 1) := by decide +kernel
theorem d_10_load_1 : decode prog_12_method_33_code 1 = .ok (.iconst 0, 1) := by decide +kernel
theorem d_10_load_2 : decode prog_12_method_33_code 2 = .ok (.aload_n 0, 1) := by decide +kernel
theorem d_10_load_3 : decode prog_12_method_33_code 3 = .ok (.getfield 7, 3) := by decide +kernel
theorem d_10_load_6 : decode prog_12_method_33_code 6 = .ok (.iconst 0, 1) := by decide +kernel
theorem d_10_load_7 : decode prog_12_method_33_code 7 = .ok (.iaload, 1) := by decide +kernel
theorem d_10_load_8 : decode prog_12_method_33_code 8 = .ok (.invokestatic 40, 3) := by decide +kernel
theorem d_10_load_11 : decode prog_12_method_33_code 11 = .ok (.ifCond .ne 5, 3) := by decide +kernel
theorem d_10_load_14 : decode prog_12_method_33_code 14 = .ok (.iconst (-1), 1) := by decide +kernel
theorem d_10_load_15 : decode prog_12_method_33_code 15 = .ok (.ireturn, 1) := by decide +kernel
theorem d_10_load_16 : decode prog_12_method_33_code 16 = .ok (.iload_n 1, 1) := by decide +kernel
theorem d_10_load_17 : decode prog_12_method_33_code 17 = .ok (.bipush 6, 2) := by decide +kernel
theorem d_10_load_19 : decode prog_12_method_33_code 19 = .ok (.if_icmp .ne 6, 3) := by decide +kernel
theorem d_10_load_22 : decode prog_12_method_33_code 22 = .ok (.bipush (-3), 2) := by decide +kernel
theorem d_10_load_24 : decode prog_12_method_33_code 24 = .ok (.ireturn, 1) := by decide +kernel
theorem d_10_load_25 : decode prog_12_method_33_code 25 = .ok (.aload_n 0, 1) := by decide +kernel
theorem d_10_load_26 : decode prog_12_method_33_code 26 = .ok (.iconst 0, 1) := by decide +kernel
theorem d_10_load_27 : decode prog_12_method_33_code 27 = .ok (.putfield 85, 3) := by decide +kernel
theorem d_10_load_30 : decode prog_12_method_33_code 30 = .ok (.aload_n 0, 1) := by decide +kernel
theorem d_10_load_31 : decode prog_12_method_33_code 31 = .ok (.iconst 0, 1) := by decide +kernel
theorem d_10_load_32 : decode prog_12_method_33_code 32 = .ok (.putfield 78, 3) := by decide +kernel
theorem d_10_load_35 : decode prog_12_method_33_code 35 = .ok (.aload_n 0, 1) := by decide +kernel
theorem d_10_load_36 : decode prog_12_method_33_code 36 = .ok (.invokevirtual 108, 3) := by decide +kernel
theorem d_10_load_39 : decode prog_12_method_33_code 39 = .ok (.ifCond .eq 17, 3) := by decide +kernel
theorem d_10_load_42 : decode prog_12_method_33_code 42 = .ok (.aload_n 0, 1) := by decide +kernel
theorem d_10_load_43 : decode prog_12_method_33_code 43 = .ok (.invokevirtual 111, 3) := by decide +kernel
theorem d_10_load_46 : decode prog_12_method_33_code 46 = .ok (.ifCond .eq 10, 3) := by decide +kernel
theorem d_10_load_49 : decode prog_12_method_33_code 49 = .ok (.aload_n 0, 1) := by decide +kernel
theorem d_10_load_50 : decode prog_12_method_33_code 50 = .ok (.invokevirtual 114, 3) := by decide +kernel
theorem d_10_load_53 : decode prog_12_method_33_code 53 = .ok (.ifCond .ne 11, 3) := by decide +kernel
theorem d_10_load_56 : decode prog_12_method_33_code 56 = .ok (.bipush (-10), 2) := by decide +kernel
theorem d_10_load_58 : decode prog_12_method_33_code 58 = .ok (.aload_n 0, 1) := by decide +kernel
theorem d_10_load_59 : decode prog_12_method_33_code 59 = .ok (.getfield 88, 3) := by decide +kernel
theorem d_10_load_62 : decode prog_12_method_33_code 62 = .ok (.isub, 1) := by decide +kernel
theorem d_10_load_63 : decode prog_12_method_33_code 63 = .ok (.ireturn, 1) := by decide +kernel
theorem d_10_load_64 : decode prog_12_method_33_code 64 = .ok (.aload_n 0, 1) := by decide +kernel
theorem d_10_load_65 : decode prog_12_method_33_code 65 = .ok (.invokevirtual 56, 3) := by decide +kernel
theorem d_10_load_68 : decode prog_12_method_33_code 68 = .ok (.aload_n 0, 1) := by decide +kernel
theorem d_10_load_69 : decode prog_12_method_33_code 69 = .ok (.getfield 7, 3) := by decide +kernel
theorem d_10_load_72 : decode prog_12_method_33_code 72 = .ok (.sipush 548, 3) := by decide +kernel
theorem d_10_load_75 : decode prog_12_method_33_code 75 = .ok (.iconst 0, 1) := by decide +kernel
theorem d_10_load_76 : decode prog_12_method_33_code 76 = .ok (.iastore, 1) := by decide +kernel
theorem d_10_load_77 : decode prog_12_method_33_code 77 = .ok (.iload_n 1, 1) := by decide +kernel
theorem d_10_load_78 : decode prog_12_method_33_code 78 = .ok (.aload_n 0, 1) := by decide +kernel
theorem d_10_load_79 : decode prog_12_method_33_code 79 = .ok (.getfield 7, 3) := by decide +kernel
theorem d_10_load_82 : decode prog_12_method_33_code 82 = .ok (.iconst 0, 1) := by decide +kernel
theorem d_10_load_83 : decode prog_12_method_33_code 83 = .ok (.iaload, 1) := by decide +kernel
theorem d_10_load_84 : decode prog_12_method_33_code 84 = .ok (.if_icmp .ne 16, 3) := by decide +kernel
theorem d_10_load_87 : decode prog_12_method_33_code 87 = .ok (.aload_n 0, 1) := by decide +kernel
theorem d_10_load_88 : decode prog_12_method_33_code 88 = .ok (.getfield 7, 3) := by decide +kernel
theorem d_10_load_91 : decode prog_12_method_33_code 91 = .ok (.iconst 0, 1) := by decide +kernel
theorem d_10_load_92 : decode prog_12_method_33_code 92 = .ok (.dup2, 1) := by decide +kernel
theorem d_10_load_93 : decode prog_12_method_33_code 93 = .ok (.iaload, 1) := by decide +kernel
theorem d_10_load_94 : decode prog_12_method_33_code 94 = .ok (.iconst 1, 1) := by decide +kernel
theorem d_10_load_95 : decode prog_12_method_33_code 95 = .ok (.iadd, 1) := by decide +kernel
theorem d_10_load_96 : decode prog_12_method_33_code 96 = .ok (.iastore, 1) := by decide +kernel
theorem d_10_load_97 : decode prog_12_method_33_code 97 = .ok (.goto 21, 3) := by decide +kernel
theorem d_10_load_100 : decode prog_12_method_33_code 100 = .ok (.aload_n 0, 1) := by decide +kernel
theorem d_10_load_101 : decode prog_12_method_33_code 101 = .ok (.iconst 2, 1) := by decide +kernel
theorem d_10_load_102 : decode prog_12_method_33_code 102 = .ok (.aload_n 0, 1) := by decide +kernel
theorem d_10_load_103 : decode prog_12_method_33_code 103 = .ok (.iload_n 1, 1) := by decide +kernel
theorem d_10_load_104 : decode prog_12_method_33_code 104 = .ok (.iconst 0, 1) := by decide +kernel
theorem d_10_load_105 : decode prog_12_method_33_code 105 = .ok (.invokevirtual 63, 3) := by decide +kernel
theorem d_10_load_108 : decode prog_12_method_33_code 108 = .ok (.aload_n 0, 1) := by decide +kernel
theorem d_10_load_109 : decode prog_12_method_33_code 109 = .ok (.iload_n 1, 1) := by decide +kernel
theorem d_10_load_110 : decode prog_12_method_33_code 110 = .ok (.iconst 1, 1) := by decide +kernel
theorem d_10_load_111 : decode prog_12_method_33_code 111 = .ok (.invokevirtual 63, 3) := by decide +kernel
theorem d_10_load_114 : decode prog_12_method_33_code 114 = .ok (.iadd, 1) := by decide +kernel
theorem d_10_load_115 : decode prog_12_method_33_code 115 = .ok (.invokevirtual 66, 3) := by decide +kernel
theorem d_10_load_118 : decode prog_12_method_33_code 118 = .ok (.aload_n 0, 1) := by decide +kernel
theorem d_10_load_119 : decode prog_12_method_33_code 119 = .ok (.iload_n 1, 1) := by decide +kernel
theorem d_10_load_120 : decode prog_12_method_33_code 120 = .ok (.aload_n 0, 1) := by decide +kernel
theorem d_10_load_121 : decode prog_12_method_33_code 121 = .ok (.getfield 16, 3) := by decide +kernel
theorem d_10_load_124 : decode prog_12_method_33_code 124 = .ok (.iconst 0, 1) := by decide +kernel
theorem d_10_load_125 : decode prog_12_method_33_code 125 = .ok (.iaload, 1) := by decide +kernel
theorem d_10_load_126 : decode prog_12_method_33_code 126 = .ok (.aload_n 0, 1) := by decide +kernel
theorem d_10_load_127 : decode prog_12_method_33_code 127 = .ok (.getfield 16, 3) := by decide +kernel
theorem d_10_load_130 : decode prog_12_method_33_code 130 = .ok (.iconst 1, 1) := by decide +kernel
theorem d_10_load_131 : decode prog_12_method_33_code 131 = .ok (.iaload, 1) := by decide +kernel
theorem d_10_load_132 : decode prog_12_method_33_code 132 = .ok (.aload_n 0, 1) := by decide +kernel
theorem d_10_load_133 : decode prog_12_method_33_code 133 = .ok (.getfield 16, 3) := by decide +kernel
theorem d_10_load_136 : decode prog_12_method_33_code 136 = .ok (.iconst 2, 1) := by decide +kernel
theorem d_10_load_137 : decode prog_12_method_33_code 137 = .ok (.iaload, 1) := by decide +kernel
theorem d_10_load_138 : decode prog_12_method_33_code 138 = .ok (.invokevirtual 59, 3) := by decide +kernel
theorem d_10_load_141 : decode prog_12_method_33_code 141 = .ok (.iconst 0, 1) := by decide +kernel
theorem d_10_load_142 : decode prog_12_method_33_code 142 = .ok (.istore_n 2, 1) := by decide +kernel
theorem d_10_load_143 : decode prog_12_method_33_code 143 = .ok (.iload_n 2, 1) := by decide +kernel
theorem d_10_load_144 : decode prog_12_method_33_code 144 = .ok (.iconst 2, 1) := by decide +kernel
theorem d_10_load_145 : decode prog_12_method_33_code 145 = .ok (.aload_n 0, 1) := by decide +kernel
theorem d_10_load_146 : decode prog_12_method_33_code 146 = .ok (.getfield 16, 3) := by decide +kernel
theorem d_10_load_149 : decode prog_12_method_33_code 149 = .ok (.iconst 0, 1) := by decide +kernel
theorem d_10_load_150 : decode prog_12_method_33_code 150 = .ok (.iaload, 1) := by decide +kernel
theorem d_10_load_151 : decode prog_12_method_33_code 151 = .ok (.imul, 1) := by decide +kernel
theorem d_10_load_152 : decode prog_12_method_33_code 152 = .ok (.if_icmp .ge 53, 3) := by decide +kernel
theorem d_10_load_155 : decode prog_12_method_33_code 155 = .ok (.iload_n 2, 1) := by decide +kernel
theorem d_10_load_156 : decode prog_12_method_33_code 156 = .ok (.iconst 2, 1) := by decide +kernel
theorem d_10_load_157 : decode prog_12_method_33_code 157 = .ok (.irem, 1) := by decide +kernel
theorem d_10_load_158 : decode prog_12_method_33_code 158 = .ok (.iload_n 2, 1) := by decide +kernel
theorem d_10_load_159 : decode prog_12_method_33_code 159 = .ok (.iconst 2, 1) := by decide +kernel
theorem d_10_load_160 : decode prog_12_method_33_code 160 = .ok (.idiv, 1) := by decide +kernel
theorem d_10_load_161 : decode prog_12_method_33_code 161 = .ok (.invokestatic 33, 3) := by decide +kernel
theorem d_10_load_164 : decode prog_12_method_33_code 164 = .ok (.istore_n 3, 1) := by decide +kernel
theorem d_10_load_165 : decode prog_12_method_33_code 165 = .ok (.aload_n 0, 1) := by decide +kernel
theorem d_10_load_166 : decode prog_12_method_33_code 166 = .ok (.iload_n 1, 1) := by decide +kernel
theorem d_10_load_167 : decode prog_12_method_33_code 167 = .ok (.iconst 3, 1) := by decide +kernel
theorem d_10_load_168 : decode prog_12_method_33_code 168 = .ok (.iload_n 3, 1) := by decide +kernel
theorem d_10_load_169 : decode prog_12_method_33_code 169 = .ok (.iadd, 1) := by decide +kernel
theorem d_10_load_170 : decode prog_12_method_33_code 170 = .ok (.aload_n 0, 1) := by decide +kernel
theorem d_10_load_171 : decode prog_12_method_33_code 171 = .ok (.getfield 16, 3) := by decide +kernel
theorem d_10_load_174 : decode prog_12_method_33_code 174 = .ok (.iconst 3, 1) := by decide +kernel
theorem d_10_load_175 : decode prog_12_method_33_code 175 = .ok (.iload_n 3, 1) := by decide +kernel
theorem d_10_load_176 : decode prog_12_method_33_code 176 = .ok (.iadd, 1) := by decide +kernel
theorem d_10_load_177 : decode prog_12_method_33_code 177 = .ok (.iaload, 1) := by decide +kernel
theorem d_10_load_178 : decode prog_12_method_33_code 178 = .ok (.invokevirtual 52, 3) := by decide +kernel
theorem d_10_load_181 : decode prog_12_method_33_code 181 = .ok (.aload_n 0, 1) := by decide +kernel
theorem d_10_load_182 : decode prog_12_method_33_code 182 = .ok (.iload_n 1, 1) := by decide +kernel
theorem d_10_load_183 : decode prog_12_method_33_code 183 = .ok (.bipush 43, 2) := by decide +kernel
theorem d_10_load_185 : decode prog_12_method_33_code 185 = .ok (.iload_n 3, 1) := by decide +kernel
theorem d_10_load_186 : decode prog_12_method_33_code 186 = .ok (.iadd, 1) := by decide +kernel
theorem d_10_load_187 : decode prog_12_method_33_code 187 = .ok (.aload_n 0, 1) := by decide +kernel
theorem d_10_load_188 : decode prog_12_method_33_code 188 = .ok (.getfield 16, 3) := by decide +kernel
theorem d_10_load_191 : decode prog_12_method_33_code 191 = .ok (.bipush 43, 2) := by decide +kernel
theorem d_10_load_193 : decode prog_12_method_33_code 193 = .ok (.iload_n 3, 1) := by decide +kernel
theorem d_10_load_194 : decode prog_12_method_33_code 194 = .ok (.iadd, 1) := by decide +kernel
theorem d_10_load_195 : decode prog_12_method_33_code 195 = .ok (.iaload, 1) := by decide +kernel
theorem d_10_load_196 : decode prog_12_method_33_code 196 = .ok (.invokevirtual 52, 3) := by decide +kernel
theorem d_10_load_199 : decode prog_12_method_33_code 199 = .ok (.iinc 2 1, 3) := by decide +kernel
theorem d_10_load_202 : decode prog_12_method_33_code 202 = .ok (.goto (-59), 3) := by decide +kernel
theorem d_10_load_205 : decode prog_12_method_33_code 205 = .ok (.aload_n 0, 1) := by decide +kernel
theorem d_10_load_206 : decode prog_12_method_33_code 206 = .ok (.iconst 0, 1) := by decide +kernel
theorem d_10_load_207 : decode prog_12_method_33_code 207 = .ok (.aload_n 0, 1) := by decide +kernel
theorem d_10_load_208 : decode prog_12_method_33_code 208 = .ok (.iload_n 1, 1) := by decide +kernel
theorem d_10_load_209 : decode prog_12_method_33_code 209 = .ok (.iconst 0, 1) := by decide +kernel
theorem d_10_load_210 : decode prog_12_method_33_code 210 = .ok (.invokevirtual 63, 3) := by decide +kernel
theorem d_10_load_213 : decode prog_12_method_33_code 213 = .ok (.aload_n 0, 1) := by decide +kernel
theorem d_10_load_214 : decode prog_12_method_33_code 214 = .ok (.iload_n 1, 1) := by decide +kernel
theorem d_10_load_215 : decode prog_12_method_33_code 215 = .ok (.iconst 1, 1) := by decide +kernel
theorem d_10_load_216 : decode prog_12_method_33_code 216 = .ok (.invokevirtual 63, 3) := by decide +kernel
theorem d_10_load_219 : decode prog_12_method_33_code 219 = .ok (.iadd, 1) := by decide +kernel
theorem d_10_load_220 : decode prog_12_method_33_code 220 = .ok (.invokevirtual 66, 3) := by decide +kernel
theorem d_10_load_223 : decode prog_12_method_33_code 223 = .ok (.aload_n 0, 1) := by decide +kernel
theorem d_10_load_224 : decode prog_12_method_33_code 224 = .ok (.getfield 16, 3) := by decide +kernel
theorem d_10_load_227 : decode prog_12_method_33_code 227 = .ok (.iconst 0, 1) := by decide +kernel
theorem d_10_load_228 : decode prog_12_method_33_code 228 = .ok (.iaload, 1) := by decide +kernel
theorem d_10_load_229 : decode prog_12_method_33_code 229 = .ok (.ireturn, 1) := by decide +kernel
def m_10_load_143 (r0 : Nat) (x1 : Int32) (Q : Int32 → St → Prop) (B143 : Int32 → St → Prop) (x2 : Int32) (σ : St) : Prop :=
  vp_in (0 : Int32) 83 ∧ ((((2 : Int32) * (σ.1 (r0 + 3) ((0 : Int32)).toNatClampNeg)) ≤ x2 → m_10_sideSum r0 x1 (0 : Int32) (fun (v_2 : Int32) (σ_1 : St) => m_10_sideSum r0 x1 (1 : Int32) (fun (v_4 : Int32) (σ_3 : St) => m_10_books r0 (0 : Int32) (v_2 + v_4) (fun (σ_5 : St) => vp_in (0 : Int32) 83 ∧ Q (σ_5.1 (r0 + 3) ((0 : Int32)).toNatClampNeg) σ_5) σ_3) σ_1) σ) ∧ (¬ ((2 : Int32) * (σ.1 (r0 + 3) ((0 : Int32)).toNatClampNeg)) ≤ x2 → m_10_placeOf (x2 - x2 / (2 : Int32) * (2 : Int32)) (x2 / (2 : Int32)) (fun (v_8 : Int32) (σ_7 : St) => vp_in ((3 : Int32) + v_8) 83 ∧ m_10_sets r0 x1 ((3 : Int32) + v_8) (σ_7.1 (r0 + 3) (((3 : Int32) + v_8)).toNatClampNeg) (fun (σ_9 : St) => vp_in ((43 : Int32) + v_8) 83 ∧ m_10_sets r0 x1 ((43 : Int32) + v_8) (σ_9.1 (r0 + 3) (((43 : Int32) + v_8)).toNatClampNeg) (fun (σ_11 : St) => ∀ x2_13 : Int32, x2_13 = x2 + 1 → B143 x2_13 σ_11) σ_9) σ_7) σ))
def m_10_load_118 (r0 : Nat) (x1 : Int32) (Q : Int32 → St → Prop) (σ : St) : Prop :=
  vp_in (0 : Int32) 83 ∧ vp_in (1 : Int32) 83 ∧ vp_in (2 : Int32) 83 ∧ m_10_empties r0 x1 (σ.1 (r0 + 3) ((0 : Int32)).toNatClampNeg) (σ.1 (r0 + 3) ((1 : Int32)).toNatClampNeg) (σ.1 (r0 + 3) ((2 : Int32)).toNatClampNeg) (fun (σ_1 : St) => itN (m_10_load_143 r0 x1 Q) (fun _ _ => False) FU (0 : Int32) σ_1) σ
def m_10_load (r0 : Nat) (x1 : Int32) (Q : Int32 → St → Prop) (σ : St) : Prop :=
  vp_in (0 : Int32) 5640 ∧ m_10_in x1 (0 : Int32) (σ.1 (r0 + 1) ((0 : Int32)).toNatClampNeg) (fun (v_2 : Int32) (σ_1 : St) => ((¬ v_2 = 0 → ((¬ x1 = (6 : Int32) → ∀ σ_3 : St, σ_3 = wr σ_1 r0 4 (0 : Int32) → ∀ σ_4 : St, σ_4 = wr σ_3 r0 6 (0 : Int32) → m_10_readsDistance r0 (fun (v_6 : Int32) (σ_5 : St) => ((v_6 = 0 → Q ((-10 : Int32) - (σ_5.1 r0 5)) σ_5) ∧ (¬ v_6 = 0 → m_10_readsTrees r0 (fun (v_8 : Int32) (σ_7 : St) => ((v_8 = 0 → Q ((-10 : Int32) - (σ_7.1 r0 5)) σ_7) ∧ (¬ v_8 = 0 → m_10_readsSides r0 (fun (v_10 : Int32) (σ_9 : St) => ((¬ v_10 = 0 → m_10_records r0 (fun (σ_11 : St) => vp_in (548 : Int32) 5640 ∧ ∀ σ_13 : St, σ_13 = wr σ_11 (r0 + 1) ((548 : Int32)).toNatClampNeg (0 : Int32) → vp_in (0 : Int32) 5640 ∧ ((¬ x1 = (σ_13.1 (r0 + 1) ((0 : Int32)).toNatClampNeg) → m_10_sideSum r0 x1 (0 : Int32) (fun (v_15 : Int32) (σ_14 : St) => m_10_sideSum r0 x1 (1 : Int32) (fun (v_17 : Int32) (σ_16 : St) => m_10_books r0 (2 : Int32) (v_15 + v_17) (fun (σ_18 : St) => m_10_load_118 r0 x1 Q   σ_18) σ_16) σ_14) σ_13) ∧ (x1 = (σ_13.1 (r0 + 1) ((0 : Int32)).toNatClampNeg) → vp_in (0 : Int32) 5640 ∧ vp_in (0 : Int32) 5640 ∧ ∀ σ_20 : St, σ_20 = wr σ_13 (r0 + 1) ((0 : Int32)).toNatClampNeg ((σ_13.1 (r0 + 1) ((0 : Int32)).toNatClampNeg) + (1 : Int32)) → m_10_load_118 r0 x1 Q   σ_20))) σ_9) ∧ (v_10 = 0 → Q ((-10 : Int32) - (σ_9.1 r0 5)) σ_9))) σ_7))) σ_5))) σ_4) ∧ (x1 = (6 : Int32) → Q (-3 : Int32) σ_1))) ∧ (v_2 = 0 → Q (-1 : Int32) σ_1))) σ
theorem d_10_faultKind_0 : decode prog_12_method_34_code 0 = .ok (.aload_n 0, 1) := by decide +kernel
theorem d_10_faultKind_1 : decode prog_12_method_34_code 1 = .ok (.getfield 85, 3) := by decide +kernel
theorem d_10_faultKind_4 : decode prog_12_method_34_code 4 = .ok (.ireturn, 1) := by decide +kernel
def m_10_faultKind (r0 : Nat) (Q : Int32 → St → Prop) (σ : St) : Prop :=
  Q (σ.1 r0 4) σ
theorem d_10_grip_0 : decode prog_12_method_35_code 0 = .ok (.bipush 100, 2) := by decide +kernel
theorem d_10_grip_2 : decode prog_12_method_35_code 2 = .ok (.bipush 15, 2) := by decide +kernel
theorem d_10_grip_4 : decode prog_12_method_35_code 4 = .ok (.aload_n 0, 1) := by decide +kernel
theorem d_10_grip_5 : decode prog_12_method_35_code 5 = .ok (.getfield 7, 3) := by decide +kernel
theorem d_10_grip_8 : decode prog_12_method_35_code 8 = .ok (.sipush 499, 3) := by decide +kernel
theorem d_10_grip_11 : decode prog_12_method_35_code 11 = .ok (.iaload, 1) := by decide +kernel
theorem d_10_grip_12 : decode prog_12_method_35_code 12 = .ok (.iconst 1, 1) := by decide +kernel
theorem d_10_grip_13 : decode prog_12_method_35_code 13 = .ok (.isub, 1) := by decide +kernel
theorem d_10_grip_14 : decode prog_12_method_35_code 14 = .ok (.imul, 1) := by decide +kernel
theorem d_10_grip_15 : decode prog_12_method_35_code 15 = .ok (.isub, 1) := by decide +kernel
theorem d_10_grip_16 : decode prog_12_method_35_code 16 = .ok (.aload_n 0, 1) := by decide +kernel
theorem d_10_grip_17 : decode prog_12_method_35_code 17 = .ok (.getfield 7, 3) := by decide +kernel
theorem d_10_grip_20 : decode prog_12_method_35_code 20 = .ok (.sipush 505, 3) := by decide +kernel
theorem d_10_grip_23 : decode prog_12_method_35_code 23 = .ok (.iaload, 1) := by decide +kernel
theorem d_10_grip_24 : decode prog_12_method_35_code 24 = .ok (.imul, 1) := by decide +kernel
theorem d_10_grip_25 : decode prog_12_method_35_code 25 = .ok (.sipush 1000, 3) := by decide +kernel
theorem d_10_grip_28 : decode prog_12_method_35_code 28 = .ok (.idiv, 1) := by decide +kernel
theorem d_10_grip_29 : decode prog_12_method_35_code 29 = .ok (.ireturn, 1) := by decide +kernel
def m_10_grip (r0 : Nat) (Q : Int32 → St → Prop) (σ : St) : Prop :=
  vp_in (499 : Int32) 5640 ∧ vp_in (505 : Int32) 5640 ∧ Q ((((100 : Int32) - ((15 : Int32) * ((σ.1 (r0 + 1) ((499 : Int32)).toNatClampNeg) - (1 : Int32)))) * (σ.1 (r0 + 1) ((505 : Int32)).toNatClampNeg)) / (1000 : Int32)) σ
theorem d_10_room_0 : decode prog_12_method_36_code 0 = .ok (.aload_n 0, 1) := by decide +kernel
theorem d_10_room_1 : decode prog_12_method_36_code 1 = .ok (.getfield 7, 3) := by decide +kernel
theorem d_10_room_4 : decode prog_12_method_36_code 4 = .ok (.sipush 500, 3) := by decide +kernel
theorem d_10_room_7 : decode prog_12_method_36_code 7 = .ok (.iaload, 1) := by decide +kernel
theorem d_10_room_8 : decode prog_12_method_36_code 8 = .ok (.aload_n 0, 1) := by decide +kernel
theorem d_10_room_9 : decode prog_12_method_36_code 9 = .ok (.getfield 7, 3) := by decide +kernel
theorem d_10_room_12 : decode prog_12_method_36_code 12 = .ok (.sipush 506, 3) := by decide +kernel
theorem d_10_room_15 : decode prog_12_method_36_code 15 = .ok (.iaload, 1) := by decide +kernel
theorem d_10_room_16 : decode prog_12_method_36_code 16 = .ok (.isub, 1) := by decide +kernel
theorem d_10_room_17 : decode prog_12_method_36_code 17 = .ok (.ireturn, 1) := by decide +kernel
def m_10_room (r0 : Nat) (Q : Int32 → St → Prop) (σ : St) : Prop :=
  vp_in (500 : Int32) 5640 ∧ vp_in (506 : Int32) 5640 ∧ Q ((σ.1 (r0 + 1) ((500 : Int32)).toNatClampNeg) - (σ.1 (r0 + 1) ((506 : Int32)).toNatClampNeg)) σ
theorem d_10_could_0 : decode prog_12_method_37_code 0 = .ok (.aload_n 0, 1) := by decide +kernel
theorem d_10_could_1 : decode prog_12_method_37_code 1 = .ok (.iload_n 1, 1) := by decide +kernel
theorem d_10_could_2 : decode prog_12_method_37_code 2 = .ok (.iload_n 2, 1) := by decide +kernel
theorem d_10_could_3 : decode prog_12_method_37_code 3 = .ok (.iload_n 3, 1) := by decide +kernel
theorem d_10_could_4 : decode prog_12_method_37_code 4 = .ok (.invokevirtual 117, 3) := by decide +kernel
theorem d_10_could_7 : decode prog_12_method_37_code 7 = .ok (.ifCond .eq 7, 3) := by decide +kernel
theorem d_10_could_10 : decode prog_12_method_37_code 10 = .ok (.iconst 0, 1) := by decide +kernel
theorem d_10_could_11 : decode prog_12_method_37_code 11 = .ok (.goto 18, 3) := by decide +kernel
theorem d_10_could_14 : decode prog_12_method_37_code 14 = .ok (.aload_n 0, 1) := by decide +kernel
theorem d_10_could_15 : decode prog_12_method_37_code 15 = .ok (.iload_n 1, 1) := by decide +kernel
theorem d_10_could_16 : decode prog_12_method_37_code 16 = .ok (.iload_n 2, 1) := by decide +kernel
theorem d_10_could_17 : decode prog_12_method_37_code 17 = .ok (.iload_n 3, 1) := by decide +kernel
theorem d_10_could_18 : decode prog_12_method_37_code 18 = .ok (.invokevirtual 48, 3) := by decide +kernel
theorem d_10_could_21 : decode prog_12_method_37_code 21 = .ok (.aload_n 0, 1) := by decide +kernel
theorem d_10_could_22 : decode prog_12_method_37_code 22 = .ok (.invokevirtual 120, 3) := by decide +kernel
theorem d_10_could_25 : decode prog_12_method_37_code 25 = .ok (.imul, 1) := by decide +kernel
theorem d_10_could_26 : decode prog_12_method_37_code 26 = .ok (.bipush 100, 2) := by decide +kernel
theorem d_10_could_28 : decode prog_12_method_37_code 28 = .ok (.idiv, 1) := by decide +kernel
theorem d_10_could_29 : decode prog_12_method_37_code 29 = .ok (.ireturn, 1) := by decide +kernel
def m_10_could (r0 : Nat) (x1 : Int32) (x2 : Int32) (x3 : Int32) (Q : Int32 → St → Prop) (σ : St) : Prop :=
  m_10_isParked r0 x1 x2 x3 (fun (v_2 : Int32) (σ_1 : St) => ((v_2 = 0 → m_10_dirtOf r0 x1 x2 x3 (fun (v_4 : Int32) (σ_3 : St) => m_10_grip r0 (fun (v_6 : Int32) (σ_5 : St) => Q ((v_4 * v_6) / (100 : Int32)) σ_5) σ_3) σ_1) ∧ (¬ v_2 = 0 → Q (0 : Int32) σ_1))) σ
theorem d_10_lesser_0 : decode prog_12_method_38_code 0 = .ok (.iload_n 0, 1) := by decide +kernel
theorem d_10_lesser_1 : decode prog_12_method_38_code 1 = .ok (.iload_n 1, 1) := by decide +kernel
theorem d_10_lesser_2 : decode prog_12_method_38_code 2 = .ok (.if_icmp .ge 7, 3) := by decide +kernel
theorem d_10_lesser_5 : decode prog_12_method_38_code 5 = .ok (.iload_n 0, 1) := by decide +kernel
theorem d_10_lesser_6 : decode prog_12_method_38_code 6 = .ok (.goto 4, 3) := by decide +kernel
theorem d_10_lesser_9 : decode prog_12_method_38_code 9 = .ok (.iload_n 1, 1) := by decide +kernel
theorem d_10_lesser_10 : decode prog_12_method_38_code 10 = .ok (.ireturn, 1) := by decide +kernel
def m_10_lesser (x0 : Int32) (x1 : Int32) (Q : Int32 → St → Prop) (σ : St) : Prop :=
  ((x1 ≤ x0 → Q x1 σ) ∧ (¬ x1 ≤ x0 → Q x0 σ))
theorem d_10_cell_0 : decode prog_12_method_39_code 0 = .ok (.aload_n 0, 1) := by decide +kernel
theorem d_10_cell_1 : decode prog_12_method_39_code 1 = .ok (.iload_n 1, 1) := by decide +kernel
theorem d_10_cell_2 : decode prog_12_method_39_code 2 = .ok (.iload_n 2, 1) := by decide +kernel
theorem d_10_cell_3 : decode prog_12_method_39_code 3 = .ok (.iload_n 3, 1) := by decide +kernel
theorem d_10_cell_4 : decode prog_12_method_39_code 4 = .ok (.invokevirtual 72, 3) := by decide +kernel
theorem d_10_cell_7 : decode prog_12_method_39_code 7 = .ok (.ifCond .eq 13, 3) := by decide +kernel
theorem d_10_cell_10 : decode prog_12_method_39_code 10 = .ok (.iload 4, 2) := by decide +kernel
theorem d_10_cell_12 : decode prog_12_method_39_code 12 = .ok (.iconst 0, 1) := by decide +kernel
theorem d_10_cell_13 : decode prog_12_method_39_code 13 = .ok (.iconst 2, 1) := by decide +kernel
theorem d_10_cell_14 : decode prog_12_method_39_code 14 = .ok (.invokestatic 40, 3) := by decide +kernel
theorem d_10_cell_17 : decode prog_12_method_39_code 17 = .ok (.ifCond .ne 5, 3) := by decide +kernel
theorem d_10_cell_20 : decode prog_12_method_39_code 20 = .ok (.iconst (-1), 1) := by decide +kernel
theorem d_10_cell_21 : decode prog_12_method_39_code 21 = .ok (.ireturn, 1) := by decide +kernel
theorem d_10_cell_22 : decode prog_12_method_39_code 22 = .ok (.iload 4, 2) := by decide +kernel
theorem d_10_cell_24 : decode prog_12_method_39_code 24 = .ok (.iconst 2, 1) := by decide +kernel
theorem d_10_cell_25 : decode prog_12_method_39_code 25 = .ok (.if_icmp .ne 18, 3) := by decide +kernel
theorem d_10_cell_28 : decode prog_12_method_39_code 28 = .ok (.aload_n 0, 1) := by decide +kernel
theorem d_10_cell_29 : decode prog_12_method_39_code 29 = .ok (.iload_n 1, 1) := by decide +kernel
theorem d_10_cell_30 : decode prog_12_method_39_code 30 = .ok (.iload_n 2, 1) := by decide +kernel
theorem d_10_cell_31 : decode prog_12_method_39_code 31 = .ok (.iload_n 3, 1) := by decide +kernel
theorem d_10_cell_32 : decode prog_12_method_39_code 32 = .ok (.invokevirtual 123, 3) := by decide +kernel
theorem d_10_cell_35 : decode prog_12_method_39_code 35 = .ok (.aload_n 0, 1) := by decide +kernel
theorem d_10_cell_36 : decode prog_12_method_39_code 36 = .ok (.invokevirtual 126, 3) := by decide +kernel
theorem d_10_cell_39 : decode prog_12_method_39_code 39 = .ok (.invokestatic 129, 3) := by decide +kernel
theorem d_10_cell_42 : decode prog_12_method_39_code 42 = .ok (.ireturn, 1) := by decide +kernel
theorem d_10_cell_43 : decode prog_12_method_39_code 43 = .ok (.iload 4, 2) := by decide +kernel
theorem d_10_cell_45 : decode prog_12_method_39_code 45 = .ok (.ifCond .ne 13, 3) := by decide +kernel
theorem d_10_cell_48 : decode prog_12_method_39_code 48 = .ok (.aload_n 0, 1) := by decide +kernel
theorem d_10_cell_49 : decode prog_12_method_39_code 49 = .ok (.iload_n 1, 1) := by decide +kernel
theorem d_10_cell_50 : decode prog_12_method_39_code 50 = .ok (.iload_n 2, 1) := by decide +kernel
theorem d_10_cell_51 : decode prog_12_method_39_code 51 = .ok (.iload_n 3, 1) := by decide +kernel
theorem d_10_cell_52 : decode prog_12_method_39_code 52 = .ok (.invokevirtual 48, 3) := by decide +kernel
theorem d_10_cell_55 : decode prog_12_method_39_code 55 = .ok (.goto 18, 3) := by decide +kernel
theorem d_10_cell_58 : decode prog_12_method_39_code 58 = .ok (.aload_n 0, 1) := by decide +kernel
theorem d_10_cell_59 : decode prog_12_method_39_code 59 = .ok (.iload_n 1, 1) := by decide +kernel
theorem d_10_cell_60 : decode prog_12_method_39_code 60 = .ok (.iload_n 2, 1) := by decide +kernel
theorem d_10_cell_61 : decode prog_12_method_39_code 61 = .ok (.iload_n 3, 1) := by decide +kernel
theorem d_10_cell_62 : decode prog_12_method_39_code 62 = .ok (.invokevirtual 117, 3) := by decide +kernel
theorem d_10_cell_65 : decode prog_12_method_39_code 65 = .ok (.ifCond .eq 7, 3) := by decide +kernel
theorem d_10_cell_68 : decode prog_12_method_39_code 68 = .ok (.iconst 1, 1) := by decide +kernel
theorem d_10_cell_69 : decode prog_12_method_39_code 69 = .ok (.goto 4, 3) := by decide +kernel
theorem d_10_cell_72 : decode prog_12_method_39_code 72 = .ok (.iconst 0, 1) := by decide +kernel
theorem d_10_cell_73 : decode prog_12_method_39_code 73 = .ok (.ireturn, 1) := by decide +kernel
def m_10_cell (r0 : Nat) (x1 : Int32) (x2 : Int32) (x3 : Int32) (x4 : Int32) (Q : Int32 → St → Prop) (σ : St) : Prop :=
  m_10_isCell r0 x1 x2 x3 (fun (v_2 : Int32) (σ_1 : St) => ((v_2 = 0 → Q (-1 : Int32) σ_1) ∧ (¬ v_2 = 0 → m_10_in x4 (0 : Int32) (2 : Int32) (fun (v_4 : Int32) (σ_3 : St) => ((¬ v_4 = 0 → ((¬ x4 = (2 : Int32) → ((¬ x4 = 0 → m_10_isParked r0 x1 x2 x3 (fun (v_6 : Int32) (σ_5 : St) => ((v_6 = 0 → Q (0 : Int32) σ_5) ∧ (¬ v_6 = 0 → Q (1 : Int32) σ_5))) σ_3) ∧ (x4 = 0 → m_10_dirtOf r0 x1 x2 x3 (fun (v_8 : Int32) (σ_7 : St) => Q v_8 σ_7) σ_3))) ∧ (x4 = (2 : Int32) → m_10_could r0 x1 x2 x3 (fun (v_10 : Int32) (σ_9 : St) => m_10_room r0 (fun (v_12 : Int32) (σ_11 : St) => m_10_lesser v_10 v_12 (fun (v_14 : Int32) (σ_13 : St) => Q v_14 σ_13) σ_11) σ_9) σ_3))) ∧ (v_4 = 0 → Q (-1 : Int32) σ_3))) σ_1))) σ
theorem d_10_parkedIn_0 : decode prog_12_method_40_code 0 = .ok (.iconst 0, 1) := by decide +kernel
theorem d_10_parkedIn_1 : decode prog_12_method_40_code 1 = .ok (.istore_n 2, 1) := by decide +kernel
theorem d_10_parkedIn_2 : decode prog_12_method_40_code 2 = .ok (.iconst 0, 1) := by decide +kernel
theorem d_10_parkedIn_3 : decode prog_12_method_40_code 3 = .ok (.istore_n 3, 1) := by decide +kernel
theorem d_10_parkedIn_4 : decode prog_12_method_40_code 4 = .ok (.iload_n 3, 1) := by decide +kernel
theorem d_10_parkedIn_5 : decode prog_12_method_40_code 5 = .ok (.iconst 2, 1) := by decide +kernel
theorem d_10_parkedIn_6 : decode prog_12_method_40_code 6 = .ok (.aload_n 0, 1) := by decide +kernel
theorem d_10_parkedIn_7 : decode prog_12_method_40_code 7 = .ok (.iload_n 1, 1) := by decide +kernel
theorem d_10_parkedIn_8 : decode prog_12_method_40_code 8 = .ok (.iconst 0, 1) := by decide +kernel
theorem d_10_parkedIn_9 : decode prog_12_method_40_code 9 = .ok (.invokevirtual 37, 3) := by decide +kernel
theorem d_10_parkedIn_12 : decode prog_12_method_40_code 12 = .ok (.imul, 1) := by decide +kernel
theorem d_10_parkedIn_13 : decode prog_12_method_40_code 13 = .ok (.if_icmp .ge 31, 3) := by decide +kernel
theorem d_10_parkedIn_16 : decode prog_12_method_40_code 16 = .ok (.iload_n 2, 1) := by decide +kernel
theorem d_10_parkedIn_17 : decode prog_12_method_40_code 17 = .ok (.aload_n 0, 1) := by decide +kernel
theorem d_10_parkedIn_18 : decode prog_12_method_40_code 18 = .ok (.iload_n 1, 1) := by decide +kernel
theorem d_10_parkedIn_19 : decode prog_12_method_40_code 19 = .ok (.iload_n 3, 1) := by decide +kernel
theorem d_10_parkedIn_20 : decode prog_12_method_40_code 20 = .ok (.iconst 2, 1) := by decide +kernel
theorem d_10_parkedIn_21 : decode prog_12_method_40_code 21 = .ok (.irem, 1) := by decide +kernel
theorem d_10_parkedIn_22 : decode prog_12_method_40_code 22 = .ok (.iload_n 3, 1) := by decide +kernel
theorem d_10_parkedIn_23 : decode prog_12_method_40_code 23 = .ok (.iconst 2, 1) := by decide +kernel
theorem d_10_parkedIn_24 : decode prog_12_method_40_code 24 = .ok (.idiv, 1) := by decide +kernel
theorem d_10_parkedIn_25 : decode prog_12_method_40_code 25 = .ok (.invokevirtual 117, 3) := by decide +kernel
theorem d_10_parkedIn_28 : decode prog_12_method_40_code 28 = .ok (.ifCond .eq 7, 3) := by decide +kernel
theorem d_10_parkedIn_31 : decode prog_12_method_40_code 31 = .ok (.iconst 1, 1) := by decide +kernel
theorem d_10_parkedIn_32 : decode prog_12_method_40_code 32 = .ok (.goto 4, 3) := by decide +kernel
theorem d_10_parkedIn_35 : decode prog_12_method_40_code 35 = .ok (.iconst 0, 1) := by decide +kernel
theorem d_10_parkedIn_36 : decode prog_12_method_40_code 36 = .ok (.iadd, 1) := by decide +kernel
theorem d_10_parkedIn_37 : decode prog_12_method_40_code 37 = .ok (.istore_n 2, 1) := by decide +kernel
theorem d_10_parkedIn_38 : decode prog_12_method_40_code 38 = .ok (.iinc 3 1, 3) := by decide +kernel
theorem d_10_parkedIn_41 : decode prog_12_method_40_code 41 = .ok (.goto (-37), 3) := by decide +kernel
theorem d_10_parkedIn_44 : decode prog_12_method_40_code 44 = .ok (.iload_n 2, 1) := by decide +kernel
theorem d_10_parkedIn_45 : decode prog_12_method_40_code 45 = .ok (.ireturn, 1) := by decide +kernel
def m_10_parkedIn_4 (r0 : Nat) (x1 : Int32) (Q : Int32 → St → Prop) (B4 : Int32 → Int32 → St → Prop) (x2 : Int32) (x3 : Int32) (σ : St) : Prop :=
  m_10_of r0 x1 (0 : Int32) (fun (v_2 : Int32) (σ_1 : St) => ((((2 : Int32) * v_2) ≤ x3 → Q x2 σ_1) ∧ (¬ ((2 : Int32) * v_2) ≤ x3 → m_10_isParked r0 x1 (x3 - x3 / (2 : Int32) * (2 : Int32)) (x3 / (2 : Int32)) (fun (v_4 : Int32) (σ_3 : St) => ((v_4 = 0 → ∀ x2_5 : Int32, x2_5 = (x2 + (0 : Int32)) → ∀ x3_6 : Int32, x3_6 = x3 + 1 → B4 x2_5 x3_6 σ_3) ∧ (¬ v_4 = 0 → ∀ x2_7 : Int32, x2_7 = (x2 + (1 : Int32)) → ∀ x3_8 : Int32, x3_8 = x3 + 1 → B4 x2_7 x3_8 σ_3))) σ_1))) σ
def m_10_parkedIn (r0 : Nat) (x1 : Int32) (Q : Int32 → St → Prop) (σ : St) : Prop :=
  itN (m_10_parkedIn_4 r0 x1 Q) (fun _ _ _ => False) FU (0 : Int32) (0 : Int32) σ
theorem d_10_greatest_0 : decode prog_12_method_41_code 0 = .ok (.iconst 0, 1) := by decide +kernel
theorem d_10_greatest_1 : decode prog_12_method_41_code 1 = .ok (.istore_n 2, 1) := by decide +kernel
theorem d_10_greatest_2 : decode prog_12_method_41_code 2 = .ok (.iconst 0, 1) := by decide +kernel
theorem d_10_greatest_3 : decode prog_12_method_41_code 3 = .ok (.istore_n 3, 1) := by decide +kernel
theorem d_10_greatest_4 : decode prog_12_method_41_code 4 = .ok (.iload_n 3, 1) := by decide +kernel
theorem d_10_greatest_5 : decode prog_12_method_41_code 5 = .ok (.iconst 2, 1) := by decide +kernel
theorem d_10_greatest_6 : decode prog_12_method_41_code 6 = .ok (.aload_n 0, 1) := by decide +kernel
theorem d_10_greatest_7 : decode prog_12_method_41_code 7 = .ok (.iload_n 1, 1) := by decide +kernel
theorem d_10_greatest_8 : decode prog_12_method_41_code 8 = .ok (.iconst 0, 1) := by decide +kernel
theorem d_10_greatest_9 : decode prog_12_method_41_code 9 = .ok (.invokevirtual 37, 3) := by decide +kernel
theorem d_10_greatest_12 : decode prog_12_method_41_code 12 = .ok (.imul, 1) := by decide +kernel
theorem d_10_greatest_13 : decode prog_12_method_41_code 13 = .ok (.if_icmp .ge 35, 3) := by decide +kernel
theorem d_10_greatest_16 : decode prog_12_method_41_code 16 = .ok (.aload_n 0, 1) := by decide +kernel
theorem d_10_greatest_17 : decode prog_12_method_41_code 17 = .ok (.iload_n 1, 1) := by decide +kernel
theorem d_10_greatest_18 : decode prog_12_method_41_code 18 = .ok (.iload_n 3, 1) := by decide +kernel
theorem d_10_greatest_19 : decode prog_12_method_41_code 19 = .ok (.iconst 2, 1) := by decide +kernel
theorem d_10_greatest_20 : decode prog_12_method_41_code 20 = .ok (.irem, 1) := by decide +kernel
theorem d_10_greatest_21 : decode prog_12_method_41_code 21 = .ok (.iload_n 3, 1) := by decide +kernel
theorem d_10_greatest_22 : decode prog_12_method_41_code 22 = .ok (.iconst 2, 1) := by decide +kernel
theorem d_10_greatest_23 : decode prog_12_method_41_code 23 = .ok (.idiv, 1) := by decide +kernel
theorem d_10_greatest_24 : decode prog_12_method_41_code 24 = .ok (.invokevirtual 48, 3) := by decide +kernel
theorem d_10_greatest_27 : decode prog_12_method_41_code 27 = .ok (.istore 4, 2) := by decide +kernel
theorem d_10_greatest_29 : decode prog_12_method_41_code 29 = .ok (.iload 4, 2) := by decide +kernel
theorem d_10_greatest_31 : decode prog_12_method_41_code 31 = .ok (.iload_n 2, 1) := by decide +kernel
theorem d_10_greatest_32 : decode prog_12_method_41_code 32 = .ok (.if_icmp .le 8, 3) := by decide +kernel
theorem d_10_greatest_35 : decode prog_12_method_41_code 35 = .ok (.iload 4, 2) := by decide +kernel
theorem d_10_greatest_37 : decode prog_12_method_41_code 37 = .ok (.goto 4, 3) := by decide +kernel
theorem d_10_greatest_40 : decode prog_12_method_41_code 40 = .ok (.iload_n 2, 1) := by decide +kernel
theorem d_10_greatest_41 : decode prog_12_method_41_code 41 = .ok (.istore_n 2, 1) := by decide +kernel
theorem d_10_greatest_42 : decode prog_12_method_41_code 42 = .ok (.iinc 3 1, 3) := by decide +kernel
theorem d_10_greatest_45 : decode prog_12_method_41_code 45 = .ok (.goto (-41), 3) := by decide +kernel
theorem d_10_greatest_48 : decode prog_12_method_41_code 48 = .ok (.iload_n 2, 1) := by decide +kernel
theorem d_10_greatest_49 : decode prog_12_method_41_code 49 = .ok (.ireturn, 1) := by decide +kernel
def m_10_greatest_4 (r0 : Nat) (x1 : Int32) (Q : Int32 → St → Prop) (B4 : Int32 → Int32 → St → Prop) (x2 : Int32) (x3 : Int32) (σ : St) : Prop :=
  m_10_of r0 x1 (0 : Int32) (fun (v_2 : Int32) (σ_1 : St) => ((((2 : Int32) * v_2) ≤ x3 → Q x2 σ_1) ∧ (¬ ((2 : Int32) * v_2) ≤ x3 → m_10_dirtOf r0 x1 (x3 - x3 / (2 : Int32) * (2 : Int32)) (x3 / (2 : Int32)) (fun (v_4 : Int32) (σ_3 : St) => ((v_4 ≤ x2 → ∀ x3_5 : Int32, x3_5 = x3 + 1 → B4 x2 x3_5 σ_3) ∧ (¬ v_4 ≤ x2 → ∀ x3_6 : Int32, x3_6 = x3 + 1 → B4 v_4 x3_6 σ_3))) σ_1))) σ
def m_10_greatest (r0 : Nat) (x1 : Int32) (Q : Int32 → St → Prop) (σ : St) : Prop :=
  itN (m_10_greatest_4 r0 x1 Q) (fun _ _ _ => False) FU (0 : Int32) (0 : Int32) σ
theorem d_10_legsIn_0 : decode prog_12_method_42_code 0 = .ok (.iconst 0, 1) := by decide +kernel
theorem d_10_legsIn_1 : decode prog_12_method_42_code 1 = .ok (.istore_n 2, 1) := by decide +kernel
theorem d_10_legsIn_2 : decode prog_12_method_42_code 2 = .ok (.iconst 0, 1) := by decide +kernel
theorem d_10_legsIn_3 : decode prog_12_method_42_code 3 = .ok (.istore_n 3, 1) := by decide +kernel
theorem d_10_legsIn_4 : decode prog_12_method_42_code 4 = .ok (.iload_n 3, 1) := by decide +kernel
theorem d_10_legsIn_5 : decode prog_12_method_42_code 5 = .ok (.aload_n 0, 1) := by decide +kernel
theorem d_10_legsIn_6 : decode prog_12_method_42_code 6 = .ok (.getfield 7, 3) := by decide +kernel
theorem d_10_legsIn_9 : decode prog_12_method_42_code 9 = .ok (.sipush 507, 3) := by decide +kernel
theorem d_10_legsIn_12 : decode prog_12_method_42_code 12 = .ok (.iaload, 1) := by decide +kernel
theorem d_10_legsIn_13 : decode prog_12_method_42_code 13 = .ok (.if_icmp .ge 27, 3) := by decide +kernel
theorem d_10_legsIn_16 : decode prog_12_method_42_code 16 = .ok (.iload_n 2, 1) := by decide +kernel
theorem d_10_legsIn_17 : decode prog_12_method_42_code 17 = .ok (.aload_n 0, 1) := by decide +kernel
theorem d_10_legsIn_18 : decode prog_12_method_42_code 18 = .ok (.iload_n 3, 1) := by decide +kernel
theorem d_10_legsIn_19 : decode prog_12_method_42_code 19 = .ok (.iconst 0, 1) := by decide +kernel
theorem d_10_legsIn_20 : decode prog_12_method_42_code 20 = .ok (.invokevirtual 69, 3) := by decide +kernel
theorem d_10_legsIn_23 : decode prog_12_method_42_code 23 = .ok (.iload_n 1, 1) := by decide +kernel
theorem d_10_legsIn_24 : decode prog_12_method_42_code 24 = .ok (.if_icmp .ne 7, 3) := by decide +kernel
theorem d_10_legsIn_27 : decode prog_12_method_42_code 27 = .ok (.iconst 1, 1) := by decide +kernel
theorem d_10_legsIn_28 : decode prog_12_method_42_code 28 = .ok (.goto 4, 3) := by decide +kernel
theorem d_10_legsIn_31 : decode prog_12_method_42_code 31 = .ok (.iconst 0, 1) := by decide +kernel
theorem d_10_legsIn_32 : decode prog_12_method_42_code 32 = .ok (.iadd, 1) := by decide +kernel
theorem d_10_legsIn_33 : decode prog_12_method_42_code 33 = .ok (.istore_n 2, 1) := by decide +kernel
theorem d_10_legsIn_34 : decode prog_12_method_42_code 34 = .ok (.iinc 3 1, 3) := by decide +kernel
theorem d_10_legsIn_37 : decode prog_12_method_42_code 37 = .ok (.goto (-33), 3) := by decide +kernel
theorem d_10_legsIn_40 : decode prog_12_method_42_code 40 = .ok (.iload_n 2, 1) := by decide +kernel
theorem d_10_legsIn_41 : decode prog_12_method_42_code 41 = .ok (.ireturn, 1) := by decide +kernel
def m_10_legsIn_4 (r0 : Nat) (x1 : Int32) (Q : Int32 → St → Prop) (B4 : Int32 → Int32 → St → Prop) (x2 : Int32) (x3 : Int32) (σ : St) : Prop :=
  vp_in (507 : Int32) 5640 ∧ (((σ.1 (r0 + 1) ((507 : Int32)).toNatClampNeg) ≤ x3 → Q x2 σ) ∧ (¬ (σ.1 (r0 + 1) ((507 : Int32)).toNatClampNeg) ≤ x3 → m_10_legOf r0 x3 (0 : Int32) (fun (v_2 : Int32) (σ_1 : St) => ((¬ v_2 = x1 → ∀ x2_3 : Int32, x2_3 = (x2 + (0 : Int32)) → ∀ x3_4 : Int32, x3_4 = x3 + 1 → B4 x2_3 x3_4 σ_1) ∧ (v_2 = x1 → ∀ x2_5 : Int32, x2_5 = (x2 + (1 : Int32)) → ∀ x3_6 : Int32, x3_6 = x3 + 1 → B4 x2_5 x3_6 σ_1))) σ))
def m_10_legsIn (r0 : Nat) (x1 : Int32) (Q : Int32 → St → Prop) (σ : St) : Prop :=
  itN (m_10_legsIn_4 r0 x1 Q) (fun _ _ _ => False) FU (0 : Int32) (0 : Int32) σ
theorem d_10_street_0 : decode prog_12_method_43_code 0 = .ok (.aload_n 0, 1) := by decide +kernel
theorem d_10_street_1 : decode prog_12_method_43_code 1 = .ok (.iload_n 1, 1) := by decide +kernel
theorem d_10_street_2 : decode prog_12_method_43_code 2 = .ok (.invokevirtual 44, 3) := by decide +kernel
theorem d_10_street_5 : decode prog_12_method_43_code 5 = .ok (.ifCond .eq 13, 3) := by decide +kernel
theorem d_10_street_8 : decode prog_12_method_43_code 8 = .ok (.iload_n 2, 1) := by decide +kernel
theorem d_10_street_9 : decode prog_12_method_43_code 9 = .ok (.iconst 0, 1) := by decide +kernel
theorem d_10_street_10 : decode prog_12_method_43_code 10 = .ok (.bipush 7, 2) := by decide +kernel
theorem d_10_street_12 : decode prog_12_method_43_code 12 = .ok (.invokestatic 40, 3) := by decide +kernel
theorem d_10_street_15 : decode prog_12_method_43_code 15 = .ok (.ifCond .ne 5, 3) := by decide +kernel
theorem d_10_street_18 : decode prog_12_method_43_code 18 = .ok (.iconst (-1), 1) := by decide +kernel
theorem d_10_street_19 : decode prog_12_method_43_code 19 = .ok (.ireturn, 1) := by decide +kernel
theorem d_10_street_20 : decode prog_12_method_43_code 20 = .ok (.iload_n 2, 1) := by decide +kernel
theorem d_10_street_21 : decode prog_12_method_43_code 21 = .ok (.tableswitch 62 3 7 #[35, 35, 44, 50, 56], 35) := by decide +kernel
theorem d_10_street_56 : decode prog_12_method_43_code 56 = .ok (.aload_n 0, 1) := by decide +kernel
theorem d_10_street_57 : decode prog_12_method_43_code 57 = .ok (.iload_n 1, 1) := by decide +kernel
theorem d_10_street_58 : decode prog_12_method_43_code 58 = .ok (.iload_n 2, 1) := by decide +kernel
theorem d_10_street_59 : decode prog_12_method_43_code 59 = .ok (.iconst 3, 1) := by decide +kernel
theorem d_10_street_60 : decode prog_12_method_43_code 60 = .ok (.isub, 1) := by decide +kernel
theorem d_10_street_61 : decode prog_12_method_43_code 61 = .ok (.invokevirtual 63, 3) := by decide +kernel
theorem d_10_street_64 : decode prog_12_method_43_code 64 = .ok (.ireturn, 1) := by decide +kernel
theorem d_10_street_65 : decode prog_12_method_43_code 65 = .ok (.aload_n 0, 1) := by decide +kernel
theorem d_10_street_66 : decode prog_12_method_43_code 66 = .ok (.iload_n 1, 1) := by decide +kernel
theorem d_10_street_67 : decode prog_12_method_43_code 67 = .ok (.invokevirtual 132, 3) := by decide +kernel
theorem d_10_street_70 : decode prog_12_method_43_code 70 = .ok (.ireturn, 1) := by decide +kernel
theorem d_10_street_71 : decode prog_12_method_43_code 71 = .ok (.aload_n 0, 1) := by decide +kernel
theorem d_10_street_72 : decode prog_12_method_43_code 72 = .ok (.iload_n 1, 1) := by decide +kernel
theorem d_10_street_73 : decode prog_12_method_43_code 73 = .ok (.invokevirtual 136, 3) := by decide +kernel
theorem d_10_street_76 : decode prog_12_method_43_code 76 = .ok (.ireturn, 1) := by decide +kernel
theorem d_10_street_77 : decode prog_12_method_43_code 77 = .ok (.aload_n 0, 1) := by decide +kernel
theorem d_10_street_78 : decode prog_12_method_43_code 78 = .ok (.iload_n 1, 1) := by decide +kernel
theorem d_10_street_79 : decode prog_12_method_43_code 79 = .ok (.invokevirtual 139, 3) := by decide +kernel
theorem d_10_street_82 : decode prog_12_method_43_code 82 = .ok (.ireturn, 1) := by decide +kernel
theorem d_10_street_83 : decode prog_12_method_43_code 83 = .ok (.aload_n 0, 1) := by decide +kernel
theorem d_10_street_84 : decode prog_12_method_43_code 84 = .ok (.iload_n 1, 1) := by decide +kernel
theorem d_10_street_85 : decode prog_12_method_43_code 85 = .ok (.iload_n 2, 1) := by decide +kernel
theorem d_10_street_86 : decode prog_12_method_43_code 86 = .ok (.invokevirtual 37, 3) := by decide +kernel
theorem d_10_street_89 : decode prog_12_method_43_code 89 = .ok (.ireturn, 1) := by decide +kernel
def m_10_street_56 (r0 : Nat) (x1 : Int32) (x2 : Int32) (Q : Int32 → St → Prop) (σ : St) : Prop :=
  m_10_sideSum r0 x1 (x2 - (3 : Int32)) (fun (v_2 : Int32) (σ_1 : St) => Q v_2 σ_1) σ
def m_10_street (r0 : Nat) (x1 : Int32) (x2 : Int32) (Q : Int32 → St → Prop) (σ : St) : Prop :=
  m_10_isStreet r0 x1 (fun (v_2 : Int32) (σ_1 : St) => ((v_2 = 0 → Q (-1 : Int32) σ_1) ∧ (¬ v_2 = 0 → m_10_in x2 (0 : Int32) (7 : Int32) (fun (v_4 : Int32) (σ_3 : St) => ((¬ v_4 = 0 → (((x2.toInt < 3 ∨ 7 < x2.toInt) → m_10_of r0 x1 x2 (fun (v_7 : Int32) (σ_6 : St) => Q v_7 σ_6) σ_3) ∧ (x2 = 3 → m_10_street_56 r0 x1 x2 Q   σ_3) ∧ (x2 = 4 → m_10_street_56 r0 x1 x2 Q   σ_3) ∧ (x2 = 5 → m_10_parkedIn r0 x1 (fun (v_9 : Int32) (σ_8 : St) => Q v_9 σ_8) σ_3) ∧ (x2 = 6 → m_10_greatest r0 x1 (fun (v_11 : Int32) (σ_10 : St) => Q v_11 σ_10) σ_3) ∧ (x2 = 7 → m_10_legsIn r0 x1 (fun (v_13 : Int32) (σ_12 : St) => Q v_13 σ_12) σ_3))) ∧ (v_4 = 0 → Q (-1 : Int32) σ_3))) σ_1))) σ
section MB
variable {p : Program} {l : Launch} {e : Env} {R : Room} {s : State} {m : MethodId} {args : Array Value} {below : List Frame} {meth : Method} {c : Code} {cells slots : Nat} {QW : State → Prop}
variable {D : va_G} {ac : Nat → ClassId} {ad st : Nat → Nat} {A : Nat → Prop}
set_option maxHeartbeats 4000000 in
set_option maxRecDepth 100000 in
theorem w_10_type_0 {r0 : Nat} {x1 : Int32} {Q : Int32 → St → Prop} {σ : St} {H : Heap} {locs : List Loc} {ls : Array Slot} (S : SC A D ac st p m c prog_12_method_22_code 2 s args "SweeperRoundsModel" R cells slots 1 22) (hR : RtI A D ac ad p l e R s m args below meth c prog_12_method_22_code cells slots QW Q) (hk_r0 : kd r0 = 10) (hG : DG A D ac ad s σ H locs) (hl : lv_has ls 2 [(0, .ref (ad r0)), (1, .int x1)]) (hf : m_10_type r0 x1 Q σ) : W p l e R s m args below meth c H locs cells slots QW (F0 m 0 ls []) := by
  have hx := S.1.1
  have hb := S.1.2.1
  unfold m_10_type at hf
  refine lv_iload_n hx hb d_10_type_0 rfl (lv_at hl 1 rfl) ?_
  refine lv_bipush (v := (32 : Int32)) hx hb d_10_type_1 (by decide) ?_
  refine lv_bipush (v := (126 : Int32)) hx hb d_10_type_3 (by decide) ?_
  refine iv_10_40 S hl.1 hG  (c_10_in l  hf) ⟨Nat.le_of_ble_eq_true rfl, Nat.le_of_ble_eq_true rfl⟩ (Nat.le_of_ble_eq_true rfl) d_10_type_5 (fun v_2 σ_1 hf H locs hG => ?_)
  refine lv_if_ne (tgt := 13) hx hb d_10_type_8 (by decide) (fun hc => ?_) (fun hc => ?_)
  · have hf := hf.1 hc
    refine lv_aload_n hx hb d_10_type_13 rfl (lv_at hl 0 rfl) ?_
    refine gf_10_75 S hG hk_r0 d_10_type_14 ?_
    refine lv_bipush (v := (80 : Int32)) hx hb d_10_type_17 (by decide) ?_
    refine lv_icmp_ne (tgt := 25) hx hb d_10_type_19 (by decide) (fun hc => ?_) (fun hc => ?_)
    · have hf := hf.1 hc
      refine lv_aload_n hx hb d_10_type_25 rfl (lv_at hl 0 rfl) ?_
      refine gf_10_13 S hG hk_r0 d_10_type_26 ?_
      refine lv_aload_n hx hb d_10_type_29 rfl (lv_at hl 0 rfl) ?_
      refine gf_10_75 S hG hk_r0 d_10_type_30 ?_
      refine lv_iload_n hx hb d_10_type_33 rfl (lv_at hl 1 rfl) ?_
      refine mis S hG 31 rfl rfl (kr_10_2 hk_r0) hf.1 d_10_type_34 (fun σ_3 eσ_3 H locs hG => ?_)
      have hf := hf.2 σ_3 eσ_3
      refine lv_aload_n hx hb d_10_type_35 rfl (lv_at hl 0 rfl) ?_
      refine lv_dup hx hb d_10_type_36 rfl ?_
      refine gf_10_75 S hG hk_r0 d_10_type_37 ?_
      refine lv_iconst (v := (1 : Int32)) hx hb d_10_type_40 (by decide) ?_
      refine lv_iadd hx hb d_10_type_41 ?_
      refine pf_10_75 S hG hk_r0 d_10_type_42 (fun σ_4 eσ_4 H locs hG => ?_)
      have hf := hf σ_4 eσ_4
      refine lv_aload_n hx hb d_10_type_45 rfl (lv_at hl 0 rfl) ?_
      refine gf_10_75 S hG hk_r0 d_10_type_46 ?_
      exact hR _ _ _ _ _ _ hG hf d_10_type_49
    · have hf := hf.2 hc
      refine lv_bipush (v := (-3 : Int32)) hx hb d_10_type_22 (by decide) ?_
      exact hR _ _ _ _ _ _ hG hf d_10_type_24
  · have hf := hf.2 hc
    refine lv_iconst (v := (-1 : Int32)) hx hb d_10_type_11 (by decide) ?_
    exact hR _ _ _ _ _ _ hG hf d_10_type_12
theorem c_10_type (l : Launch) {D : va_G} {ac : Nat → ClassId} {ad st : Nat → Nat} {A : Nat → Prop} {σ : St} {r0 : Nat} {x1 : Int32} {Q : Int32 → St → Prop} (hk_r0 : kd r0 = 10) (hf : m_10_type r0 x1 Q σ) : Met l y_10_type (Cond.code y_10_type prog_12_method_22_code 2 (some .int) :: wA) { frames := 1, cells := 0, slots := 0, locals := 22 } (va_Pc [.ref (ad r0), .int x1] (GSt A D ac ad st σ)) (va_Qi Q (GSt A D ac ad st) A) 0 0 A :=
  mkI l (by decide +kernel) rfl [.ref (ad r0), .int x1] (Nat.le_of_ble_eq_true rfl) (fun p e s m args below meth c ls QW S hR hG hl => w_10_type_0 S hR hk_r0 hG hl hf)
set_option maxHeartbeats 4000000 in
set_option maxRecDepth 100000 in
theorem w_10_clearText_0 {r0 : Nat} {Q : Int32 → St → Prop} {σ : St} {H : Heap} {locs : List Loc} {ls : Array Slot} (S : SC A D ac st p m c prog_12_method_23_code 2 s args "SweeperRoundsModel" R cells slots 0 0) (hR : RtI A D ac ad p l e R s m args below meth c prog_12_method_23_code cells slots QW Q) (hk_r0 : kd r0 = 10) (hG : DG A D ac ad s σ H locs) (hl : lv_has ls 2 [(0, .ref (ad r0))]) (hf : m_10_clearText r0 Q σ) : W p l e R s m args below meth c H locs cells slots QW (F0 m 0 ls []) := by
  have hx := S.1.1
  have hb := S.1.2.1
  unfold m_10_clearText at hf
  refine lv_aload_n hx hb d_10_clearText_0 rfl (lv_at hl 0 rfl) ?_
  refine gf_10_75 S hG hk_r0 d_10_clearText_1 ?_
  refine lv_topi (fun x1_1 ex1_1 => ?_)
  have hf := hf x1_1 ex1_1
  refine lv_istore_n (lv' := [(1, .int x1_1), (0, .ref (ad r0))]) hx hb d_10_clearText_4 rfl hl (by decide) rfl (fun ls hl => ?_)
  refine lv_aload_n hx hb d_10_clearText_5 rfl (lv_at hl 1 rfl) ?_
  refine lv_iconst (v := (0 : Int32)) hx hb d_10_clearText_6 (by decide) ?_
  refine pf_10_75 S hG hk_r0 d_10_clearText_7 (fun σ_2 eσ_2 H locs hG => ?_)
  have hf := hf σ_2 eσ_2
  refine lv_iload_n hx hb d_10_clearText_10 rfl (lv_at hl 0 rfl) ?_
  exact hR _ _ _ _ _ _ hG hf d_10_clearText_11
theorem c_10_clearText (l : Launch) {D : va_G} {ac : Nat → ClassId} {ad st : Nat → Nat} {A : Nat → Prop} {σ : St} {r0 : Nat} {Q : Int32 → St → Prop} (hk_r0 : kd r0 = 10) (hf : m_10_clearText r0 Q σ) : Met l y_10_clearText (Cond.code y_10_clearText prog_12_method_23_code 2 (some .int) :: wA) { frames := 0, cells := 0, slots := 0, locals := 0 } (va_Pc [.ref (ad r0)] (GSt A D ac ad st σ)) (va_Qi Q (GSt A D ac ad st) A) 0 0 A :=
  mkI l (by decide +kernel) rfl [.ref (ad r0)] (Nat.le_of_ble_eq_true rfl) (fun p e s m args below meth c ls QW S hR hG hl => w_10_clearText_0 S hR hk_r0 hG hl hf)
set_option maxHeartbeats 4000000 in
set_option maxRecDepth 100000 in
theorem w_10_here_0 {r0 : Nat} {Q : Int32 → St → Prop} {σ : St} {H : Heap} {locs : List Loc} {ls : Array Slot} (S : SC A D ac st p m c prog_12_method_24_code 1 s args "SweeperRoundsModel" R cells slots 0 0) (hR : RtI A D ac ad p l e R s m args below meth c prog_12_method_24_code cells slots QW Q) (hk_r0 : kd r0 = 10) (hG : DG A D ac ad s σ H locs) (hl : lv_has ls 1 [(0, .ref (ad r0))]) (hf : m_10_here r0 Q σ) : W p l e R s m args below meth c H locs cells slots QW (F0 m 0 ls []) := by
  have hx := S.1.1
  have hb := S.1.2.1
  unfold m_10_here at hf
  refine lv_aload_n hx hb d_10_here_0 rfl (lv_at hl 0 rfl) ?_
  refine gf_10_78 S hG hk_r0 d_10_here_1 ?_
  refine lv_aload_n hx hb d_10_here_4 rfl (lv_at hl 0 rfl) ?_
  refine gf_10_75 S hG hk_r0 d_10_here_5 ?_
  refine lv_icmp_ge (tgt := 23) hx hb d_10_here_8 (by decide) (fun hc => ?_) (fun hc => ?_)
  · have hf := hf.1 hc
    refine lv_bipush (v := (-9 : Int32)) hx hb d_10_here_23 (by decide) ?_
    exact hR _ _ _ _ _ _ hG hf d_10_here_25
  · have hf := hf.2 hc
    refine lv_aload_n hx hb d_10_here_11 rfl (lv_at hl 0 rfl) ?_
    refine gf_10_13 S hG hk_r0 d_10_here_12 ?_
    refine lv_aload_n hx hb d_10_here_15 rfl (lv_at hl 0 rfl) ?_
    refine gf_10_78 S hG hk_r0 d_10_here_16 ?_
    refine mia S hG 31 rfl rfl (kr_10_2 hk_r0) hf.1 d_10_here_19 ?_
    have hf := hf.2
    refine lv_goto (tgt := 25) hx hb d_10_here_20 (by decide) ?_
    exact hR _ _ _ _ _ _ hG hf d_10_here_25
theorem c_10_here (l : Launch) {D : va_G} {ac : Nat → ClassId} {ad st : Nat → Nat} {A : Nat → Prop} {σ : St} {r0 : Nat} {Q : Int32 → St → Prop} (hk_r0 : kd r0 = 10) (hf : m_10_here r0 Q σ) : Met l y_10_here (Cond.code y_10_here prog_12_method_24_code 1 (some .int) :: wA) { frames := 0, cells := 0, slots := 0, locals := 0 } (va_Pc [.ref (ad r0)] (GSt A D ac ad st σ)) (va_Qi Q (GSt A D ac ad st) A) 0 0 A :=
  mkI l (by decide +kernel) rfl [.ref (ad r0)] (Nat.le_of_ble_eq_true rfl) (fun p e s m args below meth c ls QW S hR hG hl => w_10_here_0 S hR hk_r0 hG hl hf)
set_option maxHeartbeats 4000000 in
set_option maxRecDepth 100000 in
theorem w_10_isDigit_0 {r0 : Nat} {Q : Int32 → St → Prop} {σ : St} {H : Heap} {locs : List Loc} {ls : Array Slot} (S : SC A D ac st p m c prog_12_method_25_code 1 s args "SweeperRoundsModel" R cells slots 1 22) (hR : RtZ A D ac ad p l e R s m args below meth c prog_12_method_25_code cells slots QW Q) (hk_r0 : kd r0 = 10) (hG : DG A D ac ad s σ H locs) (hl : lv_has ls 1 [(0, .ref (ad r0))]) (hf : m_10_isDigit r0 Q σ) : W p l e R s m args below meth c H locs cells slots QW (F0 m 0 ls []) := by
  have hx := S.1.1
  have hb := S.1.2.1
  unfold m_10_isDigit at hf
  refine lv_aload_n hx hb d_10_isDigit_0 rfl (lv_at hl 0 rfl) ?_
  refine iv_10_81 S hl.1 hG hk_r0 (c_10_here l hk_r0 hf) ⟨Nat.le_of_ble_eq_true rfl, Nat.le_of_ble_eq_true rfl⟩ (Nat.le_of_ble_eq_true rfl) d_10_isDigit_1 (fun v_2 σ_1 hf H locs hG => ?_)
  refine lv_bipush (v := (48 : Int32)) hx hb d_10_isDigit_4 (by decide) ?_
  refine lv_bipush (v := (57 : Int32)) hx hb d_10_isDigit_6 (by decide) ?_
  refine iv_10_40 S hl.1 hG  (c_10_in l  hf) ⟨Nat.le_of_ble_eq_true rfl, Nat.le_of_ble_eq_true rfl⟩ (Nat.le_of_ble_eq_true rfl) d_10_isDigit_8 (fun v_4 σ_3 hf H locs hG => ?_)
  exact hR _ _ _ _ _ _ hG hf.1 hf.2 d_10_isDigit_11
theorem c_10_isDigit (l : Launch) {D : va_G} {ac : Nat → ClassId} {ad st : Nat → Nat} {A : Nat → Prop} {σ : St} {r0 : Nat} {Q : Int32 → St → Prop} (hk_r0 : kd r0 = 10) (hf : m_10_isDigit r0 Q σ) : Met l y_10_isDigit (Cond.code y_10_isDigit prog_12_method_25_code 1 (some .boolean) :: wA) { frames := 1, cells := 0, slots := 0, locals := 22 } (va_Pc [.ref (ad r0)] (GSt A D ac ad st σ)) (va_Qi Q (GSt A D ac ad st) A) 0 0 A :=
  mkZ l (by decide +kernel) rfl [.ref (ad r0)] (Nat.le_of_ble_eq_true rfl) (fun p e s m args below meth c ls QW S hR hG hl => w_10_isDigit_0 S hR hk_r0 hG hl hf)
set_option maxHeartbeats 4000000 in
set_option maxRecDepth 100000 in
theorem w_10_fails_0 {r0 : Nat} {x1 : Int32} {x2 : Int32} {Q : Int32 → St → Prop} {σ : St} {H : Heap} {locs : List Loc} {ls : Array Slot} (S : SC A D ac st p m c prog_12_method_26_code 3 s args "SweeperRoundsModel" R cells slots 0 0) (hR : RtZ A D ac ad p l e R s m args below meth c prog_12_method_26_code cells slots QW Q) (hk_r0 : kd r0 = 10) (hG : DG A D ac ad s σ H locs) (hl : lv_has ls 3 [(0, .ref (ad r0)), (1, .int x1), (2, .int x2)]) (hf : m_10_fails r0 x1 x2 Q σ) : W p l e R s m args below meth c H locs cells slots QW (F0 m 0 ls []) := by
  have hx := S.1.1
  have hb := S.1.2.1
  unfold m_10_fails at hf
  refine lv_aload_n hx hb d_10_fails_0 rfl (lv_at hl 0 rfl) ?_
  refine lv_iload_n hx hb d_10_fails_1 rfl (lv_at hl 1 rfl) ?_
  refine pf_10_85 S hG hk_r0 d_10_fails_2 (fun σ_1 eσ_1 H locs hG => ?_)
  have hf := hf σ_1 eσ_1
  refine lv_aload_n hx hb d_10_fails_5 rfl (lv_at hl 0 rfl) ?_
  refine lv_iload_n hx hb d_10_fails_6 rfl (lv_at hl 2 rfl) ?_
  refine pf_10_88 S hG hk_r0 d_10_fails_7 (fun σ_2 eσ_2 H locs hG => ?_)
  have hf := hf σ_2 eσ_2
  refine lv_iconst (v := (0 : Int32)) hx hb d_10_fails_10 (by decide) ?_
  exact hR _ _ _ _ _ _ hG (by unfold isB; decide) hf d_10_fails_11
theorem c_10_fails (l : Launch) {D : va_G} {ac : Nat → ClassId} {ad st : Nat → Nat} {A : Nat → Prop} {σ : St} {r0 : Nat} {x1 : Int32} {x2 : Int32} {Q : Int32 → St → Prop} (hk_r0 : kd r0 = 10) (hf : m_10_fails r0 x1 x2 Q σ) : Met l y_10_fails (Cond.code y_10_fails prog_12_method_26_code 3 (some .boolean) :: wA) { frames := 0, cells := 0, slots := 0, locals := 0 } (va_Pc [.ref (ad r0), .int x1, .int x2] (GSt A D ac ad st σ)) (va_Qi Q (GSt A D ac ad st) A) 0 0 A :=
  mkZ l (by decide +kernel) rfl [.ref (ad r0), .int x1, .int x2] (Nat.le_of_ble_eq_true rfl) (fun p e s m args below meth c ls QW S hR hG hl => w_10_fails_0 S hR hk_r0 hG hl hf)
set_option maxHeartbeats 4000000 in
set_option maxRecDepth 100000 in
theorem w_10_takes_0 {r0 : Nat} {x1 : Int32} {Q : Int32 → St → Prop} {σ : St} {H : Heap} {locs : List Loc} {ls : Array Slot} (S : SC A D ac st p m c prog_12_method_27_code 2 s args "SweeperRoundsModel" R cells slots 1 22) (hR : RtZ A D ac ad p l e R s m args below meth c prog_12_method_27_code cells slots QW Q) (hk_r0 : kd r0 = 10) (hG : DG A D ac ad s σ H locs) (hl : lv_has ls 2 [(0, .ref (ad r0)), (1, .int x1)]) (hf : m_10_takes r0 x1 Q σ) : W p l e R s m args below meth c H locs cells slots QW (F0 m 0 ls []) := by
  have hx := S.1.1
  have hb := S.1.2.1
  unfold m_10_takes at hf
  refine lv_aload_n hx hb d_10_takes_0 rfl (lv_at hl 0 rfl) ?_
  refine iv_10_81 S hl.1 hG hk_r0 (c_10_here l hk_r0 hf) ⟨Nat.le_of_ble_eq_true rfl, Nat.le_of_ble_eq_true rfl⟩ (Nat.le_of_ble_eq_true rfl) d_10_takes_1 (fun v_2 σ_1 hf H locs hG => ?_)
  refine lv_iload_n hx hb d_10_takes_4 rfl (lv_at hl 1 rfl) ?_
  refine lv_icmp_eq (tgt := 18) hx hb d_10_takes_5 (by decide) (fun hc => ?_) (fun hc => ?_)
  · have hf := hf.1 hc
    refine lv_aload_n hx hb d_10_takes_18 rfl (lv_at hl 0 rfl) ?_
    refine lv_dup hx hb d_10_takes_19 rfl ?_
    refine gf_10_78 S hG hk_r0 d_10_takes_20 ?_
    refine lv_iconst (v := (1 : Int32)) hx hb d_10_takes_23 (by decide) ?_
    refine lv_iadd hx hb d_10_takes_24 ?_
    refine pf_10_78 S hG hk_r0 d_10_takes_25 (fun σ_3 eσ_3 H locs hG => ?_)
    have hf := hf σ_3 eσ_3
    refine lv_iconst (v := (1 : Int32)) hx hb d_10_takes_28 (by decide) ?_
    exact hR _ _ _ _ _ _ hG (by unfold isB; decide) hf d_10_takes_29
  · have hf := hf.2 hc
    refine lv_aload_n hx hb d_10_takes_8 rfl (lv_at hl 0 rfl) ?_
    refine lv_iconst (v := (1 : Int32)) hx hb d_10_takes_9 (by decide) ?_
    refine lv_aload_n hx hb d_10_takes_10 rfl (lv_at hl 0 rfl) ?_
    refine gf_10_78 S hG hk_r0 d_10_takes_11 ?_
    refine iv_10_91 S hl.1 hG hk_r0 (c_10_fails l hk_r0 hf) ⟨Nat.le_of_ble_eq_true rfl, Nat.le_of_ble_eq_true rfl⟩ (Nat.le_of_ble_eq_true rfl) d_10_takes_14 (fun v_5 σ_4 hf H locs hG => ?_)
    exact hR _ _ _ _ _ _ hG hf.1 hf.2 d_10_takes_17
theorem c_10_takes (l : Launch) {D : va_G} {ac : Nat → ClassId} {ad st : Nat → Nat} {A : Nat → Prop} {σ : St} {r0 : Nat} {x1 : Int32} {Q : Int32 → St → Prop} (hk_r0 : kd r0 = 10) (hf : m_10_takes r0 x1 Q σ) : Met l y_10_takes (Cond.code y_10_takes prog_12_method_27_code 2 (some .boolean) :: wA) { frames := 1, cells := 0, slots := 0, locals := 22 } (va_Pc [.ref (ad r0), .int x1] (GSt A D ac ad st σ)) (va_Qi Q (GSt A D ac ad st) A) 0 0 A :=
  mkZ l (by decide +kernel) rfl [.ref (ad r0), .int x1] (Nat.le_of_ble_eq_true rfl) (fun p e s m args below meth c ls QW S hR hG hl => w_10_takes_0 S hR hk_r0 hG hl hf)
set_option maxHeartbeats 4000000 in
set_option maxRecDepth 100000 in
theorem w_10_readsDistance_57 {r0 : Nat} {Q : Int32 → St → Prop} {σ : St} {H : Heap} {locs : List Loc} {ls : Array Slot} (S : SC A D ac st p m c prog_12_method_28_code 2 s args "SweeperRoundsModel" R cells slots 2 43) (hR : RtZ A D ac ad p l e R s m args below meth c prog_12_method_28_code cells slots QW Q) (hk_r0 : kd r0 = 10) (hG : DG A D ac ad s σ H locs) (hl : lv_has ls 2 [(0, .ref (ad r0))]) (hf : m_10_readsDistance_57 r0 Q σ) : W p l e R s m args below meth c H locs cells slots QW (F0 m 57 ls []) := by
  have hx := S.1.1
  have hb := S.1.2.1
  unfold m_10_readsDistance_57 at hf
  refine lv_aload_n hx hb d_10_readsDistance_57 rfl (lv_at hl 0 rfl) ?_
  refine lv_iconst (v := (1 : Int32)) hx hb d_10_readsDistance_58 (by decide) ?_
  refine lv_aload_n hx hb d_10_readsDistance_59 rfl (lv_at hl 0 rfl) ?_
  refine gf_10_78 S hG hk_r0 d_10_readsDistance_60 ?_
  refine iv_10_91 S hl.1 hG hk_r0 (c_10_fails l hk_r0 hf) ⟨Nat.le_of_ble_eq_true rfl, Nat.le_of_ble_eq_true rfl⟩ (Nat.le_of_ble_eq_true rfl) d_10_readsDistance_63 (fun v_2 σ_1 hf H locs hG => ?_)
  exact hR _ _ _ _ _ _ hG hf.1 hf.2 d_10_readsDistance_66
set_option maxHeartbeats 4000000 in
set_option maxRecDepth 100000 in
theorem w_10_readsDistance_43 {r0 : Nat} {x1 : Int32} {Q : Int32 → St → Prop} {σ : St} {H : Heap} {locs : List Loc} {ls : Array Slot} (S : SC A D ac st p m c prog_12_method_28_code 2 s args "SweeperRoundsModel" R cells slots 2 43) (hR : RtZ A D ac ad p l e R s m args below meth c prog_12_method_28_code cells slots QW Q) (hk_r0 : kd r0 = 10) (hG : DG A D ac ad s σ H locs) (hl : lv_has ls 2 [(0, .ref (ad r0)), (1, .int x1)]) (hf : m_10_readsDistance_43 r0 x1 Q σ) : W p l e R s m args below meth c H locs cells slots QW (F0 m 43 ls []) := by
  have hx := S.1.1
  have hb := S.1.2.1
  unfold m_10_readsDistance_43 at hf
  refine lv_aload_n hx hb d_10_readsDistance_43 rfl (lv_at hl 0 rfl) ?_
  refine gf_10_78 S hG hk_r0 d_10_readsDistance_44 ?_
  refine lv_if_eq (tgt := 57) hx hb d_10_readsDistance_47 (by decide) (fun hc => ?_) (fun hc => ?_)
  · have hf := hf.1 hc
    exact w_10_readsDistance_57 S hR hk_r0    hG (lv_sub hl [0] rfl) hf
  · have hf := hf.2 hc
    refine lv_aload_n hx hb d_10_readsDistance_50 rfl (lv_at hl 0 rfl) ?_
    refine iv_10_95 S hl.1 hG hk_r0 (c_10_isDigit l hk_r0 hf) ⟨Nat.le_of_ble_eq_true rfl, Nat.le_of_ble_eq_true rfl⟩ (Nat.le_of_ble_eq_true rfl) d_10_readsDistance_51 (fun v_2 σ_1 hf H locs hG => ?_)
    refine lv_if_eq (tgt := 67) hx hb d_10_readsDistance_54 (by decide) (fun hc => ?_) (fun hc => ?_)
    · have hf := hf.1 hc
      refine lv_aload_n hx hb d_10_readsDistance_67 rfl (lv_at hl 0 rfl) ?_
      refine gf_10_16 S hG hk_r0 d_10_readsDistance_68 ?_
      refine lv_iconst (v := (1 : Int32)) hx hb d_10_readsDistance_71 (by decide) ?_
      refine lv_iload_n hx hb d_10_readsDistance_72 rfl (lv_at hl 1 rfl) ?_
      refine mis S hG 32 rfl rfl (kr_10_7 hk_r0) hf.1 d_10_readsDistance_73 (fun σ_3 eσ_3 H locs hG => ?_)
      have hf := hf.2 σ_3 eσ_3
      refine lv_iload_n hx hb d_10_readsDistance_74 rfl (lv_at hl 1 rfl) ?_
      refine lv_bipush (v := (60 : Int32)) hx hb d_10_readsDistance_75 (by decide) ?_
      refine lv_icmp_gt (tgt := 89) hx hb d_10_readsDistance_77 (by decide) (fun hc => ?_) (fun hc => ?_)
      · have hf := hf.1 hc
        refine lv_aload_n hx hb d_10_readsDistance_89 rfl (lv_at hl 0 rfl) ?_
        refine lv_iconst (v := (2 : Int32)) hx hb d_10_readsDistance_90 (by decide) ?_
        refine lv_iconst (v := (0 : Int32)) hx hb d_10_readsDistance_91 (by decide) ?_
        refine iv_10_91 S hl.1 hG hk_r0 (c_10_fails l hk_r0 hf) ⟨Nat.le_of_ble_eq_true rfl, Nat.le_of_ble_eq_true rfl⟩ (Nat.le_of_ble_eq_true rfl) d_10_readsDistance_92 (fun v_5 σ_4 hf H locs hG => ?_)
        exact hR _ _ _ _ _ _ hG hf.1 hf.2 d_10_readsDistance_95
      · have hf := hf.2 hc
        refine lv_aload_n hx hb d_10_readsDistance_80 rfl (lv_at hl 0 rfl) ?_
        refine lv_bipush (v := (47 : Int32)) hx hb d_10_readsDistance_81 (by decide) ?_
        refine iv_10_99 S hl.1 hG hk_r0 (c_10_takes l hk_r0 hf) ⟨Nat.le_of_ble_eq_true rfl, Nat.le_of_ble_eq_true rfl⟩ (Nat.le_of_ble_eq_true rfl) d_10_readsDistance_83 (fun v_7 σ_6 hf H locs hG => ?_)
        refine lv_goto (tgt := 95) hx hb d_10_readsDistance_86 (by decide) ?_
        exact hR _ _ _ _ _ _ hG hf.1 hf.2 d_10_readsDistance_95
    · have hf := hf.2 hc
      exact w_10_readsDistance_57 S hR hk_r0    hG (lv_sub hl [0] rfl) hf
set_option maxHeartbeats 4000000 in
set_option maxRecDepth 100000 in
theorem w_10_readsDistance_2 {r0 : Nat} {Q : Int32 → St → Prop} {B2 : Int32 → St → Prop} {x1 : Int32} {σ : St} {H : Heap} {locs : List Loc} {ls : Array Slot} (S : SC A D ac st p m c prog_12_method_28_code 2 s args "SweeperRoundsModel" R cells slots 2 43) (hR : RtZ A D ac ad p l e R s m args below meth c prog_12_method_28_code cells slots QW Q) (hk_r0 : kd r0 = 10) (hB2 : ∀ (x1 : Int32) (σ : St) (H : Heap) (locs : List Loc) (ls : Array Slot), DG A D ac ad s σ H locs → lv_has ls 2 [(0, .ref (ad r0)), (1, .int x1)] → B2 x1 σ → W p l e R s m args below meth c H locs cells slots QW (F0 m 2 ls [])) (hG : DG A D ac ad s σ H locs) (hl : lv_has ls 2 [(0, .ref (ad r0)), (1, .int x1)]) (hf : m_10_readsDistance_2 r0 Q B2 x1 σ) : W p l e R s m args below meth c H locs cells slots QW (F0 m 2 ls []) := by
  have hx := S.1.1
  have hb := S.1.2.1
  unfold m_10_readsDistance_2 at hf
  refine lv_aload_n hx hb d_10_readsDistance_2 rfl (lv_at hl 0 rfl) ?_
  refine iv_10_95 S hl.1 hG hk_r0 (c_10_isDigit l hk_r0 hf) ⟨Nat.le_of_ble_eq_true rfl, Nat.le_of_ble_eq_true rfl⟩ (Nat.le_of_ble_eq_true rfl) d_10_readsDistance_3 (fun v_2 σ_1 hf H locs hG => ?_)
  refine lv_if_eq (tgt := 43) hx hb d_10_readsDistance_6 (by decide) (fun hc => ?_) (fun hc => ?_)
  · have hf := hf.1 hc
    exact w_10_readsDistance_43 S hR hk_r0    hG (lv_sub hl [0, 1] rfl) hf
  · have hf := hf.2 hc
    refine lv_aload_n hx hb d_10_readsDistance_9 rfl (lv_at hl 0 rfl) ?_
    refine gf_10_78 S hG hk_r0 d_10_readsDistance_10 ?_
    refine lv_iconst (v := (2 : Int32)) hx hb d_10_readsDistance_13 (by decide) ?_
    refine lv_icmp_ge (tgt := 43) hx hb d_10_readsDistance_14 (by decide) (fun hc => ?_) (fun hc => ?_)
    · have hf := hf.1 hc
      exact w_10_readsDistance_43 S hR hk_r0    hG (lv_sub hl [0, 1] rfl) hf
    · have hf := hf.2 hc
      refine lv_bipush (v := (10 : Int32)) hx hb d_10_readsDistance_17 (by decide) ?_
      refine lv_iload_n hx hb d_10_readsDistance_19 rfl (lv_at hl 1 rfl) ?_
      refine lv_imul hx hb d_10_readsDistance_20 ?_
      refine lv_aload_n hx hb d_10_readsDistance_21 rfl (lv_at hl 0 rfl) ?_
      refine iv_10_81 S hl.1 hG hk_r0 (c_10_here l hk_r0 hf) ⟨Nat.le_of_ble_eq_true rfl, Nat.le_of_ble_eq_true rfl⟩ (Nat.le_of_ble_eq_true rfl) d_10_readsDistance_22 (fun v_4 σ_3 hf H locs hG => ?_)
      refine lv_iadd hx hb d_10_readsDistance_25 ?_
      refine lv_bipush (v := (48 : Int32)) hx hb d_10_readsDistance_26 (by decide) ?_
      refine lv_isub hx hb d_10_readsDistance_28 ?_
      refine lv_topi (fun x1_5 ex1_5 => ?_)
      have hf := hf x1_5 ex1_5
      refine lv_istore_n (lv' := [(1, .int x1_5), (0, .ref (ad r0))]) hx hb d_10_readsDistance_29 rfl hl (by decide) rfl (fun ls hl => ?_)
      refine lv_aload_n hx hb d_10_readsDistance_30 rfl (lv_at hl 1 rfl) ?_
      refine lv_dup hx hb d_10_readsDistance_31 rfl ?_
      refine gf_10_78 S hG hk_r0 d_10_readsDistance_32 ?_
      refine lv_iconst (v := (1 : Int32)) hx hb d_10_readsDistance_35 (by decide) ?_
      refine lv_iadd hx hb d_10_readsDistance_36 ?_
      refine pf_10_78 S hG hk_r0 d_10_readsDistance_37 (fun σ_6 eσ_6 H locs hG => ?_)
      have hf := hf σ_6 eσ_6
      refine lv_goto (tgt := 2) hx hb d_10_readsDistance_40 (by decide) ?_
      exact hB2 _ _ _ _ _  hG (lv_sub hl [1, 0] rfl) hf
set_option maxHeartbeats 4000000 in
set_option maxRecDepth 100000 in
theorem lp_10_readsDistance_2 {r0 : Nat} {Q : Int32 → St → Prop} (S : SC A D ac st p m c prog_12_method_28_code 2 s args "SweeperRoundsModel" R cells slots 2 43) (hR : RtZ A D ac ad p l e R s m args below meth c prog_12_method_28_code cells slots QW Q) (hk_r0 : kd r0 = 10) : ∀ (n : Nat) (x1 : Int32) (σ : St) (H : Heap) (locs : List Loc) (ls : Array Slot), DG A D ac ad s σ H locs → lv_has ls 2 [(0, .ref (ad r0)), (1, .int x1)] → itN (m_10_readsDistance_2 r0 Q) (fun _ _ => False) n x1 σ → W p l e R s m args below meth c H locs cells slots QW (F0 m 2 ls []) := by
  intro n
  induction n with
  | zero =>
    intro x1 σ H locs ls  hG hl hf
    exact hf.elim
  | succ n ih =>
    intro x1 σ H locs ls  hG hl hf
    exact w_10_readsDistance_2 S hR hk_r0  ih hG hl hf
set_option maxHeartbeats 4000000 in
set_option maxRecDepth 100000 in
theorem w_10_readsDistance_0 {r0 : Nat} {Q : Int32 → St → Prop} {σ : St} {H : Heap} {locs : List Loc} {ls : Array Slot} (S : SC A D ac st p m c prog_12_method_28_code 2 s args "SweeperRoundsModel" R cells slots 2 43) (hR : RtZ A D ac ad p l e R s m args below meth c prog_12_method_28_code cells slots QW Q) (hk_r0 : kd r0 = 10) (hG : DG A D ac ad s σ H locs) (hl : lv_has ls 2 [(0, .ref (ad r0))]) (hf : m_10_readsDistance r0 Q σ) : W p l e R s m args below meth c H locs cells slots QW (F0 m 0 ls []) := by
  have hx := S.1.1
  have hb := S.1.2.1
  unfold m_10_readsDistance at hf
  refine lv_iconst (v := (0 : Int32)) hx hb d_10_readsDistance_0 (by decide) ?_
  refine lv_istore_n (lv' := [(1, .int (0 : Int32)), (0, .ref (ad r0))]) hx hb d_10_readsDistance_1 rfl hl (by decide) rfl (fun ls hl => ?_)
  exact lp_10_readsDistance_2 S hR hk_r0  FU _ _ _ _ _  hG (lv_sub hl [1, 0] rfl) hf
theorem c_10_readsDistance (l : Launch) {D : va_G} {ac : Nat → ClassId} {ad st : Nat → Nat} {A : Nat → Prop} {σ : St} {r0 : Nat} {Q : Int32 → St → Prop} (hk_r0 : kd r0 = 10) (hf : m_10_readsDistance r0 Q σ) : Met l y_10_readsDistance (Cond.code y_10_readsDistance prog_12_method_28_code 2 (some .boolean) :: wA) { frames := 2, cells := 0, slots := 0, locals := 43 } (va_Pc [.ref (ad r0)] (GSt A D ac ad st σ)) (va_Qi Q (GSt A D ac ad st) A) 0 0 A :=
  mkZ l (by decide +kernel) rfl [.ref (ad r0)] (Nat.le_of_ble_eq_true rfl) (fun p e s m args below meth c ls QW S hR hG hl => w_10_readsDistance_0 S hR hk_r0 hG hl hf)
set_option maxHeartbeats 4000000 in
set_option maxRecDepth 100000 in
theorem w_10_readsTrees_0 {r0 : Nat} {Q : Int32 → St → Prop} {σ : St} {H : Heap} {locs : List Loc} {ls : Array Slot} (S : SC A D ac st p m c prog_12_method_29_code 1 s args "SweeperRoundsModel" R cells slots 2 43) (hR : RtZ A D ac ad p l e R s m args below meth c prog_12_method_29_code cells slots QW Q) (hk_r0 : kd r0 = 10) (hG : DG A D ac ad s σ H locs) (hl : lv_has ls 1 [(0, .ref (ad r0))]) (hf : m_10_readsTrees r0 Q σ) : W p l e R s m args below meth c H locs cells slots QW (F0 m 0 ls []) := by
  have hx := S.1.1
  have hb := S.1.2.1
  unfold m_10_readsTrees at hf
  refine lv_aload_n hx hb d_10_readsTrees_0 rfl (lv_at hl 0 rfl) ?_
  refine iv_10_95 S hl.1 hG hk_r0 (c_10_isDigit l hk_r0 hf) ⟨Nat.le_of_ble_eq_true rfl, Nat.le_of_ble_eq_true rfl⟩ (Nat.le_of_ble_eq_true rfl) d_10_readsTrees_1 (fun v_2 σ_1 hf H locs hG => ?_)
  refine lv_if_ne (tgt := 17) hx hb d_10_readsTrees_4 (by decide) (fun hc => ?_) (fun hc => ?_)
  · have hf := hf.1 hc
    refine lv_aload_n hx hb d_10_readsTrees_17 rfl (lv_at hl 0 rfl) ?_
    refine gf_10_16 S hG hk_r0 d_10_readsTrees_18 ?_
    refine lv_iconst (v := (2 : Int32)) hx hb d_10_readsTrees_21 (by decide) ?_
    refine lv_aload_n hx hb d_10_readsTrees_22 rfl (lv_at hl 0 rfl) ?_
    refine iv_10_81 S hl.1 hG hk_r0 (c_10_here l hk_r0 hf) ⟨Nat.le_of_ble_eq_true rfl, Nat.le_of_ble_eq_true rfl⟩ (Nat.le_of_ble_eq_true rfl) d_10_readsTrees_23 (fun v_4 σ_3 hf H locs hG => ?_)
    refine lv_bipush (v := (48 : Int32)) hx hb d_10_readsTrees_26 (by decide) ?_
    refine lv_isub hx hb d_10_readsTrees_28 ?_
    refine mis S hG 32 rfl rfl (kr_10_7 hk_r0) hf.1 d_10_readsTrees_29 (fun σ_5 eσ_5 H locs hG => ?_)
    have hf := hf.2 σ_5 eσ_5
    refine lv_aload_n hx hb d_10_readsTrees_30 rfl (lv_at hl 0 rfl) ?_
    refine lv_dup hx hb d_10_readsTrees_31 rfl ?_
    refine gf_10_78 S hG hk_r0 d_10_readsTrees_32 ?_
    refine lv_iconst (v := (1 : Int32)) hx hb d_10_readsTrees_35 (by decide) ?_
    refine lv_iadd hx hb d_10_readsTrees_36 ?_
    refine pf_10_78 S hG hk_r0 d_10_readsTrees_37 (fun σ_6 eσ_6 H locs hG => ?_)
    have hf := hf σ_6 eσ_6
    refine lv_aload_n hx hb d_10_readsTrees_40 rfl (lv_at hl 0 rfl) ?_
    refine lv_bipush (v := (47 : Int32)) hx hb d_10_readsTrees_41 (by decide) ?_
    refine iv_10_99 S hl.1 hG hk_r0 (c_10_takes l hk_r0 hf) ⟨Nat.le_of_ble_eq_true rfl, Nat.le_of_ble_eq_true rfl⟩ (Nat.le_of_ble_eq_true rfl) d_10_readsTrees_43 (fun v_8 σ_7 hf H locs hG => ?_)
    exact hR _ _ _ _ _ _ hG hf.1 hf.2 d_10_readsTrees_46
  · have hf := hf.2 hc
    refine lv_aload_n hx hb d_10_readsTrees_7 rfl (lv_at hl 0 rfl) ?_
    refine lv_iconst (v := (1 : Int32)) hx hb d_10_readsTrees_8 (by decide) ?_
    refine lv_aload_n hx hb d_10_readsTrees_9 rfl (lv_at hl 0 rfl) ?_
    refine gf_10_78 S hG hk_r0 d_10_readsTrees_10 ?_
    refine iv_10_91 S hl.1 hG hk_r0 (c_10_fails l hk_r0 hf) ⟨Nat.le_of_ble_eq_true rfl, Nat.le_of_ble_eq_true rfl⟩ (Nat.le_of_ble_eq_true rfl) d_10_readsTrees_13 (fun v_10 σ_9 hf H locs hG => ?_)
    exact hR _ _ _ _ _ _ hG hf.1 hf.2 d_10_readsTrees_16
theorem c_10_readsTrees (l : Launch) {D : va_G} {ac : Nat → ClassId} {ad st : Nat → Nat} {A : Nat → Prop} {σ : St} {r0 : Nat} {Q : Int32 → St → Prop} (hk_r0 : kd r0 = 10) (hf : m_10_readsTrees r0 Q σ) : Met l y_10_readsTrees (Cond.code y_10_readsTrees prog_12_method_29_code 1 (some .boolean) :: wA) { frames := 2, cells := 0, slots := 0, locals := 43 } (va_Pc [.ref (ad r0)] (GSt A D ac ad st σ)) (va_Qi Q (GSt A D ac ad st) A) 0 0 A :=
  mkZ l (by decide +kernel) rfl [.ref (ad r0)] (Nat.le_of_ble_eq_true rfl) (fun p e s m args below meth c ls QW S hR hG hl => w_10_readsTrees_0 S hR hk_r0 hG hl hf)
set_option maxHeartbeats 4000000 in
set_option maxRecDepth 100000 in
theorem w_10_isCellHere_0 {r0 : Nat} {Q : Int32 → St → Prop} {σ : St} {H : Heap} {locs : List Loc} {ls : Array Slot} (S : SC A D ac st p m c prog_12_method_30_code 1 s args "SweeperRoundsModel" R cells slots 2 42) (hR : RtZ A D ac ad p l e R s m args below meth c prog_12_method_30_code cells slots QW Q) (hk_r0 : kd r0 = 10) (hG : DG A D ac ad s σ H locs) (hl : lv_has ls 1 [(0, .ref (ad r0))]) (hf : m_10_isCellHere r0 Q σ) : W p l e R s m args below meth c H locs cells slots QW (F0 m 0 ls []) := by
  have hx := S.1.1
  have hb := S.1.2.1
  unfold m_10_isCellHere at hf
  refine lv_aload_n hx hb d_10_isCellHere_0 rfl (lv_at hl 0 rfl) ?_
  refine iv_10_95 S hl.1 hG hk_r0 (c_10_isDigit l hk_r0 hf) ⟨Nat.le_of_ble_eq_true rfl, Nat.le_of_ble_eq_true rfl⟩ (Nat.le_of_ble_eq_true rfl) d_10_isCellHere_1 (fun v_2 σ_1 hf H locs hG => ?_)
  refine lv_if_ne (tgt := 21) hx hb d_10_isCellHere_4 (by decide) (fun hc => ?_) (fun hc => ?_)
  · have hf := hf.1 hc
    refine lv_iconst (v := (1 : Int32)) hx hb d_10_isCellHere_21 (by decide) ?_
    refine lv_goto (tgt := 26) hx hb d_10_isCellHere_22 (by decide) ?_
    exact hR _ _ _ _ _ _ hG (by unfold isB; decide) hf d_10_isCellHere_26
  · have hf := hf.2 hc
    refine lv_aload_n hx hb d_10_isCellHere_7 rfl (lv_at hl 0 rfl) ?_
    refine iv_10_81 S hl.1 hG hk_r0 (c_10_here l hk_r0 hf) ⟨Nat.le_of_ble_eq_true rfl, Nat.le_of_ble_eq_true rfl⟩ (Nat.le_of_ble_eq_true rfl) d_10_isCellHere_8 (fun v_4 σ_3 hf H locs hG => ?_)
    refine lv_bipush (v := (97 : Int32)) hx hb d_10_isCellHere_11 (by decide) ?_
    refine lv_bipush (v := (106 : Int32)) hx hb d_10_isCellHere_13 (by decide) ?_
    refine iv_10_40 S hl.1 hG  (c_10_in l  hf) ⟨Nat.le_of_ble_eq_true rfl, Nat.le_of_ble_eq_true rfl⟩ (Nat.le_of_ble_eq_true rfl) d_10_isCellHere_15 (fun v_6 σ_5 hf H locs hG => ?_)
    refine lv_if_eq (tgt := 25) hx hb d_10_isCellHere_18 (by decide) (fun hc => ?_) (fun hc => ?_)
    · have hf := hf.1 hc
      refine lv_iconst (v := (0 : Int32)) hx hb d_10_isCellHere_25 (by decide) ?_
      exact hR _ _ _ _ _ _ hG (by unfold isB; decide) hf d_10_isCellHere_26
    · have hf := hf.2 hc
      refine lv_iconst (v := (1 : Int32)) hx hb d_10_isCellHere_21 (by decide) ?_
      refine lv_goto (tgt := 26) hx hb d_10_isCellHere_22 (by decide) ?_
      exact hR _ _ _ _ _ _ hG (by unfold isB; decide) hf d_10_isCellHere_26
theorem c_10_isCellHere (l : Launch) {D : va_G} {ac : Nat → ClassId} {ad st : Nat → Nat} {A : Nat → Prop} {σ : St} {r0 : Nat} {Q : Int32 → St → Prop} (hk_r0 : kd r0 = 10) (hf : m_10_isCellHere r0 Q σ) : Met l y_10_isCellHere (Cond.code y_10_isCellHere prog_12_method_30_code 1 (some .boolean) :: wA) { frames := 2, cells := 0, slots := 0, locals := 42 } (va_Pc [.ref (ad r0)] (GSt A D ac ad st σ)) (va_Qi Q (GSt A D ac ad st) A) 0 0 A :=
  mkZ l (by decide +kernel) rfl [.ref (ad r0)] (Nat.le_of_ble_eq_true rfl) (fun p e s m args below meth c ls QW S hR hG hl => w_10_isCellHere_0 S hR hk_r0 hG hl hf)
set_option maxHeartbeats 4000000 in
set_option maxRecDepth 100000 in
theorem w_10_readsCell_65 {r0 : Nat} {Q : St → Prop} {t0 : Int32} {t1 : Int32} {t2 : Nat} {σ : St} {H : Heap} {locs : List Loc} {ls : Array Slot} (S : SC A D ac st p m c prog_12_method_31_code 4 s args "SweeperRoundsModel" R cells slots 2 42) (hR : RtV A D ac ad p l e R s m args below meth c prog_12_method_31_code cells slots QW Q) (hk_r0 : kd r0 = 10) (hk_t2 : kd t2 = 32) (hG : DG A D ac ad s σ H locs) (hl : lv_has ls 4 [(0, .ref (ad r0))]) (hf : m_10_readsCell_65 r0 Q t0 t1 t2 σ) : W p l e R s m args below meth c H locs cells slots QW (F0 m 65 ls [.int t0, .int t1, .ref (ad t2)]) := by
  have hx := S.1.1
  have hb := S.1.2.1
  unfold m_10_readsCell_65 at hf
  refine mis S hG 32 rfl rfl hk_t2 hf.1 d_10_readsCell_65 (fun σ_1 eσ_1 H locs hG => ?_)
  have hf := hf.2 σ_1 eσ_1
  refine lv_aload_n hx hb d_10_readsCell_66 rfl (lv_at hl 0 rfl) ?_
  refine lv_dup hx hb d_10_readsCell_67 rfl ?_
  refine gf_10_78 S hG hk_r0 d_10_readsCell_68 ?_
  refine lv_iconst (v := (1 : Int32)) hx hb d_10_readsCell_71 (by decide) ?_
  refine lv_iadd hx hb d_10_readsCell_72 ?_
  refine pf_10_78 S hG hk_r0 d_10_readsCell_73 (fun σ_2 eσ_2 H locs hG => ?_)
  have hf := hf σ_2 eσ_2
  exact hR _ _ _ _ _ hG hf d_10_readsCell_76
set_option maxHeartbeats 4000000 in
set_option maxRecDepth 100000 in
theorem w_10_readsCell_41 {r0 : Nat} {x1 : Int32} {x2 : Int32} {x3 : Int32} {Q : St → Prop} {t0 : Int32} {t1 : Int32} {t2 : Int32} {t3 : Int32} {t4 : Nat} {σ : St} {H : Heap} {locs : List Loc} {ls : Array Slot} (S : SC A D ac st p m c prog_12_method_31_code 4 s args "SweeperRoundsModel" R cells slots 2 42) (hR : RtV A D ac ad p l e R s m args below meth c prog_12_method_31_code cells slots QW Q) (hk_r0 : kd r0 = 10) (hk_t4 : kd t4 = 32) (hG : DG A D ac ad s σ H locs) (hl : lv_has ls 4 [(0, .ref (ad r0)), (1, .int x1), (2, .int x2), (3, .int x3)]) (hf : m_10_readsCell_41 r0 x1 x2 x3 Q t0 t1 t2 t3 t4 σ) : W p l e R s m args below meth c H locs cells slots QW (F0 m 41 ls [.int t0, .int t1, .int t2, .int t3, .ref (ad t4)]) := by
  have hx := S.1.1
  have hb := S.1.2.1
  unfold m_10_readsCell_41 at hf
  refine lv_isub hx hb d_10_readsCell_41 ?_
  refine lv_imul hx hb d_10_readsCell_42 ?_
  refine mis S hG 32 rfl rfl hk_t4 hf.1 d_10_readsCell_43 (fun σ_1 eσ_1 H locs hG => ?_)
  have hf := hf.2 σ_1 eσ_1
  refine lv_aload_n hx hb d_10_readsCell_44 rfl (lv_at hl 0 rfl) ?_
  refine gf_10_16 S hG hk_r0 d_10_readsCell_45 ?_
  refine lv_bipush (v := (43 : Int32)) hx hb d_10_readsCell_48 (by decide) ?_
  refine lv_iload_n hx hb d_10_readsCell_50 rfl (lv_at hl 1 rfl) ?_
  refine lv_iload_n hx hb d_10_readsCell_51 rfl (lv_at hl 2 rfl) ?_
  refine iv_10_33 S hl.1 hG  (c_10_placeOf l  hf) ⟨Nat.le_of_ble_eq_true rfl, Nat.le_of_ble_eq_true rfl⟩ (Nat.le_of_ble_eq_true rfl) d_10_readsCell_52 (fun v_3 σ_2 hf H locs hG => ?_)
  refine lv_iadd hx hb d_10_readsCell_55 ?_
  refine lv_iload_n hx hb d_10_readsCell_56 rfl (lv_at hl 3 rfl) ?_
  refine lv_if_eq (tgt := 64) hx hb d_10_readsCell_57 (by decide) (fun hc => ?_) (fun hc => ?_)
  · have hf := hf.1 hc
    refine lv_iconst (v := (0 : Int32)) hx hb d_10_readsCell_64 (by decide) ?_
    exact w_10_readsCell_65 S hR hk_r0  (kr_10_7 hk_r0)  hG (lv_sub hl [0] rfl) hf
  · have hf := hf.2 hc
    refine lv_iconst (v := (1 : Int32)) hx hb d_10_readsCell_60 (by decide) ?_
    refine lv_goto (tgt := 65) hx hb d_10_readsCell_61 (by decide) ?_
    exact w_10_readsCell_65 S hR hk_r0  (kr_10_7 hk_r0)  hG (lv_sub hl [0] rfl) hf
set_option maxHeartbeats 4000000 in
set_option maxRecDepth 100000 in
theorem w_10_readsCell_12 {r0 : Nat} {x1 : Int32} {x2 : Int32} {Q : St → Prop} {t0 : Int32} {σ : St} {H : Heap} {locs : List Loc} {ls : Array Slot} (S : SC A D ac st p m c prog_12_method_31_code 4 s args "SweeperRoundsModel" R cells slots 2 42) (hR : RtV A D ac ad p l e R s m args below meth c prog_12_method_31_code cells slots QW Q) (hk_r0 : kd r0 = 10) (hG : DG A D ac ad s σ H locs) (hl : lv_has ls 4 [(0, .ref (ad r0)), (1, .int x1), (2, .int x2)]) (hf : m_10_readsCell_12 r0 x1 x2 Q t0 σ) : W p l e R s m args below meth c H locs cells slots QW (F0 m 12 ls [.int t0]) := by
  have hx := S.1.1
  have hb := S.1.2.1
  unfold m_10_readsCell_12 at hf
  refine lv_istore_n (lv' := [(3, .int t0), (0, .ref (ad r0)), (1, .int x1), (2, .int x2)]) hx hb d_10_readsCell_12 rfl hl (by decide) rfl (fun ls hl => ?_)
  refine lv_aload_n hx hb d_10_readsCell_13 rfl (lv_at hl 1 rfl) ?_
  refine gf_10_16 S hG hk_r0 d_10_readsCell_14 ?_
  refine lv_iconst (v := (3 : Int32)) hx hb d_10_readsCell_17 (by decide) ?_
  refine lv_iload_n hx hb d_10_readsCell_18 rfl (lv_at hl 2 rfl) ?_
  refine lv_iload_n hx hb d_10_readsCell_19 rfl (lv_at hl 3 rfl) ?_
  refine iv_10_33 S hl.1 hG  (c_10_placeOf l  hf) ⟨Nat.le_of_ble_eq_true rfl, Nat.le_of_ble_eq_true rfl⟩ (Nat.le_of_ble_eq_true rfl) d_10_readsCell_20 (fun v_2 σ_1 hf H locs hG => ?_)
  refine lv_iadd hx hb d_10_readsCell_23 ?_
  refine lv_bipush (v := (10 : Int32)) hx hb d_10_readsCell_24 (by decide) ?_
  refine lv_aload_n hx hb d_10_readsCell_26 rfl (lv_at hl 1 rfl) ?_
  refine iv_10_81 S hl.1 hG hk_r0 (c_10_here l hk_r0 hf) ⟨Nat.le_of_ble_eq_true rfl, Nat.le_of_ble_eq_true rfl⟩ (Nat.le_of_ble_eq_true rfl) d_10_readsCell_27 (fun v_4 σ_3 hf H locs hG => ?_)
  refine lv_iload_n hx hb d_10_readsCell_30 rfl (lv_at hl 0 rfl) ?_
  refine lv_if_eq (tgt := 39) hx hb d_10_readsCell_31 (by decide) (fun hc => ?_) (fun hc => ?_)
  · have hf := hf.1 hc
    refine lv_bipush (v := (48 : Int32)) hx hb d_10_readsCell_39 (by decide) ?_
    exact w_10_readsCell_41 S hR hk_r0  (kr_10_7 hk_r0)  hG (lv_sub hl [1, 2, 3, 0] rfl) hf
  · have hf := hf.2 hc
    refine lv_bipush (v := (97 : Int32)) hx hb d_10_readsCell_34 (by decide) ?_
    refine lv_goto (tgt := 41) hx hb d_10_readsCell_36 (by decide) ?_
    exact w_10_readsCell_41 S hR hk_r0  (kr_10_7 hk_r0)  hG (lv_sub hl [1, 2, 3, 0] rfl) hf
set_option maxHeartbeats 4000000 in
set_option maxRecDepth 100000 in
theorem w_10_readsCell_0 {r0 : Nat} {x1 : Int32} {x2 : Int32} {Q : St → Prop} {σ : St} {H : Heap} {locs : List Loc} {ls : Array Slot} (S : SC A D ac st p m c prog_12_method_31_code 4 s args "SweeperRoundsModel" R cells slots 2 42) (hR : RtV A D ac ad p l e R s m args below meth c prog_12_method_31_code cells slots QW Q) (hk_r0 : kd r0 = 10) (hG : DG A D ac ad s σ H locs) (hl : lv_has ls 4 [(0, .ref (ad r0)), (1, .int x1), (2, .int x2)]) (hf : m_10_readsCell r0 x1 x2 Q σ) : W p l e R s m args below meth c H locs cells slots QW (F0 m 0 ls []) := by
  have hx := S.1.1
  have hb := S.1.2.1
  unfold m_10_readsCell at hf
  refine lv_aload_n hx hb d_10_readsCell_0 rfl (lv_at hl 0 rfl) ?_
  refine iv_10_95 S hl.1 hG hk_r0 (c_10_isDigit l hk_r0 hf) ⟨Nat.le_of_ble_eq_true rfl, Nat.le_of_ble_eq_true rfl⟩ (Nat.le_of_ble_eq_true rfl) d_10_readsCell_1 (fun v_2 σ_1 hf H locs hG => ?_)
  refine lv_if_ne (tgt := 11) hx hb d_10_readsCell_4 (by decide) (fun hc => ?_) (fun hc => ?_)
  · have hf := hf.1 hc
    refine lv_iconst (v := (0 : Int32)) hx hb d_10_readsCell_11 (by decide) ?_
    exact w_10_readsCell_12 S hR hk_r0    hG (lv_sub hl [0, 1, 2] rfl) hf
  · have hf := hf.2 hc
    refine lv_iconst (v := (1 : Int32)) hx hb d_10_readsCell_7 (by decide) ?_
    refine lv_goto (tgt := 12) hx hb d_10_readsCell_8 (by decide) ?_
    exact w_10_readsCell_12 S hR hk_r0    hG (lv_sub hl [0, 1, 2] rfl) hf
theorem c_10_readsCell (l : Launch) {D : va_G} {ac : Nat → ClassId} {ad st : Nat → Nat} {A : Nat → Prop} {σ : St} {r0 : Nat} {x1 : Int32} {x2 : Int32} {Q : St → Prop} (hk_r0 : kd r0 = 10) (hf : m_10_readsCell r0 x1 x2 Q σ) : Met l y_10_readsCell (Cond.code y_10_readsCell prog_12_method_31_code 4 none :: wA) { frames := 2, cells := 0, slots := 0, locals := 42 } (va_Pc [.ref (ad r0), .int x1, .int x2] (GSt A D ac ad st σ)) (va_Qv Q (GSt A D ac ad st) A) 0 0 A :=
  mkV l (by decide +kernel) rfl [.ref (ad r0), .int x1, .int x2] (Nat.le_of_ble_eq_true rfl) (fun p e s m args below meth c ls QW S hR hG hl => w_10_readsCell_0 S hR hk_r0 hG hl hf)
set_option maxHeartbeats 4000000 in
set_option maxRecDepth 100000 in
theorem w_10_readsSides_47 {r0 : Nat} {Q : Int32 → St → Prop} {σ : St} {H : Heap} {locs : List Loc} {ls : Array Slot} (S : SC A D ac st p m c prog_12_method_32_code 3 s args "SweeperRoundsModel" R cells slots 3 65) (hR : RtZ A D ac ad p l e R s m args below meth c prog_12_method_32_code cells slots QW Q) (hk_r0 : kd r0 = 10) (hG : DG A D ac ad s σ H locs) (hl : lv_has ls 3 [(0, .ref (ad r0))]) (hf : m_10_readsSides_47 r0 Q σ) : W p l e R s m args below meth c H locs cells slots QW (F0 m 47 ls []) := by
  have hx := S.1.1
  have hb := S.1.2.1
  unfold m_10_readsSides_47 at hf
  refine lv_aload_n hx hb d_10_readsSides_47 rfl (lv_at hl 0 rfl) ?_
  refine lv_iconst (v := (1 : Int32)) hx hb d_10_readsSides_48 (by decide) ?_
  refine lv_aload_n hx hb d_10_readsSides_49 rfl (lv_at hl 0 rfl) ?_
  refine gf_10_78 S hG hk_r0 d_10_readsSides_50 ?_
  refine iv_10_91 S hl.1 hG hk_r0 (c_10_fails l hk_r0 hf) ⟨Nat.le_of_ble_eq_true rfl, Nat.le_of_ble_eq_true rfl⟩ (Nat.le_of_ble_eq_true rfl) d_10_readsSides_53 (fun v_2 σ_1 hf H locs hG => ?_)
  exact hR _ _ _ _ _ _ hG hf.1 hf.2 d_10_readsSides_56
set_option maxHeartbeats 4000000 in
set_option maxRecDepth 100000 in
theorem w_10_readsSides_59 {r0 : Nat} {x1 : Int32} {Q : Int32 → St → Prop} {B59 : Int32 → St → Prop} {x2 : Int32} {σ : St} {H : Heap} {locs : List Loc} {ls : Array Slot} (S : SC A D ac st p m c prog_12_method_32_code 3 s args "SweeperRoundsModel" R cells slots 3 65) (hR : RtZ A D ac ad p l e R s m args below meth c prog_12_method_32_code cells slots QW Q) (hk_r0 : kd r0 = 10) (hB59 : ∀ (x2 : Int32) (σ : St) (H : Heap) (locs : List Loc) (ls : Array Slot), DG A D ac ad s σ H locs → lv_has ls 3 [(0, .ref (ad r0)), (1, .int x1), (2, .int x2)] → B59 x2 σ → W p l e R s m args below meth c H locs cells slots QW (F0 m 59 ls [])) (hG : DG A D ac ad s σ H locs) (hl : lv_has ls 3 [(0, .ref (ad r0)), (1, .int x1), (2, .int x2)]) (hf : m_10_readsSides_59 r0 x1 Q B59 x2 σ) : W p l e R s m args below meth c H locs cells slots QW (F0 m 59 ls []) := by
  have hx := S.1.1
  have hb := S.1.2.1
  unfold m_10_readsSides_59 at hf
  refine lv_iload_n hx hb d_10_readsSides_59 rfl (lv_at hl 2 rfl) ?_
  refine lv_iload_n hx hb d_10_readsSides_60 rfl (lv_at hl 1 rfl) ?_
  refine lv_icmp_ge (tgt := 93) hx hb d_10_readsSides_61 (by decide) (fun hc => ?_) (fun hc => ?_)
  · have hf := hf.1 hc
    refine lv_aload_n hx hb d_10_readsSides_93 rfl (lv_at hl 0 rfl) ?_
    refine gf_10_78 S hG hk_r0 d_10_readsSides_94 ?_
    refine lv_aload_n hx hb d_10_readsSides_97 rfl (lv_at hl 0 rfl) ?_
    refine gf_10_75 S hG hk_r0 d_10_readsSides_98 ?_
    refine lv_icmp_eq (tgt := 116) hx hb d_10_readsSides_101 (by decide) (fun hc => ?_) (fun hc => ?_)
    · have hf := hf.1 hc
      refine lv_iconst (v := (1 : Int32)) hx hb d_10_readsSides_116 (by decide) ?_
      refine lv_goto (tgt := 121) hx hb d_10_readsSides_117 (by decide) ?_
      exact hR _ _ _ _ _ _ hG (by unfold isB; decide) hf d_10_readsSides_121
    · have hf := hf.2 hc
      refine lv_aload_n hx hb d_10_readsSides_104 rfl (lv_at hl 0 rfl) ?_
      refine lv_iconst (v := (1 : Int32)) hx hb d_10_readsSides_105 (by decide) ?_
      refine lv_aload_n hx hb d_10_readsSides_106 rfl (lv_at hl 0 rfl) ?_
      refine gf_10_78 S hG hk_r0 d_10_readsSides_107 ?_
      refine iv_10_91 S hl.1 hG hk_r0 (c_10_fails l hk_r0 hf) ⟨Nat.le_of_ble_eq_true rfl, Nat.le_of_ble_eq_true rfl⟩ (Nat.le_of_ble_eq_true rfl) d_10_readsSides_110 (fun v_2 σ_1 hf H locs hG => ?_)
      refine lv_if_eq (tgt := 120) hx hb d_10_readsSides_113 (by decide) (fun hc => ?_) (fun hc => ?_)
      · have hf := hf.1 hc
        refine lv_iconst (v := (0 : Int32)) hx hb d_10_readsSides_120 (by decide) ?_
        exact hR _ _ _ _ _ _ hG (by unfold isB; decide) hf d_10_readsSides_121
      · have hf := hf.2 hc
        refine lv_iconst (v := (1 : Int32)) hx hb d_10_readsSides_116 (by decide) ?_
        refine lv_goto (tgt := 121) hx hb d_10_readsSides_117 (by decide) ?_
        exact hR _ _ _ _ _ _ hG (by unfold isB; decide) hf d_10_readsSides_121
  · have hf := hf.2 hc
    refine lv_aload_n hx hb d_10_readsSides_64 rfl (lv_at hl 0 rfl) ?_
    refine iv_10_102 S hl.1 hG hk_r0 (c_10_isCellHere l hk_r0 hf) ⟨Nat.le_of_ble_eq_true rfl, Nat.le_of_ble_eq_true rfl⟩ (Nat.le_of_ble_eq_true rfl) d_10_readsSides_65 (fun v_4 σ_3 hf H locs hG => ?_)
    refine lv_if_ne (tgt := 81) hx hb d_10_readsSides_68 (by decide) (fun hc => ?_) (fun hc => ?_)
    · have hf := hf.1 hc
      refine lv_aload_n hx hb d_10_readsSides_81 rfl (lv_at hl 0 rfl) ?_
      refine lv_iconst (v := (1 : Int32)) hx hb d_10_readsSides_82 (by decide) ?_
      refine lv_iload_n hx hb d_10_readsSides_83 rfl (lv_at hl 2 rfl) ?_
      refine iv_10_105 S hl.1 hG hk_r0 (c_10_readsCell l hk_r0 hf) ⟨Nat.le_of_ble_eq_true rfl, Nat.le_of_ble_eq_true rfl⟩ (Nat.le_of_ble_eq_true rfl) d_10_readsSides_84 (fun σ_5 hf H locs hG => ?_)
      obtain ⟨x2_7, ex2_7⟩ : ∃ y : Int32, y = x2 + 1 := ⟨_, rfl⟩
      have hf := hf x2_7 ex2_7
      refine lv_iinc (v := x2_7) (lv' := [(2, .int x2_7), (0, .ref (ad r0)), (1, .int x1)]) hx hb d_10_readsSides_87 hl (k := 2) rfl (by rw [ex2_7]; rfl) (by decide) rfl (fun ls hl => ?_)
      refine lv_goto (tgt := 59) hx hb d_10_readsSides_90 (by decide) ?_
      exact hB59 _ _ _ _ _  hG (lv_sub hl [1, 2, 0] rfl) hf
    · have hf := hf.2 hc
      refine lv_aload_n hx hb d_10_readsSides_71 rfl (lv_at hl 0 rfl) ?_
      refine lv_iconst (v := (1 : Int32)) hx hb d_10_readsSides_72 (by decide) ?_
      refine lv_aload_n hx hb d_10_readsSides_73 rfl (lv_at hl 0 rfl) ?_
      refine gf_10_78 S hG hk_r0 d_10_readsSides_74 ?_
      refine iv_10_91 S hl.1 hG hk_r0 (c_10_fails l hk_r0 hf) ⟨Nat.le_of_ble_eq_true rfl, Nat.le_of_ble_eq_true rfl⟩ (Nat.le_of_ble_eq_true rfl) d_10_readsSides_77 (fun v_9 σ_8 hf H locs hG => ?_)
      exact hR _ _ _ _ _ _ hG hf.1 hf.2 d_10_readsSides_80
set_option maxHeartbeats 4000000 in
set_option maxRecDepth 100000 in
theorem lp_10_readsSides_59 {r0 : Nat} {x1 : Int32} {Q : Int32 → St → Prop} (S : SC A D ac st p m c prog_12_method_32_code 3 s args "SweeperRoundsModel" R cells slots 3 65) (hR : RtZ A D ac ad p l e R s m args below meth c prog_12_method_32_code cells slots QW Q) (hk_r0 : kd r0 = 10) : ∀ (n : Nat) (x2 : Int32) (σ : St) (H : Heap) (locs : List Loc) (ls : Array Slot), DG A D ac ad s σ H locs → lv_has ls 3 [(0, .ref (ad r0)), (1, .int x1), (2, .int x2)] → itN (m_10_readsSides_59 r0 x1 Q) (fun _ _ => False) n x2 σ → W p l e R s m args below meth c H locs cells slots QW (F0 m 59 ls []) := by
  intro n
  induction n with
  | zero =>
    intro x2 σ H locs ls  hG hl hf
    exact hf.elim
  | succ n ih =>
    intro x2 σ H locs ls  hG hl hf
    exact w_10_readsSides_59 S hR hk_r0  ih hG hl hf
set_option maxHeartbeats 4000000 in
set_option maxRecDepth 100000 in
theorem w_10_readsSides_27 {r0 : Nat} {x1 : Int32} {Q : Int32 → St → Prop} {σ : St} {H : Heap} {locs : List Loc} {ls : Array Slot} (S : SC A D ac st p m c prog_12_method_32_code 3 s args "SweeperRoundsModel" R cells slots 3 65) (hR : RtZ A D ac ad p l e R s m args below meth c prog_12_method_32_code cells slots QW Q) (hk_r0 : kd r0 = 10) (hG : DG A D ac ad s σ H locs) (hl : lv_has ls 3 [(0, .ref (ad r0)), (1, .int x1)]) (hf : m_10_readsSides_27 r0 x1 Q σ) : W p l e R s m args below meth c H locs cells slots QW (F0 m 27 ls []) := by
  have hx := S.1.1
  have hb := S.1.2.1
  unfold m_10_readsSides_27 at hf
  refine lv_aload_n hx hb d_10_readsSides_27 rfl (lv_at hl 0 rfl) ?_
  refine gf_10_16 S hG hk_r0 d_10_readsSides_28 ?_
  refine lv_iconst (v := (0 : Int32)) hx hb d_10_readsSides_31 (by decide) ?_
  refine lv_iload_n hx hb d_10_readsSides_32 rfl (lv_at hl 1 rfl) ?_
  refine mis S hG 32 rfl rfl (kr_10_7 hk_r0) hf.1 d_10_readsSides_33 (fun σ_1 eσ_1 H locs hG => ?_)
  have hf := hf.2 σ_1 eσ_1
  refine lv_iload_n hx hb d_10_readsSides_34 rfl (lv_at hl 1 rfl) ?_
  refine lv_if_eq (tgt := 47) hx hb d_10_readsSides_35 (by decide) (fun hc => ?_) (fun hc => ?_)
  · have hf := hf.1 hc
    exact w_10_readsSides_47 S hR hk_r0    hG (lv_sub hl [0] rfl) hf
  · have hf := hf.2 hc
    refine lv_aload_n hx hb d_10_readsSides_38 rfl (lv_at hl 0 rfl) ?_
    refine lv_bipush (v := (47 : Int32)) hx hb d_10_readsSides_39 (by decide) ?_
    refine iv_10_99 S hl.1 hG hk_r0 (c_10_takes l hk_r0 hf) ⟨Nat.le_of_ble_eq_true rfl, Nat.le_of_ble_eq_true rfl⟩ (Nat.le_of_ble_eq_true rfl) d_10_readsSides_41 (fun v_3 σ_2 hf H locs hG => ?_)
    refine lv_if_ne (tgt := 57) hx hb d_10_readsSides_44 (by decide) (fun hc => ?_) (fun hc => ?_)
    · have hf := hf.1 hc
      refine lv_iconst (v := (0 : Int32)) hx hb d_10_readsSides_57 (by decide) ?_
      refine lv_istore_n (lv' := [(2, .int (0 : Int32)), (0, .ref (ad r0)), (1, .int x1)]) hx hb d_10_readsSides_58 rfl hl (by decide) rfl (fun ls hl => ?_)
      exact lp_10_readsSides_59 S hR hk_r0  FU _ _ _ _ _  hG (lv_sub hl [1, 2, 0] rfl) hf
    · have hf := hf.2 hc
      exact w_10_readsSides_47 S hR hk_r0    hG (lv_sub hl [0] rfl) hf
set_option maxHeartbeats 4000000 in
set_option maxRecDepth 100000 in
theorem w_10_readsSides_2 {r0 : Nat} {Q : Int32 → St → Prop} {B2 : Int32 → St → Prop} {x1 : Int32} {σ : St} {H : Heap} {locs : List Loc} {ls : Array Slot} (S : SC A D ac st p m c prog_12_method_32_code 3 s args "SweeperRoundsModel" R cells slots 3 65) (hR : RtZ A D ac ad p l e R s m args below meth c prog_12_method_32_code cells slots QW Q) (hk_r0 : kd r0 = 10) (hB2 : ∀ (x1 : Int32) (σ : St) (H : Heap) (locs : List Loc) (ls : Array Slot), DG A D ac ad s σ H locs → lv_has ls 3 [(0, .ref (ad r0)), (1, .int x1)] → B2 x1 σ → W p l e R s m args below meth c H locs cells slots QW (F0 m 2 ls [])) (hG : DG A D ac ad s σ H locs) (hl : lv_has ls 3 [(0, .ref (ad r0)), (1, .int x1)]) (hf : m_10_readsSides_2 r0 Q B2 x1 σ) : W p l e R s m args below meth c H locs cells slots QW (F0 m 2 ls []) := by
  have hx := S.1.1
  have hb := S.1.2.1
  unfold m_10_readsSides_2 at hf
  refine lv_iload_n hx hb d_10_readsSides_2 rfl (lv_at hl 1 rfl) ?_
  refine lv_bipush (v := (20 : Int32)) hx hb d_10_readsSides_3 (by decide) ?_
  refine lv_icmp_ge (tgt := 27) hx hb d_10_readsSides_5 (by decide) (fun hc => ?_) (fun hc => ?_)
  · have hf := hf.1 hc
    exact w_10_readsSides_27 S hR hk_r0    hG (lv_sub hl [0, 1] rfl) hf
  · have hf := hf.2 hc
    refine lv_aload_n hx hb d_10_readsSides_8 rfl (lv_at hl 0 rfl) ?_
    refine iv_10_102 S hl.1 hG hk_r0 (c_10_isCellHere l hk_r0 hf) ⟨Nat.le_of_ble_eq_true rfl, Nat.le_of_ble_eq_true rfl⟩ (Nat.le_of_ble_eq_true rfl) d_10_readsSides_9 (fun v_2 σ_1 hf H locs hG => ?_)
    refine lv_if_eq (tgt := 27) hx hb d_10_readsSides_12 (by decide) (fun hc => ?_) (fun hc => ?_)
    · have hf := hf.1 hc
      exact w_10_readsSides_27 S hR hk_r0    hG (lv_sub hl [0, 1] rfl) hf
    · have hf := hf.2 hc
      refine lv_aload_n hx hb d_10_readsSides_15 rfl (lv_at hl 0 rfl) ?_
      refine lv_iconst (v := (0 : Int32)) hx hb d_10_readsSides_16 (by decide) ?_
      refine lv_iload_n hx hb d_10_readsSides_17 rfl (lv_at hl 1 rfl) ?_
      refine iv_10_105 S hl.1 hG hk_r0 (c_10_readsCell l hk_r0 hf) ⟨Nat.le_of_ble_eq_true rfl, Nat.le_of_ble_eq_true rfl⟩ (Nat.le_of_ble_eq_true rfl) d_10_readsSides_18 (fun σ_3 hf H locs hG => ?_)
      obtain ⟨x1_5, ex1_5⟩ : ∃ y : Int32, y = x1 + 1 := ⟨_, rfl⟩
      have hf := hf x1_5 ex1_5
      refine lv_iinc (v := x1_5) (lv' := [(1, .int x1_5), (0, .ref (ad r0))]) hx hb d_10_readsSides_21 hl (k := 1) rfl (by rw [ex1_5]; rfl) (by decide) rfl (fun ls hl => ?_)
      refine lv_goto (tgt := 2) hx hb d_10_readsSides_24 (by decide) ?_
      exact hB2 _ _ _ _ _  hG (lv_sub hl [1, 0] rfl) hf
set_option maxHeartbeats 4000000 in
set_option maxRecDepth 100000 in
theorem lp_10_readsSides_2 {r0 : Nat} {Q : Int32 → St → Prop} (S : SC A D ac st p m c prog_12_method_32_code 3 s args "SweeperRoundsModel" R cells slots 3 65) (hR : RtZ A D ac ad p l e R s m args below meth c prog_12_method_32_code cells slots QW Q) (hk_r0 : kd r0 = 10) : ∀ (n : Nat) (x1 : Int32) (σ : St) (H : Heap) (locs : List Loc) (ls : Array Slot), DG A D ac ad s σ H locs → lv_has ls 3 [(0, .ref (ad r0)), (1, .int x1)] → itN (m_10_readsSides_2 r0 Q) (fun _ _ => False) n x1 σ → W p l e R s m args below meth c H locs cells slots QW (F0 m 2 ls []) := by
  intro n
  induction n with
  | zero =>
    intro x1 σ H locs ls  hG hl hf
    exact hf.elim
  | succ n ih =>
    intro x1 σ H locs ls  hG hl hf
    exact w_10_readsSides_2 S hR hk_r0  ih hG hl hf
set_option maxHeartbeats 4000000 in
set_option maxRecDepth 100000 in
theorem w_10_readsSides_0 {r0 : Nat} {Q : Int32 → St → Prop} {σ : St} {H : Heap} {locs : List Loc} {ls : Array Slot} (S : SC A D ac st p m c prog_12_method_32_code 3 s args "SweeperRoundsModel" R cells slots 3 65) (hR : RtZ A D ac ad p l e R s m args below meth c prog_12_method_32_code cells slots QW Q) (hk_r0 : kd r0 = 10) (hG : DG A D ac ad s σ H locs) (hl : lv_has ls 3 [(0, .ref (ad r0))]) (hf : m_10_readsSides r0 Q σ) : W p l e R s m args below meth c H locs cells slots QW (F0 m 0 ls []) := by
  have hx := S.1.1
  have hb := S.1.2.1
  unfold m_10_readsSides at hf
  refine lv_iconst (v := (0 : Int32)) hx hb d_10_readsSides_0 (by decide) ?_
  refine lv_istore_n (lv' := [(1, .int (0 : Int32)), (0, .ref (ad r0))]) hx hb d_10_readsSides_1 rfl hl (by decide) rfl (fun ls hl => ?_)
  exact lp_10_readsSides_2 S hR hk_r0  FU _ _ _ _ _  hG (lv_sub hl [1, 0] rfl) hf
theorem c_10_readsSides (l : Launch) {D : va_G} {ac : Nat → ClassId} {ad st : Nat → Nat} {A : Nat → Prop} {σ : St} {r0 : Nat} {Q : Int32 → St → Prop} (hk_r0 : kd r0 = 10) (hf : m_10_readsSides r0 Q σ) : Met l y_10_readsSides (Cond.code y_10_readsSides prog_12_method_32_code 3 (some .boolean) :: wA) { frames := 3, cells := 0, slots := 0, locals := 65 } (va_Pc [.ref (ad r0)] (GSt A D ac ad st σ)) (va_Qi Q (GSt A D ac ad st) A) 0 0 A :=
  mkZ l (by decide +kernel) rfl [.ref (ad r0)] (Nat.le_of_ble_eq_true rfl) (fun p e s m args below meth c ls QW S hR hG hl => w_10_readsSides_0 S hR hk_r0 hG hl hf)
set_option maxHeartbeats 4000000 in
set_option maxRecDepth 100000 in
theorem w_10_load_143 {r0 : Nat} {x1 : Int32} {Q : Int32 → St → Prop} {B143 : Int32 → St → Prop} {x2 : Int32} {σ : St} {H : Heap} {locs : List Loc} {ls : Array Slot} (S : SC A D ac st p m c prog_12_method_33_code 4 s args "SweeperRoundsModel" R cells slots 4 87) (hR : RtI A D ac ad p l e R s m args below meth c prog_12_method_33_code cells slots QW Q) (hk_r0 : kd r0 = 10) (hB143 : ∀ (x2 : Int32) (σ : St) (H : Heap) (locs : List Loc) (ls : Array Slot), DG A D ac ad s σ H locs → lv_has ls 4 [(0, .ref (ad r0)), (1, .int x1), (2, .int x2)] → B143 x2 σ → W p l e R s m args below meth c H locs cells slots QW (F0 m 143 ls [])) (hG : DG A D ac ad s σ H locs) (hl : lv_has ls 4 [(0, .ref (ad r0)), (1, .int x1), (2, .int x2)]) (hf : m_10_load_143 r0 x1 Q B143 x2 σ) : W p l e R s m args below meth c H locs cells slots QW (F0 m 143 ls []) := by
  have hx := S.1.1
  have hb := S.1.2.1
  unfold m_10_load_143 at hf
  refine lv_iload_n hx hb d_10_load_143 rfl (lv_at hl 2 rfl) ?_
  refine lv_iconst (v := (2 : Int32)) hx hb d_10_load_144 (by decide) ?_
  refine lv_aload_n hx hb d_10_load_145 rfl (lv_at hl 0 rfl) ?_
  refine gf_10_16 S hG hk_r0 d_10_load_146 ?_
  refine lv_iconst (v := (0 : Int32)) hx hb d_10_load_149 (by decide) ?_
  refine mia S hG 32 rfl rfl (kr_10_7 hk_r0) hf.1 d_10_load_150 ?_
  have hf := hf.2
  refine lv_imul hx hb d_10_load_151 ?_
  refine lv_icmp_ge (tgt := 205) hx hb d_10_load_152 (by decide) (fun hc => ?_) (fun hc => ?_)
  · have hf := hf.1 hc
    refine lv_aload_n hx hb d_10_load_205 rfl (lv_at hl 0 rfl) ?_
    refine lv_iconst (v := (0 : Int32)) hx hb d_10_load_206 (by decide) ?_
    refine lv_aload_n hx hb d_10_load_207 rfl (lv_at hl 0 rfl) ?_
    refine lv_iload_n hx hb d_10_load_208 rfl (lv_at hl 1 rfl) ?_
    refine lv_iconst (v := (0 : Int32)) hx hb d_10_load_209 (by decide) ?_
    refine iv_10_63 S hl.1 hG hk_r0 (c_10_sideSum l hk_r0 hf) ⟨Nat.le_of_ble_eq_true rfl, Nat.le_of_ble_eq_true rfl⟩ (Nat.le_of_ble_eq_true rfl) d_10_load_210 (fun v_2 σ_1 hf H locs hG => ?_)
    refine lv_aload_n hx hb d_10_load_213 rfl (lv_at hl 0 rfl) ?_
    refine lv_iload_n hx hb d_10_load_214 rfl (lv_at hl 1 rfl) ?_
    refine lv_iconst (v := (1 : Int32)) hx hb d_10_load_215 (by decide) ?_
    refine iv_10_63 S hl.1 hG hk_r0 (c_10_sideSum l hk_r0 hf) ⟨Nat.le_of_ble_eq_true rfl, Nat.le_of_ble_eq_true rfl⟩ (Nat.le_of_ble_eq_true rfl) d_10_load_216 (fun v_4 σ_3 hf H locs hG => ?_)
    refine lv_iadd hx hb d_10_load_219 ?_
    refine iv_10_66 S hl.1 hG hk_r0 (c_10_books l hk_r0 hf) ⟨Nat.le_of_ble_eq_true rfl, Nat.le_of_ble_eq_true rfl⟩ (Nat.le_of_ble_eq_true rfl) d_10_load_220 (fun σ_5 hf H locs hG => ?_)
    refine lv_aload_n hx hb d_10_load_223 rfl (lv_at hl 0 rfl) ?_
    refine gf_10_16 S hG hk_r0 d_10_load_224 ?_
    refine lv_iconst (v := (0 : Int32)) hx hb d_10_load_227 (by decide) ?_
    refine mia S hG 32 rfl rfl (kr_10_7 hk_r0) hf.1 d_10_load_228 ?_
    have hf := hf.2
    exact hR _ _ _ _ _ _ hG hf d_10_load_229
  · have hf := hf.2 hc
    refine lv_iload_n hx hb d_10_load_155 rfl (lv_at hl 2 rfl) ?_
    refine lv_iconst (v := (2 : Int32)) hx hb d_10_load_156 (by decide) ?_
    refine lv_irem hx hb d_10_load_157 (by decide) ?_
    refine lv_iload_n hx hb d_10_load_158 rfl (lv_at hl 2 rfl) ?_
    refine lv_iconst (v := (2 : Int32)) hx hb d_10_load_159 (by decide) ?_
    refine lv_idiv hx hb d_10_load_160 (by decide) ?_
    refine iv_10_33 S hl.1 hG  (c_10_placeOf l  hf) ⟨Nat.le_of_ble_eq_true rfl, Nat.le_of_ble_eq_true rfl⟩ (Nat.le_of_ble_eq_true rfl) d_10_load_161 (fun v_8 σ_7 hf H locs hG => ?_)
    refine lv_istore_n (lv' := [(3, .int v_8), (0, .ref (ad r0)), (1, .int x1), (2, .int x2)]) hx hb d_10_load_164 rfl hl (by decide) rfl (fun ls hl => ?_)
    refine lv_aload_n hx hb d_10_load_165 rfl (lv_at hl 1 rfl) ?_
    refine lv_iload_n hx hb d_10_load_166 rfl (lv_at hl 2 rfl) ?_
    refine lv_iconst (v := (3 : Int32)) hx hb d_10_load_167 (by decide) ?_
    refine lv_iload_n hx hb d_10_load_168 rfl (lv_at hl 0 rfl) ?_
    refine lv_iadd hx hb d_10_load_169 ?_
    refine lv_aload_n hx hb d_10_load_170 rfl (lv_at hl 1 rfl) ?_
    refine gf_10_16 S hG hk_r0 d_10_load_171 ?_
    refine lv_iconst (v := (3 : Int32)) hx hb d_10_load_174 (by decide) ?_
    refine lv_iload_n hx hb d_10_load_175 rfl (lv_at hl 0 rfl) ?_
    refine lv_iadd hx hb d_10_load_176 ?_
    refine mia S hG 32 rfl rfl (kr_10_7 hk_r0) hf.1 d_10_load_177 ?_
    have hf := hf.2
    refine iv_10_52 S hl.1 hG hk_r0 (c_10_sets l hk_r0 hf) ⟨Nat.le_of_ble_eq_true rfl, Nat.le_of_ble_eq_true rfl⟩ (Nat.le_of_ble_eq_true rfl) d_10_load_178 (fun σ_9 hf H locs hG => ?_)
    refine lv_aload_n hx hb d_10_load_181 rfl (lv_at hl 1 rfl) ?_
    refine lv_iload_n hx hb d_10_load_182 rfl (lv_at hl 2 rfl) ?_
    refine lv_bipush (v := (43 : Int32)) hx hb d_10_load_183 (by decide) ?_
    refine lv_iload_n hx hb d_10_load_185 rfl (lv_at hl 0 rfl) ?_
    refine lv_iadd hx hb d_10_load_186 ?_
    refine lv_aload_n hx hb d_10_load_187 rfl (lv_at hl 1 rfl) ?_
    refine gf_10_16 S hG hk_r0 d_10_load_188 ?_
    refine lv_bipush (v := (43 : Int32)) hx hb d_10_load_191 (by decide) ?_
    refine lv_iload_n hx hb d_10_load_193 rfl (lv_at hl 0 rfl) ?_
    refine lv_iadd hx hb d_10_load_194 ?_
    refine mia S hG 32 rfl rfl (kr_10_7 hk_r0) hf.1 d_10_load_195 ?_
    have hf := hf.2
    refine iv_10_52 S hl.1 hG hk_r0 (c_10_sets l hk_r0 hf) ⟨Nat.le_of_ble_eq_true rfl, Nat.le_of_ble_eq_true rfl⟩ (Nat.le_of_ble_eq_true rfl) d_10_load_196 (fun σ_11 hf H locs hG => ?_)
    obtain ⟨x2_13, ex2_13⟩ : ∃ y : Int32, y = x2 + 1 := ⟨_, rfl⟩
    have hf := hf x2_13 ex2_13
    refine lv_iinc (v := x2_13) (lv' := [(2, .int x2_13), (3, .int v_8), (0, .ref (ad r0)), (1, .int x1)]) hx hb d_10_load_199 hl (k := 3) rfl (by rw [ex2_13]; rfl) (by decide) rfl (fun ls hl => ?_)
    refine lv_goto (tgt := 143) hx hb d_10_load_202 (by decide) ?_
    exact hB143 _ _ _ _ _  hG (lv_sub hl [2, 3, 0] rfl) hf
set_option maxHeartbeats 4000000 in
set_option maxRecDepth 100000 in
theorem lp_10_load_143 {r0 : Nat} {x1 : Int32} {Q : Int32 → St → Prop} (S : SC A D ac st p m c prog_12_method_33_code 4 s args "SweeperRoundsModel" R cells slots 4 87) (hR : RtI A D ac ad p l e R s m args below meth c prog_12_method_33_code cells slots QW Q) (hk_r0 : kd r0 = 10) : ∀ (n : Nat) (x2 : Int32) (σ : St) (H : Heap) (locs : List Loc) (ls : Array Slot), DG A D ac ad s σ H locs → lv_has ls 4 [(0, .ref (ad r0)), (1, .int x1), (2, .int x2)] → itN (m_10_load_143 r0 x1 Q) (fun _ _ => False) n x2 σ → W p l e R s m args below meth c H locs cells slots QW (F0 m 143 ls []) := by
  intro n
  induction n with
  | zero =>
    intro x2 σ H locs ls  hG hl hf
    exact hf.elim
  | succ n ih =>
    intro x2 σ H locs ls  hG hl hf
    exact w_10_load_143 S hR hk_r0  ih hG hl hf
set_option maxHeartbeats 4000000 in
set_option maxRecDepth 100000 in
theorem w_10_load_118 {r0 : Nat} {x1 : Int32} {Q : Int32 → St → Prop} {σ : St} {H : Heap} {locs : List Loc} {ls : Array Slot} (S : SC A D ac st p m c prog_12_method_33_code 4 s args "SweeperRoundsModel" R cells slots 4 87) (hR : RtI A D ac ad p l e R s m args below meth c prog_12_method_33_code cells slots QW Q) (hk_r0 : kd r0 = 10) (hG : DG A D ac ad s σ H locs) (hl : lv_has ls 4 [(0, .ref (ad r0)), (1, .int x1)]) (hf : m_10_load_118 r0 x1 Q σ) : W p l e R s m args below meth c H locs cells slots QW (F0 m 118 ls []) := by
  have hx := S.1.1
  have hb := S.1.2.1
  unfold m_10_load_118 at hf
  refine lv_aload_n hx hb d_10_load_118 rfl (lv_at hl 0 rfl) ?_
  refine lv_iload_n hx hb d_10_load_119 rfl (lv_at hl 1 rfl) ?_
  refine lv_aload_n hx hb d_10_load_120 rfl (lv_at hl 0 rfl) ?_
  refine gf_10_16 S hG hk_r0 d_10_load_121 ?_
  refine lv_iconst (v := (0 : Int32)) hx hb d_10_load_124 (by decide) ?_
  refine mia S hG 32 rfl rfl (kr_10_7 hk_r0) hf.1 d_10_load_125 ?_
  have hf := hf.2
  refine lv_aload_n hx hb d_10_load_126 rfl (lv_at hl 0 rfl) ?_
  refine gf_10_16 S hG hk_r0 d_10_load_127 ?_
  refine lv_iconst (v := (1 : Int32)) hx hb d_10_load_130 (by decide) ?_
  refine mia S hG 32 rfl rfl (kr_10_7 hk_r0) hf.1 d_10_load_131 ?_
  have hf := hf.2
  refine lv_aload_n hx hb d_10_load_132 rfl (lv_at hl 0 rfl) ?_
  refine gf_10_16 S hG hk_r0 d_10_load_133 ?_
  refine lv_iconst (v := (2 : Int32)) hx hb d_10_load_136 (by decide) ?_
  refine mia S hG 32 rfl rfl (kr_10_7 hk_r0) hf.1 d_10_load_137 ?_
  have hf := hf.2
  refine iv_10_59 S hl.1 hG hk_r0 (c_10_empties l hk_r0 hf) ⟨Nat.le_of_ble_eq_true rfl, Nat.le_of_ble_eq_true rfl⟩ (Nat.le_of_ble_eq_true rfl) d_10_load_138 (fun σ_1 hf H locs hG => ?_)
  refine lv_iconst (v := (0 : Int32)) hx hb d_10_load_141 (by decide) ?_
  refine lv_istore_n (lv' := [(2, .int (0 : Int32)), (0, .ref (ad r0)), (1, .int x1)]) hx hb d_10_load_142 rfl hl (by decide) rfl (fun ls hl => ?_)
  exact lp_10_load_143 S hR hk_r0  FU _ _ _ _ _  hG (lv_sub hl [1, 2, 0] rfl) hf
set_option maxHeartbeats 4000000 in
set_option maxRecDepth 100000 in
theorem w_10_load_0 {r0 : Nat} {x1 : Int32} {Q : Int32 → St → Prop} {σ : St} {H : Heap} {locs : List Loc} {ls : Array Slot} (S : SC A D ac st p m c prog_12_method_33_code 4 s args "SweeperRoundsModel" R cells slots 4 87) (hR : RtI A D ac ad p l e R s m args below meth c prog_12_method_33_code cells slots QW Q) (hk_r0 : kd r0 = 10) (hG : DG A D ac ad s σ H locs) (hl : lv_has ls 4 [(0, .ref (ad r0)), (1, .int x1)]) (hf : m_10_load r0 x1 Q σ) : W p l e R s m args below meth c H locs cells slots QW (F0 m 0 ls []) := by
  have hx := S.1.1
  have hb := S.1.2.1
  unfold m_10_load at hf
  refine lv_iload_n hx hb d_10_load_0 rfl (lv_at hl 1 rfl) ?_
  refine lv_iconst (v := (0 : Int32)) hx hb d_10_load_1 (by decide) ?_
  refine lv_aload_n hx hb d_10_load_2 rfl (lv_at hl 0 rfl) ?_
  refine gf_10_7 S hG hk_r0 d_10_load_3 ?_
  refine lv_iconst (v := (0 : Int32)) hx hb d_10_load_6 (by decide) ?_
  refine mia S hG 30 rfl rfl (kr_10_0 hk_r0) hf.1 d_10_load_7 ?_
  have hf := hf.2
  refine iv_10_40 S hl.1 hG  (c_10_in l  hf) ⟨Nat.le_of_ble_eq_true rfl, Nat.le_of_ble_eq_true rfl⟩ (Nat.le_of_ble_eq_true rfl) d_10_load_8 (fun v_2 σ_1 hf H locs hG => ?_)
  refine lv_if_ne (tgt := 16) hx hb d_10_load_11 (by decide) (fun hc => ?_) (fun hc => ?_)
  · have hf := hf.1 hc
    refine lv_iload_n hx hb d_10_load_16 rfl (lv_at hl 1 rfl) ?_
    refine lv_bipush (v := (6 : Int32)) hx hb d_10_load_17 (by decide) ?_
    refine lv_icmp_ne (tgt := 25) hx hb d_10_load_19 (by decide) (fun hc => ?_) (fun hc => ?_)
    · have hf := hf.1 hc
      refine lv_aload_n hx hb d_10_load_25 rfl (lv_at hl 0 rfl) ?_
      refine lv_iconst (v := (0 : Int32)) hx hb d_10_load_26 (by decide) ?_
      refine pf_10_85 S hG hk_r0 d_10_load_27 (fun σ_3 eσ_3 H locs hG => ?_)
      have hf := hf σ_3 eσ_3
      refine lv_aload_n hx hb d_10_load_30 rfl (lv_at hl 0 rfl) ?_
      refine lv_iconst (v := (0 : Int32)) hx hb d_10_load_31 (by decide) ?_
      refine pf_10_78 S hG hk_r0 d_10_load_32 (fun σ_4 eσ_4 H locs hG => ?_)
      have hf := hf σ_4 eσ_4
      refine lv_aload_n hx hb d_10_load_35 rfl (lv_at hl 0 rfl) ?_
      refine iv_10_108 S hl.1 hG hk_r0 (c_10_readsDistance l hk_r0 hf) ⟨Nat.le_of_ble_eq_true rfl, Nat.le_of_ble_eq_true rfl⟩ (Nat.le_of_ble_eq_true rfl) d_10_load_36 (fun v_6 σ_5 hf H locs hG => ?_)
      refine lv_if_eq (tgt := 56) hx hb d_10_load_39 (by decide) (fun hc => ?_) (fun hc => ?_)
      · have hf := hf.1 hc
        refine lv_bipush (v := (-10 : Int32)) hx hb d_10_load_56 (by decide) ?_
        refine lv_aload_n hx hb d_10_load_58 rfl (lv_at hl 0 rfl) ?_
        refine gf_10_88 S hG hk_r0 d_10_load_59 ?_
        refine lv_isub hx hb d_10_load_62 ?_
        exact hR _ _ _ _ _ _ hG hf d_10_load_63
      · have hf := hf.2 hc
        refine lv_aload_n hx hb d_10_load_42 rfl (lv_at hl 0 rfl) ?_
        refine iv_10_111 S hl.1 hG hk_r0 (c_10_readsTrees l hk_r0 hf) ⟨Nat.le_of_ble_eq_true rfl, Nat.le_of_ble_eq_true rfl⟩ (Nat.le_of_ble_eq_true rfl) d_10_load_43 (fun v_8 σ_7 hf H locs hG => ?_)
        refine lv_if_eq (tgt := 56) hx hb d_10_load_46 (by decide) (fun hc => ?_) (fun hc => ?_)
        · have hf := hf.1 hc
          refine lv_bipush (v := (-10 : Int32)) hx hb d_10_load_56 (by decide) ?_
          refine lv_aload_n hx hb d_10_load_58 rfl (lv_at hl 0 rfl) ?_
          refine gf_10_88 S hG hk_r0 d_10_load_59 ?_
          refine lv_isub hx hb d_10_load_62 ?_
          exact hR _ _ _ _ _ _ hG hf d_10_load_63
        · have hf := hf.2 hc
          refine lv_aload_n hx hb d_10_load_49 rfl (lv_at hl 0 rfl) ?_
          refine iv_10_114 S hl.1 hG hk_r0 (c_10_readsSides l hk_r0 hf) ⟨Nat.le_of_ble_eq_true rfl, Nat.le_of_ble_eq_true rfl⟩ (Nat.le_of_ble_eq_true rfl) d_10_load_50 (fun v_10 σ_9 hf H locs hG => ?_)
          refine lv_if_ne (tgt := 64) hx hb d_10_load_53 (by decide) (fun hc => ?_) (fun hc => ?_)
          · have hf := hf.1 hc
            refine lv_aload_n hx hb d_10_load_64 rfl (lv_at hl 0 rfl) ?_
            refine iv_10_56 S hl.1 hG hk_r0 (c_10_records l hk_r0 hf) ⟨Nat.le_of_ble_eq_true rfl, Nat.le_of_ble_eq_true rfl⟩ (Nat.le_of_ble_eq_true rfl) d_10_load_65 (fun σ_11 hf H locs hG => ?_)
            refine lv_aload_n hx hb d_10_load_68 rfl (lv_at hl 0 rfl) ?_
            refine gf_10_7 S hG hk_r0 d_10_load_69 ?_
            refine lv_sipush (v := (548 : Int32)) hx hb d_10_load_72 (by decide) ?_
            refine lv_iconst (v := (0 : Int32)) hx hb d_10_load_75 (by decide) ?_
            refine mis S hG 30 rfl rfl (kr_10_0 hk_r0) hf.1 d_10_load_76 (fun σ_13 eσ_13 H locs hG => ?_)
            have hf := hf.2 σ_13 eσ_13
            refine lv_iload_n hx hb d_10_load_77 rfl (lv_at hl 1 rfl) ?_
            refine lv_aload_n hx hb d_10_load_78 rfl (lv_at hl 0 rfl) ?_
            refine gf_10_7 S hG hk_r0 d_10_load_79 ?_
            refine lv_iconst (v := (0 : Int32)) hx hb d_10_load_82 (by decide) ?_
            refine mia S hG 30 rfl rfl (kr_10_0 hk_r0) hf.1 d_10_load_83 ?_
            have hf := hf.2
            refine lv_icmp_ne (tgt := 100) hx hb d_10_load_84 (by decide) (fun hc => ?_) (fun hc => ?_)
            · have hf := hf.1 hc
              refine lv_aload_n hx hb d_10_load_100 rfl (lv_at hl 0 rfl) ?_
              refine lv_iconst (v := (2 : Int32)) hx hb d_10_load_101 (by decide) ?_
              refine lv_aload_n hx hb d_10_load_102 rfl (lv_at hl 0 rfl) ?_
              refine lv_iload_n hx hb d_10_load_103 rfl (lv_at hl 1 rfl) ?_
              refine lv_iconst (v := (0 : Int32)) hx hb d_10_load_104 (by decide) ?_
              refine iv_10_63 S hl.1 hG hk_r0 (c_10_sideSum l hk_r0 hf) ⟨Nat.le_of_ble_eq_true rfl, Nat.le_of_ble_eq_true rfl⟩ (Nat.le_of_ble_eq_true rfl) d_10_load_105 (fun v_15 σ_14 hf H locs hG => ?_)
              refine lv_aload_n hx hb d_10_load_108 rfl (lv_at hl 0 rfl) ?_
              refine lv_iload_n hx hb d_10_load_109 rfl (lv_at hl 1 rfl) ?_
              refine lv_iconst (v := (1 : Int32)) hx hb d_10_load_110 (by decide) ?_
              refine iv_10_63 S hl.1 hG hk_r0 (c_10_sideSum l hk_r0 hf) ⟨Nat.le_of_ble_eq_true rfl, Nat.le_of_ble_eq_true rfl⟩ (Nat.le_of_ble_eq_true rfl) d_10_load_111 (fun v_17 σ_16 hf H locs hG => ?_)
              refine lv_iadd hx hb d_10_load_114 ?_
              refine iv_10_66 S hl.1 hG hk_r0 (c_10_books l hk_r0 hf) ⟨Nat.le_of_ble_eq_true rfl, Nat.le_of_ble_eq_true rfl⟩ (Nat.le_of_ble_eq_true rfl) d_10_load_115 (fun σ_18 hf H locs hG => ?_)
              exact w_10_load_118 S hR hk_r0    hG (lv_sub hl [0, 1] rfl) hf
            · have hf := hf.2 hc
              refine lv_aload_n hx hb d_10_load_87 rfl (lv_at hl 0 rfl) ?_
              refine gf_10_7 S hG hk_r0 d_10_load_88 ?_
              refine lv_iconst (v := (0 : Int32)) hx hb d_10_load_91 (by decide) ?_
              refine lv_dup2_11 hx hb d_10_load_92 rfl rfl ?_
              refine mia S hG 30 rfl rfl (kr_10_0 hk_r0) hf.1 d_10_load_93 ?_
              have hf := hf.2
              refine lv_iconst (v := (1 : Int32)) hx hb d_10_load_94 (by decide) ?_
              refine lv_iadd hx hb d_10_load_95 ?_
              refine mis S hG 30 rfl rfl (kr_10_0 hk_r0) hf.1 d_10_load_96 (fun σ_20 eσ_20 H locs hG => ?_)
              have hf := hf.2 σ_20 eσ_20
              refine lv_goto (tgt := 118) hx hb d_10_load_97 (by decide) ?_
              exact w_10_load_118 S hR hk_r0    hG (lv_sub hl [0, 1] rfl) hf
          · have hf := hf.2 hc
            refine lv_bipush (v := (-10 : Int32)) hx hb d_10_load_56 (by decide) ?_
            refine lv_aload_n hx hb d_10_load_58 rfl (lv_at hl 0 rfl) ?_
            refine gf_10_88 S hG hk_r0 d_10_load_59 ?_
            refine lv_isub hx hb d_10_load_62 ?_
            exact hR _ _ _ _ _ _ hG hf d_10_load_63
    · have hf := hf.2 hc
      refine lv_bipush (v := (-3 : Int32)) hx hb d_10_load_22 (by decide) ?_
      exact hR _ _ _ _ _ _ hG hf d_10_load_24
  · have hf := hf.2 hc
    refine lv_iconst (v := (-1 : Int32)) hx hb d_10_load_14 (by decide) ?_
    exact hR _ _ _ _ _ _ hG hf d_10_load_15
theorem c_10_load (l : Launch) {D : va_G} {ac : Nat → ClassId} {ad st : Nat → Nat} {A : Nat → Prop} {σ : St} {r0 : Nat} {x1 : Int32} {Q : Int32 → St → Prop} (hk_r0 : kd r0 = 10) (hf : m_10_load r0 x1 Q σ) : Met l y_10_load (Cond.code y_10_load prog_12_method_33_code 4 (some .int) :: wA) { frames := 4, cells := 0, slots := 0, locals := 87 } (va_Pc [.ref (ad r0), .int x1] (GSt A D ac ad st σ)) (va_Qi Q (GSt A D ac ad st) A) 0 0 A :=
  mkI l (by decide +kernel) rfl [.ref (ad r0), .int x1] (Nat.le_of_ble_eq_true rfl) (fun p e s m args below meth c ls QW S hR hG hl => w_10_load_0 S hR hk_r0 hG hl hf)
set_option maxHeartbeats 4000000 in
set_option maxRecDepth 100000 in
theorem w_10_faultKind_0 {r0 : Nat} {Q : Int32 → St → Prop} {σ : St} {H : Heap} {locs : List Loc} {ls : Array Slot} (S : SC A D ac st p m c prog_12_method_34_code 1 s args "SweeperRoundsModel" R cells slots 0 0) (hR : RtI A D ac ad p l e R s m args below meth c prog_12_method_34_code cells slots QW Q) (hk_r0 : kd r0 = 10) (hG : DG A D ac ad s σ H locs) (hl : lv_has ls 1 [(0, .ref (ad r0))]) (hf : m_10_faultKind r0 Q σ) : W p l e R s m args below meth c H locs cells slots QW (F0 m 0 ls []) := by
  have hx := S.1.1
  have hb := S.1.2.1
  unfold m_10_faultKind at hf
  refine lv_aload_n hx hb d_10_faultKind_0 rfl (lv_at hl 0 rfl) ?_
  refine gf_10_85 S hG hk_r0 d_10_faultKind_1 ?_
  exact hR _ _ _ _ _ _ hG hf d_10_faultKind_4
theorem c_10_faultKind (l : Launch) {D : va_G} {ac : Nat → ClassId} {ad st : Nat → Nat} {A : Nat → Prop} {σ : St} {r0 : Nat} {Q : Int32 → St → Prop} (hk_r0 : kd r0 = 10) (hf : m_10_faultKind r0 Q σ) : Met l y_10_faultKind (Cond.code y_10_faultKind prog_12_method_34_code 1 (some .int) :: wA) { frames := 0, cells := 0, slots := 0, locals := 0 } (va_Pc [.ref (ad r0)] (GSt A D ac ad st σ)) (va_Qi Q (GSt A D ac ad st) A) 0 0 A :=
  mkI l (by decide +kernel) rfl [.ref (ad r0)] (Nat.le_of_ble_eq_true rfl) (fun p e s m args below meth c ls QW S hR hG hl => w_10_faultKind_0 S hR hk_r0 hG hl hf)
set_option maxHeartbeats 4000000 in
set_option maxRecDepth 100000 in
theorem w_10_grip_0 {r0 : Nat} {Q : Int32 → St → Prop} {σ : St} {H : Heap} {locs : List Loc} {ls : Array Slot} (S : SC A D ac st p m c prog_12_method_35_code 1 s args "SweeperRoundsModel" R cells slots 0 0) (hR : RtI A D ac ad p l e R s m args below meth c prog_12_method_35_code cells slots QW Q) (hk_r0 : kd r0 = 10) (hG : DG A D ac ad s σ H locs) (hl : lv_has ls 1 [(0, .ref (ad r0))]) (hf : m_10_grip r0 Q σ) : W p l e R s m args below meth c H locs cells slots QW (F0 m 0 ls []) := by
  have hx := S.1.1
  have hb := S.1.2.1
  unfold m_10_grip at hf
  refine lv_bipush (v := (100 : Int32)) hx hb d_10_grip_0 (by decide) ?_
  refine lv_bipush (v := (15 : Int32)) hx hb d_10_grip_2 (by decide) ?_
  refine lv_aload_n hx hb d_10_grip_4 rfl (lv_at hl 0 rfl) ?_
  refine gf_10_7 S hG hk_r0 d_10_grip_5 ?_
  refine lv_sipush (v := (499 : Int32)) hx hb d_10_grip_8 (by decide) ?_
  refine mia S hG 30 rfl rfl (kr_10_0 hk_r0) hf.1 d_10_grip_11 ?_
  have hf := hf.2
  refine lv_iconst (v := (1 : Int32)) hx hb d_10_grip_12 (by decide) ?_
  refine lv_isub hx hb d_10_grip_13 ?_
  refine lv_imul hx hb d_10_grip_14 ?_
  refine lv_isub hx hb d_10_grip_15 ?_
  refine lv_aload_n hx hb d_10_grip_16 rfl (lv_at hl 0 rfl) ?_
  refine gf_10_7 S hG hk_r0 d_10_grip_17 ?_
  refine lv_sipush (v := (505 : Int32)) hx hb d_10_grip_20 (by decide) ?_
  refine mia S hG 30 rfl rfl (kr_10_0 hk_r0) hf.1 d_10_grip_23 ?_
  have hf := hf.2
  refine lv_imul hx hb d_10_grip_24 ?_
  refine lv_sipush (v := (1000 : Int32)) hx hb d_10_grip_25 (by decide) ?_
  refine lv_idiv hx hb d_10_grip_28 (by decide) ?_
  exact hR _ _ _ _ _ _ hG hf d_10_grip_29
theorem c_10_grip (l : Launch) {D : va_G} {ac : Nat → ClassId} {ad st : Nat → Nat} {A : Nat → Prop} {σ : St} {r0 : Nat} {Q : Int32 → St → Prop} (hk_r0 : kd r0 = 10) (hf : m_10_grip r0 Q σ) : Met l y_10_grip (Cond.code y_10_grip prog_12_method_35_code 1 (some .int) :: wA) { frames := 0, cells := 0, slots := 0, locals := 0 } (va_Pc [.ref (ad r0)] (GSt A D ac ad st σ)) (va_Qi Q (GSt A D ac ad st) A) 0 0 A :=
  mkI l (by decide +kernel) rfl [.ref (ad r0)] (Nat.le_of_ble_eq_true rfl) (fun p e s m args below meth c ls QW S hR hG hl => w_10_grip_0 S hR hk_r0 hG hl hf)
set_option maxHeartbeats 4000000 in
set_option maxRecDepth 100000 in
theorem w_10_room_0 {r0 : Nat} {Q : Int32 → St → Prop} {σ : St} {H : Heap} {locs : List Loc} {ls : Array Slot} (S : SC A D ac st p m c prog_12_method_36_code 1 s args "SweeperRoundsModel" R cells slots 0 0) (hR : RtI A D ac ad p l e R s m args below meth c prog_12_method_36_code cells slots QW Q) (hk_r0 : kd r0 = 10) (hG : DG A D ac ad s σ H locs) (hl : lv_has ls 1 [(0, .ref (ad r0))]) (hf : m_10_room r0 Q σ) : W p l e R s m args below meth c H locs cells slots QW (F0 m 0 ls []) := by
  have hx := S.1.1
  have hb := S.1.2.1
  unfold m_10_room at hf
  refine lv_aload_n hx hb d_10_room_0 rfl (lv_at hl 0 rfl) ?_
  refine gf_10_7 S hG hk_r0 d_10_room_1 ?_
  refine lv_sipush (v := (500 : Int32)) hx hb d_10_room_4 (by decide) ?_
  refine mia S hG 30 rfl rfl (kr_10_0 hk_r0) hf.1 d_10_room_7 ?_
  have hf := hf.2
  refine lv_aload_n hx hb d_10_room_8 rfl (lv_at hl 0 rfl) ?_
  refine gf_10_7 S hG hk_r0 d_10_room_9 ?_
  refine lv_sipush (v := (506 : Int32)) hx hb d_10_room_12 (by decide) ?_
  refine mia S hG 30 rfl rfl (kr_10_0 hk_r0) hf.1 d_10_room_15 ?_
  have hf := hf.2
  refine lv_isub hx hb d_10_room_16 ?_
  exact hR _ _ _ _ _ _ hG hf d_10_room_17
theorem c_10_room (l : Launch) {D : va_G} {ac : Nat → ClassId} {ad st : Nat → Nat} {A : Nat → Prop} {σ : St} {r0 : Nat} {Q : Int32 → St → Prop} (hk_r0 : kd r0 = 10) (hf : m_10_room r0 Q σ) : Met l y_10_room (Cond.code y_10_room prog_12_method_36_code 1 (some .int) :: wA) { frames := 0, cells := 0, slots := 0, locals := 0 } (va_Pc [.ref (ad r0)] (GSt A D ac ad st σ)) (va_Qi Q (GSt A D ac ad st) A) 0 0 A :=
  mkI l (by decide +kernel) rfl [.ref (ad r0)] (Nat.le_of_ble_eq_true rfl) (fun p e s m args below meth c ls QW S hR hG hl => w_10_room_0 S hR hk_r0 hG hl hf)
set_option maxHeartbeats 4000000 in
set_option maxRecDepth 100000 in
theorem w_10_could_0 {r0 : Nat} {x1 : Int32} {x2 : Int32} {x3 : Int32} {Q : Int32 → St → Prop} {σ : St} {H : Heap} {locs : List Loc} {ls : Array Slot} (S : SC A D ac st p m c prog_12_method_37_code 4 s args "SweeperRoundsModel" R cells slots 2 45) (hR : RtI A D ac ad p l e R s m args below meth c prog_12_method_37_code cells slots QW Q) (hk_r0 : kd r0 = 10) (hG : DG A D ac ad s σ H locs) (hl : lv_has ls 4 [(0, .ref (ad r0)), (1, .int x1), (2, .int x2), (3, .int x3)]) (hf : m_10_could r0 x1 x2 x3 Q σ) : W p l e R s m args below meth c H locs cells slots QW (F0 m 0 ls []) := by
  have hx := S.1.1
  have hb := S.1.2.1
  unfold m_10_could at hf
  refine lv_aload_n hx hb d_10_could_0 rfl (lv_at hl 0 rfl) ?_
  refine lv_iload_n hx hb d_10_could_1 rfl (lv_at hl 1 rfl) ?_
  refine lv_iload_n hx hb d_10_could_2 rfl (lv_at hl 2 rfl) ?_
  refine lv_iload_n hx hb d_10_could_3 rfl (lv_at hl 3 rfl) ?_
  refine iv_10_117 S hl.1 hG hk_r0 (c_10_isParked l hk_r0 hf) ⟨Nat.le_of_ble_eq_true rfl, Nat.le_of_ble_eq_true rfl⟩ (Nat.le_of_ble_eq_true rfl) d_10_could_4 (fun v_2 σ_1 hf H locs hG => ?_)
  refine lv_if_eq (tgt := 14) hx hb d_10_could_7 (by decide) (fun hc => ?_) (fun hc => ?_)
  · have hf := hf.1 hc
    refine lv_aload_n hx hb d_10_could_14 rfl (lv_at hl 0 rfl) ?_
    refine lv_iload_n hx hb d_10_could_15 rfl (lv_at hl 1 rfl) ?_
    refine lv_iload_n hx hb d_10_could_16 rfl (lv_at hl 2 rfl) ?_
    refine lv_iload_n hx hb d_10_could_17 rfl (lv_at hl 3 rfl) ?_
    refine iv_10_48 S hl.1 hG hk_r0 (c_10_dirtOf l hk_r0 hf) ⟨Nat.le_of_ble_eq_true rfl, Nat.le_of_ble_eq_true rfl⟩ (Nat.le_of_ble_eq_true rfl) d_10_could_18 (fun v_4 σ_3 hf H locs hG => ?_)
    refine lv_aload_n hx hb d_10_could_21 rfl (lv_at hl 0 rfl) ?_
    refine iv_10_120 S hl.1 hG hk_r0 (c_10_grip l hk_r0 hf) ⟨Nat.le_of_ble_eq_true rfl, Nat.le_of_ble_eq_true rfl⟩ (Nat.le_of_ble_eq_true rfl) d_10_could_22 (fun v_6 σ_5 hf H locs hG => ?_)
    refine lv_imul hx hb d_10_could_25 ?_
    refine lv_bipush (v := (100 : Int32)) hx hb d_10_could_26 (by decide) ?_
    refine lv_idiv hx hb d_10_could_28 (by decide) ?_
    exact hR _ _ _ _ _ _ hG hf d_10_could_29
  · have hf := hf.2 hc
    refine lv_iconst (v := (0 : Int32)) hx hb d_10_could_10 (by decide) ?_
    refine lv_goto (tgt := 29) hx hb d_10_could_11 (by decide) ?_
    exact hR _ _ _ _ _ _ hG hf d_10_could_29
theorem c_10_could (l : Launch) {D : va_G} {ac : Nat → ClassId} {ad st : Nat → Nat} {A : Nat → Prop} {σ : St} {r0 : Nat} {x1 : Int32} {x2 : Int32} {x3 : Int32} {Q : Int32 → St → Prop} (hk_r0 : kd r0 = 10) (hf : m_10_could r0 x1 x2 x3 Q σ) : Met l y_10_could (Cond.code y_10_could prog_12_method_37_code 4 (some .int) :: wA) { frames := 2, cells := 0, slots := 0, locals := 45 } (va_Pc [.ref (ad r0), .int x1, .int x2, .int x3] (GSt A D ac ad st σ)) (va_Qi Q (GSt A D ac ad st) A) 0 0 A :=
  mkI l (by decide +kernel) rfl [.ref (ad r0), .int x1, .int x2, .int x3] (Nat.le_of_ble_eq_true rfl) (fun p e s m args below meth c ls QW S hR hG hl => w_10_could_0 S hR hk_r0 hG hl hf)
set_option maxHeartbeats 4000000 in
set_option maxRecDepth 100000 in
theorem w_10_lesser_0 {x0 : Int32} {x1 : Int32} {Q : Int32 → St → Prop} {σ : St} {H : Heap} {locs : List Loc} {ls : Array Slot} (S : SC A D ac st p m c prog_12_method_38_code 2 s args "SweeperRoundsModel" R cells slots 0 0) (hR : RtI A D ac ad p l e R s m args below meth c prog_12_method_38_code cells slots QW Q) (hG : DG A D ac ad s σ H locs) (hl : lv_has ls 2 [(0, .int x0), (1, .int x1)]) (hf : m_10_lesser x0 x1 Q σ) : W p l e R s m args below meth c H locs cells slots QW (F0 m 0 ls []) := by
  have hx := S.1.1
  have hb := S.1.2.1
  unfold m_10_lesser at hf
  refine lv_iload_n hx hb d_10_lesser_0 rfl (lv_at hl 0 rfl) ?_
  refine lv_iload_n hx hb d_10_lesser_1 rfl (lv_at hl 1 rfl) ?_
  refine lv_icmp_ge (tgt := 9) hx hb d_10_lesser_2 (by decide) (fun hc => ?_) (fun hc => ?_)
  · have hf := hf.1 hc
    refine lv_iload_n hx hb d_10_lesser_9 rfl (lv_at hl 1 rfl) ?_
    exact hR _ _ _ _ _ _ hG hf d_10_lesser_10
  · have hf := hf.2 hc
    refine lv_iload_n hx hb d_10_lesser_5 rfl (lv_at hl 0 rfl) ?_
    refine lv_goto (tgt := 10) hx hb d_10_lesser_6 (by decide) ?_
    exact hR _ _ _ _ _ _ hG hf d_10_lesser_10
theorem c_10_lesser (l : Launch) {D : va_G} {ac : Nat → ClassId} {ad st : Nat → Nat} {A : Nat → Prop} {σ : St} {x0 : Int32} {x1 : Int32} {Q : Int32 → St → Prop} (hf : m_10_lesser x0 x1 Q σ) : Met l y_10_lesser (Cond.code y_10_lesser prog_12_method_38_code 2 (some .int) :: wA) { frames := 0, cells := 0, slots := 0, locals := 0 } (va_Pc [.int x0, .int x1] (GSt A D ac ad st σ)) (va_Qi Q (GSt A D ac ad st) A) 0 0 A :=
  mkI l (by decide +kernel) rfl [.int x0, .int x1] (Nat.le_of_ble_eq_true rfl) (fun p e s m args below meth c ls QW S hR hG hl => w_10_lesser_0 S hR hG hl hf)
set_option maxHeartbeats 4000000 in
set_option maxRecDepth 100000 in
theorem w_10_cell_0 {r0 : Nat} {x1 : Int32} {x2 : Int32} {x3 : Int32} {x4 : Int32} {Q : Int32 → St → Prop} {σ : St} {H : Heap} {locs : List Loc} {ls : Array Slot} (S : SC A D ac st p m c prog_12_method_39_code 5 s args "SweeperRoundsModel" R cells slots 3 68) (hR : RtI A D ac ad p l e R s m args below meth c prog_12_method_39_code cells slots QW Q) (hk_r0 : kd r0 = 10) (hG : DG A D ac ad s σ H locs) (hl : lv_has ls 5 [(0, .ref (ad r0)), (1, .int x1), (2, .int x2), (3, .int x3), (4, .int x4)]) (hf : m_10_cell r0 x1 x2 x3 x4 Q σ) : W p l e R s m args below meth c H locs cells slots QW (F0 m 0 ls []) := by
  have hx := S.1.1
  have hb := S.1.2.1
  unfold m_10_cell at hf
  refine lv_aload_n hx hb d_10_cell_0 rfl (lv_at hl 0 rfl) ?_
  refine lv_iload_n hx hb d_10_cell_1 rfl (lv_at hl 1 rfl) ?_
  refine lv_iload_n hx hb d_10_cell_2 rfl (lv_at hl 2 rfl) ?_
  refine lv_iload_n hx hb d_10_cell_3 rfl (lv_at hl 3 rfl) ?_
  refine iv_10_72 S hl.1 hG hk_r0 (c_10_isCell l hk_r0 hf) ⟨Nat.le_of_ble_eq_true rfl, Nat.le_of_ble_eq_true rfl⟩ (Nat.le_of_ble_eq_true rfl) d_10_cell_4 (fun v_2 σ_1 hf H locs hG => ?_)
  refine lv_if_eq (tgt := 20) hx hb d_10_cell_7 (by decide) (fun hc => ?_) (fun hc => ?_)
  · have hf := hf.1 hc
    refine lv_iconst (v := (-1 : Int32)) hx hb d_10_cell_20 (by decide) ?_
    exact hR _ _ _ _ _ _ hG hf d_10_cell_21
  · have hf := hf.2 hc
    refine lv_iload hx hb d_10_cell_10 (lv_at hl 4 rfl) ?_
    refine lv_iconst (v := (0 : Int32)) hx hb d_10_cell_12 (by decide) ?_
    refine lv_iconst (v := (2 : Int32)) hx hb d_10_cell_13 (by decide) ?_
    refine iv_10_40 S hl.1 hG  (c_10_in l  hf) ⟨Nat.le_of_ble_eq_true rfl, Nat.le_of_ble_eq_true rfl⟩ (Nat.le_of_ble_eq_true rfl) d_10_cell_14 (fun v_4 σ_3 hf H locs hG => ?_)
    refine lv_if_ne (tgt := 22) hx hb d_10_cell_17 (by decide) (fun hc => ?_) (fun hc => ?_)
    · have hf := hf.1 hc
      refine lv_iload hx hb d_10_cell_22 (lv_at hl 4 rfl) ?_
      refine lv_iconst (v := (2 : Int32)) hx hb d_10_cell_24 (by decide) ?_
      refine lv_icmp_ne (tgt := 43) hx hb d_10_cell_25 (by decide) (fun hc => ?_) (fun hc => ?_)
      · have hf := hf.1 hc
        refine lv_iload hx hb d_10_cell_43 (lv_at hl 4 rfl) ?_
        refine lv_if_ne (tgt := 58) hx hb d_10_cell_45 (by decide) (fun hc => ?_) (fun hc => ?_)
        · have hf := hf.1 hc
          refine lv_aload_n hx hb d_10_cell_58 rfl (lv_at hl 0 rfl) ?_
          refine lv_iload_n hx hb d_10_cell_59 rfl (lv_at hl 1 rfl) ?_
          refine lv_iload_n hx hb d_10_cell_60 rfl (lv_at hl 2 rfl) ?_
          refine lv_iload_n hx hb d_10_cell_61 rfl (lv_at hl 3 rfl) ?_
          refine iv_10_117 S hl.1 hG hk_r0 (c_10_isParked l hk_r0 hf) ⟨Nat.le_of_ble_eq_true rfl, Nat.le_of_ble_eq_true rfl⟩ (Nat.le_of_ble_eq_true rfl) d_10_cell_62 (fun v_6 σ_5 hf H locs hG => ?_)
          refine lv_if_eq (tgt := 72) hx hb d_10_cell_65 (by decide) (fun hc => ?_) (fun hc => ?_)
          · have hf := hf.1 hc
            refine lv_iconst (v := (0 : Int32)) hx hb d_10_cell_72 (by decide) ?_
            exact hR _ _ _ _ _ _ hG hf d_10_cell_73
          · have hf := hf.2 hc
            refine lv_iconst (v := (1 : Int32)) hx hb d_10_cell_68 (by decide) ?_
            refine lv_goto (tgt := 73) hx hb d_10_cell_69 (by decide) ?_
            exact hR _ _ _ _ _ _ hG hf d_10_cell_73
        · have hf := hf.2 hc
          refine lv_aload_n hx hb d_10_cell_48 rfl (lv_at hl 0 rfl) ?_
          refine lv_iload_n hx hb d_10_cell_49 rfl (lv_at hl 1 rfl) ?_
          refine lv_iload_n hx hb d_10_cell_50 rfl (lv_at hl 2 rfl) ?_
          refine lv_iload_n hx hb d_10_cell_51 rfl (lv_at hl 3 rfl) ?_
          refine iv_10_48 S hl.1 hG hk_r0 (c_10_dirtOf l hk_r0 hf) ⟨Nat.le_of_ble_eq_true rfl, Nat.le_of_ble_eq_true rfl⟩ (Nat.le_of_ble_eq_true rfl) d_10_cell_52 (fun v_8 σ_7 hf H locs hG => ?_)
          refine lv_goto (tgt := 73) hx hb d_10_cell_55 (by decide) ?_
          exact hR _ _ _ _ _ _ hG hf d_10_cell_73
      · have hf := hf.2 hc
        refine lv_aload_n hx hb d_10_cell_28 rfl (lv_at hl 0 rfl) ?_
        refine lv_iload_n hx hb d_10_cell_29 rfl (lv_at hl 1 rfl) ?_
        refine lv_iload_n hx hb d_10_cell_30 rfl (lv_at hl 2 rfl) ?_
        refine lv_iload_n hx hb d_10_cell_31 rfl (lv_at hl 3 rfl) ?_
        refine iv_10_123 S hl.1 hG hk_r0 (c_10_could l hk_r0 hf) ⟨Nat.le_of_ble_eq_true rfl, Nat.le_of_ble_eq_true rfl⟩ (Nat.le_of_ble_eq_true rfl) d_10_cell_32 (fun v_10 σ_9 hf H locs hG => ?_)
        refine lv_aload_n hx hb d_10_cell_35 rfl (lv_at hl 0 rfl) ?_
        refine iv_10_126 S hl.1 hG hk_r0 (c_10_room l hk_r0 hf) ⟨Nat.le_of_ble_eq_true rfl, Nat.le_of_ble_eq_true rfl⟩ (Nat.le_of_ble_eq_true rfl) d_10_cell_36 (fun v_12 σ_11 hf H locs hG => ?_)
        refine iv_10_129 S hl.1 hG  (c_10_lesser l  hf) ⟨Nat.le_of_ble_eq_true rfl, Nat.le_of_ble_eq_true rfl⟩ (Nat.le_of_ble_eq_true rfl) d_10_cell_39 (fun v_14 σ_13 hf H locs hG => ?_)
        exact hR _ _ _ _ _ _ hG hf d_10_cell_42
    · have hf := hf.2 hc
      refine lv_iconst (v := (-1 : Int32)) hx hb d_10_cell_20 (by decide) ?_
      exact hR _ _ _ _ _ _ hG hf d_10_cell_21
theorem c_10_cell (l : Launch) {D : va_G} {ac : Nat → ClassId} {ad st : Nat → Nat} {A : Nat → Prop} {σ : St} {r0 : Nat} {x1 : Int32} {x2 : Int32} {x3 : Int32} {x4 : Int32} {Q : Int32 → St → Prop} (hk_r0 : kd r0 = 10) (hf : m_10_cell r0 x1 x2 x3 x4 Q σ) : Met l y_10_cell (Cond.code y_10_cell prog_12_method_39_code 5 (some .int) :: wA) { frames := 3, cells := 0, slots := 0, locals := 68 } (va_Pc [.ref (ad r0), .int x1, .int x2, .int x3, .int x4] (GSt A D ac ad st σ)) (va_Qi Q (GSt A D ac ad st) A) 0 0 A :=
  mkI l (by decide +kernel) rfl [.ref (ad r0), .int x1, .int x2, .int x3, .int x4] (Nat.le_of_ble_eq_true rfl) (fun p e s m args below meth c ls QW S hR hG hl => w_10_cell_0 S hR hk_r0 hG hl hf)
set_option maxHeartbeats 4000000 in
set_option maxRecDepth 100000 in
theorem w_10_parkedIn_4 {r0 : Nat} {x1 : Int32} {Q : Int32 → St → Prop} {B4 : Int32 → Int32 → St → Prop} {x2 : Int32} {x3 : Int32} {σ : St} {H : Heap} {locs : List Loc} {ls : Array Slot} (S : SC A D ac st p m c prog_12_method_40_code 4 s args "SweeperRoundsModel" R cells slots 2 45) (hR : RtI A D ac ad p l e R s m args below meth c prog_12_method_40_code cells slots QW Q) (hk_r0 : kd r0 = 10) (hB4 : ∀ (x2 : Int32) (x3 : Int32) (σ : St) (H : Heap) (locs : List Loc) (ls : Array Slot), DG A D ac ad s σ H locs → lv_has ls 4 [(0, .ref (ad r0)), (1, .int x1), (2, .int x2), (3, .int x3)] → B4 x2 x3 σ → W p l e R s m args below meth c H locs cells slots QW (F0 m 4 ls [])) (hG : DG A D ac ad s σ H locs) (hl : lv_has ls 4 [(0, .ref (ad r0)), (1, .int x1), (2, .int x2), (3, .int x3)]) (hf : m_10_parkedIn_4 r0 x1 Q B4 x2 x3 σ) : W p l e R s m args below meth c H locs cells slots QW (F0 m 4 ls []) := by
  have hx := S.1.1
  have hb := S.1.2.1
  unfold m_10_parkedIn_4 at hf
  refine lv_iload_n hx hb d_10_parkedIn_4 rfl (lv_at hl 3 rfl) ?_
  refine lv_iconst (v := (2 : Int32)) hx hb d_10_parkedIn_5 (by decide) ?_
  refine lv_aload_n hx hb d_10_parkedIn_6 rfl (lv_at hl 0 rfl) ?_
  refine lv_iload_n hx hb d_10_parkedIn_7 rfl (lv_at hl 1 rfl) ?_
  refine lv_iconst (v := (0 : Int32)) hx hb d_10_parkedIn_8 (by decide) ?_
  refine iv_10_37 S hl.1 hG hk_r0 (c_10_of l hk_r0 hf) ⟨Nat.le_of_ble_eq_true rfl, Nat.le_of_ble_eq_true rfl⟩ (Nat.le_of_ble_eq_true rfl) d_10_parkedIn_9 (fun v_2 σ_1 hf H locs hG => ?_)
  refine lv_imul hx hb d_10_parkedIn_12 ?_
  refine lv_icmp_ge (tgt := 44) hx hb d_10_parkedIn_13 (by decide) (fun hc => ?_) (fun hc => ?_)
  · have hf := hf.1 hc
    refine lv_iload_n hx hb d_10_parkedIn_44 rfl (lv_at hl 2 rfl) ?_
    exact hR _ _ _ _ _ _ hG hf d_10_parkedIn_45
  · have hf := hf.2 hc
    refine lv_iload_n hx hb d_10_parkedIn_16 rfl (lv_at hl 2 rfl) ?_
    refine lv_aload_n hx hb d_10_parkedIn_17 rfl (lv_at hl 0 rfl) ?_
    refine lv_iload_n hx hb d_10_parkedIn_18 rfl (lv_at hl 1 rfl) ?_
    refine lv_iload_n hx hb d_10_parkedIn_19 rfl (lv_at hl 3 rfl) ?_
    refine lv_iconst (v := (2 : Int32)) hx hb d_10_parkedIn_20 (by decide) ?_
    refine lv_irem hx hb d_10_parkedIn_21 (by decide) ?_
    refine lv_iload_n hx hb d_10_parkedIn_22 rfl (lv_at hl 3 rfl) ?_
    refine lv_iconst (v := (2 : Int32)) hx hb d_10_parkedIn_23 (by decide) ?_
    refine lv_idiv hx hb d_10_parkedIn_24 (by decide) ?_
    refine iv_10_117 S hl.1 hG hk_r0 (c_10_isParked l hk_r0 hf) ⟨Nat.le_of_ble_eq_true rfl, Nat.le_of_ble_eq_true rfl⟩ (Nat.le_of_ble_eq_true rfl) d_10_parkedIn_25 (fun v_4 σ_3 hf H locs hG => ?_)
    refine lv_if_eq (tgt := 35) hx hb d_10_parkedIn_28 (by decide) (fun hc => ?_) (fun hc => ?_)
    · have hf := hf.1 hc
      refine lv_iconst (v := (0 : Int32)) hx hb d_10_parkedIn_35 (by decide) ?_
      refine lv_iadd hx hb d_10_parkedIn_36 ?_
      refine lv_topi (fun x2_5 ex2_5 => ?_)
      have hf := hf x2_5 ex2_5
      refine lv_istore_n (lv' := [(2, .int x2_5), (0, .ref (ad r0)), (1, .int x1), (3, .int x3)]) hx hb d_10_parkedIn_37 rfl hl (by decide) rfl (fun ls hl => ?_)
      obtain ⟨x3_6, ex3_6⟩ : ∃ y : Int32, y = x3 + 1 := ⟨_, rfl⟩
      have hf := hf x3_6 ex3_6
      refine lv_iinc (v := x3_6) (lv' := [(3, .int x3_6), (2, .int x2_5), (0, .ref (ad r0)), (1, .int x1)]) hx hb d_10_parkedIn_38 hl (k := 3) rfl (by rw [ex3_6]; rfl) (by decide) rfl (fun ls hl => ?_)
      refine lv_goto (tgt := 4) hx hb d_10_parkedIn_41 (by decide) ?_
      exact hB4 _ _ _ _ _ _  hG (lv_sub hl [2, 3, 1, 0] rfl) hf
    · have hf := hf.2 hc
      refine lv_iconst (v := (1 : Int32)) hx hb d_10_parkedIn_31 (by decide) ?_
      refine lv_goto (tgt := 36) hx hb d_10_parkedIn_32 (by decide) ?_
      refine lv_iadd hx hb d_10_parkedIn_36 ?_
      refine lv_topi (fun x2_7 ex2_7 => ?_)
      have hf := hf x2_7 ex2_7
      refine lv_istore_n (lv' := [(2, .int x2_7), (0, .ref (ad r0)), (1, .int x1), (3, .int x3)]) hx hb d_10_parkedIn_37 rfl hl (by decide) rfl (fun ls hl => ?_)
      obtain ⟨x3_8, ex3_8⟩ : ∃ y : Int32, y = x3 + 1 := ⟨_, rfl⟩
      have hf := hf x3_8 ex3_8
      refine lv_iinc (v := x3_8) (lv' := [(3, .int x3_8), (2, .int x2_7), (0, .ref (ad r0)), (1, .int x1)]) hx hb d_10_parkedIn_38 hl (k := 3) rfl (by rw [ex3_8]; rfl) (by decide) rfl (fun ls hl => ?_)
      refine lv_goto (tgt := 4) hx hb d_10_parkedIn_41 (by decide) ?_
      exact hB4 _ _ _ _ _ _  hG (lv_sub hl [2, 3, 1, 0] rfl) hf
set_option maxHeartbeats 4000000 in
set_option maxRecDepth 100000 in
theorem lp_10_parkedIn_4 {r0 : Nat} {x1 : Int32} {Q : Int32 → St → Prop} (S : SC A D ac st p m c prog_12_method_40_code 4 s args "SweeperRoundsModel" R cells slots 2 45) (hR : RtI A D ac ad p l e R s m args below meth c prog_12_method_40_code cells slots QW Q) (hk_r0 : kd r0 = 10) : ∀ (n : Nat) (x2 : Int32) (x3 : Int32) (σ : St) (H : Heap) (locs : List Loc) (ls : Array Slot), DG A D ac ad s σ H locs → lv_has ls 4 [(0, .ref (ad r0)), (1, .int x1), (2, .int x2), (3, .int x3)] → itN (m_10_parkedIn_4 r0 x1 Q) (fun _ _ _ => False) n x2 x3 σ → W p l e R s m args below meth c H locs cells slots QW (F0 m 4 ls []) := by
  intro n
  induction n with
  | zero =>
    intro x2 x3 σ H locs ls  hG hl hf
    exact hf.elim
  | succ n ih =>
    intro x2 x3 σ H locs ls  hG hl hf
    exact w_10_parkedIn_4 S hR hk_r0  ih hG hl hf
set_option maxHeartbeats 4000000 in
set_option maxRecDepth 100000 in
theorem w_10_parkedIn_0 {r0 : Nat} {x1 : Int32} {Q : Int32 → St → Prop} {σ : St} {H : Heap} {locs : List Loc} {ls : Array Slot} (S : SC A D ac st p m c prog_12_method_40_code 4 s args "SweeperRoundsModel" R cells slots 2 45) (hR : RtI A D ac ad p l e R s m args below meth c prog_12_method_40_code cells slots QW Q) (hk_r0 : kd r0 = 10) (hG : DG A D ac ad s σ H locs) (hl : lv_has ls 4 [(0, .ref (ad r0)), (1, .int x1)]) (hf : m_10_parkedIn r0 x1 Q σ) : W p l e R s m args below meth c H locs cells slots QW (F0 m 0 ls []) := by
  have hx := S.1.1
  have hb := S.1.2.1
  unfold m_10_parkedIn at hf
  refine lv_iconst (v := (0 : Int32)) hx hb d_10_parkedIn_0 (by decide) ?_
  refine lv_istore_n (lv' := [(2, .int (0 : Int32)), (0, .ref (ad r0)), (1, .int x1)]) hx hb d_10_parkedIn_1 rfl hl (by decide) rfl (fun ls hl => ?_)
  refine lv_iconst (v := (0 : Int32)) hx hb d_10_parkedIn_2 (by decide) ?_
  refine lv_istore_n (lv' := [(3, .int (0 : Int32)), (2, .int (0 : Int32)), (0, .ref (ad r0)), (1, .int x1)]) hx hb d_10_parkedIn_3 rfl hl (by decide) rfl (fun ls hl => ?_)
  exact lp_10_parkedIn_4 S hR hk_r0  FU _ _ _ _ _ _  hG (lv_sub hl [2, 3, 1, 0] rfl) hf
theorem c_10_parkedIn (l : Launch) {D : va_G} {ac : Nat → ClassId} {ad st : Nat → Nat} {A : Nat → Prop} {σ : St} {r0 : Nat} {x1 : Int32} {Q : Int32 → St → Prop} (hk_r0 : kd r0 = 10) (hf : m_10_parkedIn r0 x1 Q σ) : Met l y_10_parkedIn (Cond.code y_10_parkedIn prog_12_method_40_code 4 (some .int) :: wA) { frames := 2, cells := 0, slots := 0, locals := 45 } (va_Pc [.ref (ad r0), .int x1] (GSt A D ac ad st σ)) (va_Qi Q (GSt A D ac ad st) A) 0 0 A :=
  mkI l (by decide +kernel) rfl [.ref (ad r0), .int x1] (Nat.le_of_ble_eq_true rfl) (fun p e s m args below meth c ls QW S hR hG hl => w_10_parkedIn_0 S hR hk_r0 hG hl hf)
set_option maxHeartbeats 4000000 in
set_option maxRecDepth 100000 in
theorem w_10_greatest_4 {r0 : Nat} {x1 : Int32} {Q : Int32 → St → Prop} {B4 : Int32 → Int32 → St → Prop} {x2 : Int32} {x3 : Int32} {σ : St} {H : Heap} {locs : List Loc} {ls : Array Slot} (S : SC A D ac st p m c prog_12_method_41_code 5 s args "SweeperRoundsModel" R cells slots 2 45) (hR : RtI A D ac ad p l e R s m args below meth c prog_12_method_41_code cells slots QW Q) (hk_r0 : kd r0 = 10) (hB4 : ∀ (x2 : Int32) (x3 : Int32) (σ : St) (H : Heap) (locs : List Loc) (ls : Array Slot), DG A D ac ad s σ H locs → lv_has ls 5 [(0, .ref (ad r0)), (1, .int x1), (2, .int x2), (3, .int x3)] → B4 x2 x3 σ → W p l e R s m args below meth c H locs cells slots QW (F0 m 4 ls [])) (hG : DG A D ac ad s σ H locs) (hl : lv_has ls 5 [(0, .ref (ad r0)), (1, .int x1), (2, .int x2), (3, .int x3)]) (hf : m_10_greatest_4 r0 x1 Q B4 x2 x3 σ) : W p l e R s m args below meth c H locs cells slots QW (F0 m 4 ls []) := by
  have hx := S.1.1
  have hb := S.1.2.1
  unfold m_10_greatest_4 at hf
  refine lv_iload_n hx hb d_10_greatest_4 rfl (lv_at hl 3 rfl) ?_
  refine lv_iconst (v := (2 : Int32)) hx hb d_10_greatest_5 (by decide) ?_
  refine lv_aload_n hx hb d_10_greatest_6 rfl (lv_at hl 0 rfl) ?_
  refine lv_iload_n hx hb d_10_greatest_7 rfl (lv_at hl 1 rfl) ?_
  refine lv_iconst (v := (0 : Int32)) hx hb d_10_greatest_8 (by decide) ?_
  refine iv_10_37 S hl.1 hG hk_r0 (c_10_of l hk_r0 hf) ⟨Nat.le_of_ble_eq_true rfl, Nat.le_of_ble_eq_true rfl⟩ (Nat.le_of_ble_eq_true rfl) d_10_greatest_9 (fun v_2 σ_1 hf H locs hG => ?_)
  refine lv_imul hx hb d_10_greatest_12 ?_
  refine lv_icmp_ge (tgt := 48) hx hb d_10_greatest_13 (by decide) (fun hc => ?_) (fun hc => ?_)
  · have hf := hf.1 hc
    refine lv_iload_n hx hb d_10_greatest_48 rfl (lv_at hl 2 rfl) ?_
    exact hR _ _ _ _ _ _ hG hf d_10_greatest_49
  · have hf := hf.2 hc
    refine lv_aload_n hx hb d_10_greatest_16 rfl (lv_at hl 0 rfl) ?_
    refine lv_iload_n hx hb d_10_greatest_17 rfl (lv_at hl 1 rfl) ?_
    refine lv_iload_n hx hb d_10_greatest_18 rfl (lv_at hl 3 rfl) ?_
    refine lv_iconst (v := (2 : Int32)) hx hb d_10_greatest_19 (by decide) ?_
    refine lv_irem hx hb d_10_greatest_20 (by decide) ?_
    refine lv_iload_n hx hb d_10_greatest_21 rfl (lv_at hl 3 rfl) ?_
    refine lv_iconst (v := (2 : Int32)) hx hb d_10_greatest_22 (by decide) ?_
    refine lv_idiv hx hb d_10_greatest_23 (by decide) ?_
    refine iv_10_48 S hl.1 hG hk_r0 (c_10_dirtOf l hk_r0 hf) ⟨Nat.le_of_ble_eq_true rfl, Nat.le_of_ble_eq_true rfl⟩ (Nat.le_of_ble_eq_true rfl) d_10_greatest_24 (fun v_4 σ_3 hf H locs hG => ?_)
    refine lv_istore (lv' := [(4, .int v_4), (0, .ref (ad r0)), (1, .int x1), (2, .int x2), (3, .int x3)]) hx hb d_10_greatest_27 hl (by decide) rfl (fun ls hl => ?_)
    refine lv_iload hx hb d_10_greatest_29 (lv_at hl 0 rfl) ?_
    refine lv_iload_n hx hb d_10_greatest_31 rfl (lv_at hl 3 rfl) ?_
    refine lv_icmp_le (tgt := 40) hx hb d_10_greatest_32 (by decide) (fun hc => ?_) (fun hc => ?_)
    · have hf := hf.1 hc
      refine lv_iload_n hx hb d_10_greatest_40 rfl (lv_at hl 3 rfl) ?_
      refine lv_istore_n (lv' := [(2, .int x2), (4, .int v_4), (0, .ref (ad r0)), (1, .int x1), (3, .int x3)]) hx hb d_10_greatest_41 rfl hl (by decide) rfl (fun ls hl => ?_)
      obtain ⟨x3_5, ex3_5⟩ : ∃ y : Int32, y = x3 + 1 := ⟨_, rfl⟩
      have hf := hf x3_5 ex3_5
      refine lv_iinc (v := x3_5) (lv' := [(3, .int x3_5), (2, .int x2), (4, .int v_4), (0, .ref (ad r0)), (1, .int x1)]) hx hb d_10_greatest_42 hl (k := 4) rfl (by rw [ex3_5]; rfl) (by decide) rfl (fun ls hl => ?_)
      refine lv_goto (tgt := 4) hx hb d_10_greatest_45 (by decide) ?_
      exact hB4 _ _ _ _ _ _  hG (lv_sub hl [3, 4, 1, 0] rfl) hf
    · have hf := hf.2 hc
      refine lv_iload hx hb d_10_greatest_35 (lv_at hl 0 rfl) ?_
      refine lv_goto (tgt := 41) hx hb d_10_greatest_37 (by decide) ?_
      refine lv_istore_n (lv' := [(2, .int v_4), (4, .int v_4), (0, .ref (ad r0)), (1, .int x1), (3, .int x3)]) hx hb d_10_greatest_41 rfl hl (by decide) rfl (fun ls hl => ?_)
      obtain ⟨x3_6, ex3_6⟩ : ∃ y : Int32, y = x3 + 1 := ⟨_, rfl⟩
      have hf := hf x3_6 ex3_6
      refine lv_iinc (v := x3_6) (lv' := [(3, .int x3_6), (2, .int v_4), (4, .int v_4), (0, .ref (ad r0)), (1, .int x1)]) hx hb d_10_greatest_42 hl (k := 4) rfl (by rw [ex3_6]; rfl) (by decide) rfl (fun ls hl => ?_)
      refine lv_goto (tgt := 4) hx hb d_10_greatest_45 (by decide) ?_
      exact hB4 _ _ _ _ _ _  hG (lv_sub hl [3, 4, 1, 0] rfl) hf
set_option maxHeartbeats 4000000 in
set_option maxRecDepth 100000 in
theorem lp_10_greatest_4 {r0 : Nat} {x1 : Int32} {Q : Int32 → St → Prop} (S : SC A D ac st p m c prog_12_method_41_code 5 s args "SweeperRoundsModel" R cells slots 2 45) (hR : RtI A D ac ad p l e R s m args below meth c prog_12_method_41_code cells slots QW Q) (hk_r0 : kd r0 = 10) : ∀ (n : Nat) (x2 : Int32) (x3 : Int32) (σ : St) (H : Heap) (locs : List Loc) (ls : Array Slot), DG A D ac ad s σ H locs → lv_has ls 5 [(0, .ref (ad r0)), (1, .int x1), (2, .int x2), (3, .int x3)] → itN (m_10_greatest_4 r0 x1 Q) (fun _ _ _ => False) n x2 x3 σ → W p l e R s m args below meth c H locs cells slots QW (F0 m 4 ls []) := by
  intro n
  induction n with
  | zero =>
    intro x2 x3 σ H locs ls  hG hl hf
    exact hf.elim
  | succ n ih =>
    intro x2 x3 σ H locs ls  hG hl hf
    exact w_10_greatest_4 S hR hk_r0  ih hG hl hf
set_option maxHeartbeats 4000000 in
set_option maxRecDepth 100000 in
theorem w_10_greatest_0 {r0 : Nat} {x1 : Int32} {Q : Int32 → St → Prop} {σ : St} {H : Heap} {locs : List Loc} {ls : Array Slot} (S : SC A D ac st p m c prog_12_method_41_code 5 s args "SweeperRoundsModel" R cells slots 2 45) (hR : RtI A D ac ad p l e R s m args below meth c prog_12_method_41_code cells slots QW Q) (hk_r0 : kd r0 = 10) (hG : DG A D ac ad s σ H locs) (hl : lv_has ls 5 [(0, .ref (ad r0)), (1, .int x1)]) (hf : m_10_greatest r0 x1 Q σ) : W p l e R s m args below meth c H locs cells slots QW (F0 m 0 ls []) := by
  have hx := S.1.1
  have hb := S.1.2.1
  unfold m_10_greatest at hf
  refine lv_iconst (v := (0 : Int32)) hx hb d_10_greatest_0 (by decide) ?_
  refine lv_istore_n (lv' := [(2, .int (0 : Int32)), (0, .ref (ad r0)), (1, .int x1)]) hx hb d_10_greatest_1 rfl hl (by decide) rfl (fun ls hl => ?_)
  refine lv_iconst (v := (0 : Int32)) hx hb d_10_greatest_2 (by decide) ?_
  refine lv_istore_n (lv' := [(3, .int (0 : Int32)), (2, .int (0 : Int32)), (0, .ref (ad r0)), (1, .int x1)]) hx hb d_10_greatest_3 rfl hl (by decide) rfl (fun ls hl => ?_)
  exact lp_10_greatest_4 S hR hk_r0  FU _ _ _ _ _ _  hG (lv_sub hl [2, 3, 1, 0] rfl) hf
theorem c_10_greatest (l : Launch) {D : va_G} {ac : Nat → ClassId} {ad st : Nat → Nat} {A : Nat → Prop} {σ : St} {r0 : Nat} {x1 : Int32} {Q : Int32 → St → Prop} (hk_r0 : kd r0 = 10) (hf : m_10_greatest r0 x1 Q σ) : Met l y_10_greatest (Cond.code y_10_greatest prog_12_method_41_code 5 (some .int) :: wA) { frames := 2, cells := 0, slots := 0, locals := 45 } (va_Pc [.ref (ad r0), .int x1] (GSt A D ac ad st σ)) (va_Qi Q (GSt A D ac ad st) A) 0 0 A :=
  mkI l (by decide +kernel) rfl [.ref (ad r0), .int x1] (Nat.le_of_ble_eq_true rfl) (fun p e s m args below meth c ls QW S hR hG hl => w_10_greatest_0 S hR hk_r0 hG hl hf)
set_option maxHeartbeats 4000000 in
set_option maxRecDepth 100000 in
theorem w_10_legsIn_4 {r0 : Nat} {x1 : Int32} {Q : Int32 → St → Prop} {B4 : Int32 → Int32 → St → Prop} {x2 : Int32} {x3 : Int32} {σ : St} {H : Heap} {locs : List Loc} {ls : Array Slot} (S : SC A D ac st p m c prog_12_method_42_code 4 s args "SweeperRoundsModel" R cells slots 1 22) (hR : RtI A D ac ad p l e R s m args below meth c prog_12_method_42_code cells slots QW Q) (hk_r0 : kd r0 = 10) (hB4 : ∀ (x2 : Int32) (x3 : Int32) (σ : St) (H : Heap) (locs : List Loc) (ls : Array Slot), DG A D ac ad s σ H locs → lv_has ls 4 [(0, .ref (ad r0)), (1, .int x1), (2, .int x2), (3, .int x3)] → B4 x2 x3 σ → W p l e R s m args below meth c H locs cells slots QW (F0 m 4 ls [])) (hG : DG A D ac ad s σ H locs) (hl : lv_has ls 4 [(0, .ref (ad r0)), (1, .int x1), (2, .int x2), (3, .int x3)]) (hf : m_10_legsIn_4 r0 x1 Q B4 x2 x3 σ) : W p l e R s m args below meth c H locs cells slots QW (F0 m 4 ls []) := by
  have hx := S.1.1
  have hb := S.1.2.1
  unfold m_10_legsIn_4 at hf
  refine lv_iload_n hx hb d_10_legsIn_4 rfl (lv_at hl 3 rfl) ?_
  refine lv_aload_n hx hb d_10_legsIn_5 rfl (lv_at hl 0 rfl) ?_
  refine gf_10_7 S hG hk_r0 d_10_legsIn_6 ?_
  refine lv_sipush (v := (507 : Int32)) hx hb d_10_legsIn_9 (by decide) ?_
  refine mia S hG 30 rfl rfl (kr_10_0 hk_r0) hf.1 d_10_legsIn_12 ?_
  have hf := hf.2
  refine lv_icmp_ge (tgt := 40) hx hb d_10_legsIn_13 (by decide) (fun hc => ?_) (fun hc => ?_)
  · have hf := hf.1 hc
    refine lv_iload_n hx hb d_10_legsIn_40 rfl (lv_at hl 2 rfl) ?_
    exact hR _ _ _ _ _ _ hG hf d_10_legsIn_41
  · have hf := hf.2 hc
    refine lv_iload_n hx hb d_10_legsIn_16 rfl (lv_at hl 2 rfl) ?_
    refine lv_aload_n hx hb d_10_legsIn_17 rfl (lv_at hl 0 rfl) ?_
    refine lv_iload_n hx hb d_10_legsIn_18 rfl (lv_at hl 3 rfl) ?_
    refine lv_iconst (v := (0 : Int32)) hx hb d_10_legsIn_19 (by decide) ?_
    refine iv_10_69 S hl.1 hG hk_r0 (c_10_legOf l hk_r0 hf) ⟨Nat.le_of_ble_eq_true rfl, Nat.le_of_ble_eq_true rfl⟩ (Nat.le_of_ble_eq_true rfl) d_10_legsIn_20 (fun v_2 σ_1 hf H locs hG => ?_)
    refine lv_iload_n hx hb d_10_legsIn_23 rfl (lv_at hl 1 rfl) ?_
    refine lv_icmp_ne (tgt := 31) hx hb d_10_legsIn_24 (by decide) (fun hc => ?_) (fun hc => ?_)
    · have hf := hf.1 hc
      refine lv_iconst (v := (0 : Int32)) hx hb d_10_legsIn_31 (by decide) ?_
      refine lv_iadd hx hb d_10_legsIn_32 ?_
      refine lv_topi (fun x2_3 ex2_3 => ?_)
      have hf := hf x2_3 ex2_3
      refine lv_istore_n (lv' := [(2, .int x2_3), (0, .ref (ad r0)), (1, .int x1), (3, .int x3)]) hx hb d_10_legsIn_33 rfl hl (by decide) rfl (fun ls hl => ?_)
      obtain ⟨x3_4, ex3_4⟩ : ∃ y : Int32, y = x3 + 1 := ⟨_, rfl⟩
      have hf := hf x3_4 ex3_4
      refine lv_iinc (v := x3_4) (lv' := [(3, .int x3_4), (2, .int x2_3), (0, .ref (ad r0)), (1, .int x1)]) hx hb d_10_legsIn_34 hl (k := 3) rfl (by rw [ex3_4]; rfl) (by decide) rfl (fun ls hl => ?_)
      refine lv_goto (tgt := 4) hx hb d_10_legsIn_37 (by decide) ?_
      exact hB4 _ _ _ _ _ _  hG (lv_sub hl [2, 3, 1, 0] rfl) hf
    · have hf := hf.2 hc
      refine lv_iconst (v := (1 : Int32)) hx hb d_10_legsIn_27 (by decide) ?_
      refine lv_goto (tgt := 32) hx hb d_10_legsIn_28 (by decide) ?_
      refine lv_iadd hx hb d_10_legsIn_32 ?_
      refine lv_topi (fun x2_5 ex2_5 => ?_)
      have hf := hf x2_5 ex2_5
      refine lv_istore_n (lv' := [(2, .int x2_5), (0, .ref (ad r0)), (1, .int x1), (3, .int x3)]) hx hb d_10_legsIn_33 rfl hl (by decide) rfl (fun ls hl => ?_)
      obtain ⟨x3_6, ex3_6⟩ : ∃ y : Int32, y = x3 + 1 := ⟨_, rfl⟩
      have hf := hf x3_6 ex3_6
      refine lv_iinc (v := x3_6) (lv' := [(3, .int x3_6), (2, .int x2_5), (0, .ref (ad r0)), (1, .int x1)]) hx hb d_10_legsIn_34 hl (k := 3) rfl (by rw [ex3_6]; rfl) (by decide) rfl (fun ls hl => ?_)
      refine lv_goto (tgt := 4) hx hb d_10_legsIn_37 (by decide) ?_
      exact hB4 _ _ _ _ _ _  hG (lv_sub hl [2, 3, 1, 0] rfl) hf
set_option maxHeartbeats 4000000 in
set_option maxRecDepth 100000 in
theorem lp_10_legsIn_4 {r0 : Nat} {x1 : Int32} {Q : Int32 → St → Prop} (S : SC A D ac st p m c prog_12_method_42_code 4 s args "SweeperRoundsModel" R cells slots 1 22) (hR : RtI A D ac ad p l e R s m args below meth c prog_12_method_42_code cells slots QW Q) (hk_r0 : kd r0 = 10) : ∀ (n : Nat) (x2 : Int32) (x3 : Int32) (σ : St) (H : Heap) (locs : List Loc) (ls : Array Slot), DG A D ac ad s σ H locs → lv_has ls 4 [(0, .ref (ad r0)), (1, .int x1), (2, .int x2), (3, .int x3)] → itN (m_10_legsIn_4 r0 x1 Q) (fun _ _ _ => False) n x2 x3 σ → W p l e R s m args below meth c H locs cells slots QW (F0 m 4 ls []) := by
  intro n
  induction n with
  | zero =>
    intro x2 x3 σ H locs ls  hG hl hf
    exact hf.elim
  | succ n ih =>
    intro x2 x3 σ H locs ls  hG hl hf
    exact w_10_legsIn_4 S hR hk_r0  ih hG hl hf
set_option maxHeartbeats 4000000 in
set_option maxRecDepth 100000 in
theorem w_10_legsIn_0 {r0 : Nat} {x1 : Int32} {Q : Int32 → St → Prop} {σ : St} {H : Heap} {locs : List Loc} {ls : Array Slot} (S : SC A D ac st p m c prog_12_method_42_code 4 s args "SweeperRoundsModel" R cells slots 1 22) (hR : RtI A D ac ad p l e R s m args below meth c prog_12_method_42_code cells slots QW Q) (hk_r0 : kd r0 = 10) (hG : DG A D ac ad s σ H locs) (hl : lv_has ls 4 [(0, .ref (ad r0)), (1, .int x1)]) (hf : m_10_legsIn r0 x1 Q σ) : W p l e R s m args below meth c H locs cells slots QW (F0 m 0 ls []) := by
  have hx := S.1.1
  have hb := S.1.2.1
  unfold m_10_legsIn at hf
  refine lv_iconst (v := (0 : Int32)) hx hb d_10_legsIn_0 (by decide) ?_
  refine lv_istore_n (lv' := [(2, .int (0 : Int32)), (0, .ref (ad r0)), (1, .int x1)]) hx hb d_10_legsIn_1 rfl hl (by decide) rfl (fun ls hl => ?_)
  refine lv_iconst (v := (0 : Int32)) hx hb d_10_legsIn_2 (by decide) ?_
  refine lv_istore_n (lv' := [(3, .int (0 : Int32)), (2, .int (0 : Int32)), (0, .ref (ad r0)), (1, .int x1)]) hx hb d_10_legsIn_3 rfl hl (by decide) rfl (fun ls hl => ?_)
  exact lp_10_legsIn_4 S hR hk_r0  FU _ _ _ _ _ _  hG (lv_sub hl [2, 3, 1, 0] rfl) hf
theorem c_10_legsIn (l : Launch) {D : va_G} {ac : Nat → ClassId} {ad st : Nat → Nat} {A : Nat → Prop} {σ : St} {r0 : Nat} {x1 : Int32} {Q : Int32 → St → Prop} (hk_r0 : kd r0 = 10) (hf : m_10_legsIn r0 x1 Q σ) : Met l y_10_legsIn (Cond.code y_10_legsIn prog_12_method_42_code 4 (some .int) :: wA) { frames := 1, cells := 0, slots := 0, locals := 22 } (va_Pc [.ref (ad r0), .int x1] (GSt A D ac ad st σ)) (va_Qi Q (GSt A D ac ad st) A) 0 0 A :=
  mkI l (by decide +kernel) rfl [.ref (ad r0), .int x1] (Nat.le_of_ble_eq_true rfl) (fun p e s m args below meth c ls QW S hR hG hl => w_10_legsIn_0 S hR hk_r0 hG hl hf)
set_option maxHeartbeats 4000000 in
set_option maxRecDepth 100000 in
theorem w_10_street_56 {r0 : Nat} {x1 : Int32} {x2 : Int32} {Q : Int32 → St → Prop} {σ : St} {H : Heap} {locs : List Loc} {ls : Array Slot} (S : SC A D ac st p m c prog_12_method_43_code 3 s args "SweeperRoundsModel" R cells slots 3 69) (hR : RtI A D ac ad p l e R s m args below meth c prog_12_method_43_code cells slots QW Q) (hk_r0 : kd r0 = 10) (hG : DG A D ac ad s σ H locs) (hl : lv_has ls 3 [(0, .ref (ad r0)), (1, .int x1), (2, .int x2)]) (hf : m_10_street_56 r0 x1 x2 Q σ) : W p l e R s m args below meth c H locs cells slots QW (F0 m 56 ls []) := by
  have hx := S.1.1
  have hb := S.1.2.1
  unfold m_10_street_56 at hf
  refine lv_aload_n hx hb d_10_street_56 rfl (lv_at hl 0 rfl) ?_
  refine lv_iload_n hx hb d_10_street_57 rfl (lv_at hl 1 rfl) ?_
  refine lv_iload_n hx hb d_10_street_58 rfl (lv_at hl 2 rfl) ?_
  refine lv_iconst (v := (3 : Int32)) hx hb d_10_street_59 (by decide) ?_
  refine lv_isub hx hb d_10_street_60 ?_
  refine iv_10_63 S hl.1 hG hk_r0 (c_10_sideSum l hk_r0 hf) ⟨Nat.le_of_ble_eq_true rfl, Nat.le_of_ble_eq_true rfl⟩ (Nat.le_of_ble_eq_true rfl) d_10_street_61 (fun v_2 σ_1 hf H locs hG => ?_)
  exact hR _ _ _ _ _ _ hG hf d_10_street_64
set_option maxHeartbeats 4000000 in
set_option maxRecDepth 100000 in
theorem w_10_street_0 {r0 : Nat} {x1 : Int32} {x2 : Int32} {Q : Int32 → St → Prop} {σ : St} {H : Heap} {locs : List Loc} {ls : Array Slot} (S : SC A D ac st p m c prog_12_method_43_code 3 s args "SweeperRoundsModel" R cells slots 3 69) (hR : RtI A D ac ad p l e R s m args below meth c prog_12_method_43_code cells slots QW Q) (hk_r0 : kd r0 = 10) (hG : DG A D ac ad s σ H locs) (hl : lv_has ls 3 [(0, .ref (ad r0)), (1, .int x1), (2, .int x2)]) (hf : m_10_street r0 x1 x2 Q σ) : W p l e R s m args below meth c H locs cells slots QW (F0 m 0 ls []) := by
  have hx := S.1.1
  have hb := S.1.2.1
  unfold m_10_street at hf
  refine lv_aload_n hx hb d_10_street_0 rfl (lv_at hl 0 rfl) ?_
  refine lv_iload_n hx hb d_10_street_1 rfl (lv_at hl 1 rfl) ?_
  refine iv_10_44 S hl.1 hG hk_r0 (c_10_isStreet l hk_r0 hf) ⟨Nat.le_of_ble_eq_true rfl, Nat.le_of_ble_eq_true rfl⟩ (Nat.le_of_ble_eq_true rfl) d_10_street_2 (fun v_2 σ_1 hf H locs hG => ?_)
  refine lv_if_eq (tgt := 18) hx hb d_10_street_5 (by decide) (fun hc => ?_) (fun hc => ?_)
  · have hf := hf.1 hc
    refine lv_iconst (v := (-1 : Int32)) hx hb d_10_street_18 (by decide) ?_
    exact hR _ _ _ _ _ _ hG hf d_10_street_19
  · have hf := hf.2 hc
    refine lv_iload_n hx hb d_10_street_8 rfl (lv_at hl 2 rfl) ?_
    refine lv_iconst (v := (0 : Int32)) hx hb d_10_street_9 (by decide) ?_
    refine lv_bipush (v := (7 : Int32)) hx hb d_10_street_10 (by decide) ?_
    refine iv_10_40 S hl.1 hG  (c_10_in l  hf) ⟨Nat.le_of_ble_eq_true rfl, Nat.le_of_ble_eq_true rfl⟩ (Nat.le_of_ble_eq_true rfl) d_10_street_12 (fun v_4 σ_3 hf H locs hG => ?_)
    refine lv_if_ne (tgt := 20) hx hb d_10_street_15 (by decide) (fun hc => ?_) (fun hc => ?_)
    · have hf := hf.1 hc
      refine lv_iload_n hx hb d_10_street_20 rfl (lv_at hl 2 rfl) ?_
      refine lv_topi (fun q_5 eq_5 => ?_)
      rcases sw_3_7 q_5 with hq_5 | hq_5 | hq_5 | hq_5 | hq_5 | hq_5
      · rw [eq_5] at hq_5 ⊢
        refine lv_tableOut (tgt := 83) hx hb d_10_street_21 hq_5 (by decide) ?_
        have hf := hf.1 hq_5
        refine lv_aload_n hx hb d_10_street_83 rfl (lv_at hl 0 rfl) ?_
        refine lv_iload_n hx hb d_10_street_84 rfl (lv_at hl 1 rfl) ?_
        refine lv_iload_n hx hb d_10_street_85 rfl (lv_at hl 2 rfl) ?_
        refine iv_10_37 S hl.1 hG hk_r0 (c_10_of l hk_r0 hf) ⟨Nat.le_of_ble_eq_true rfl, Nat.le_of_ble_eq_true rfl⟩ (Nat.le_of_ble_eq_true rfl) d_10_street_86 (fun v_7 σ_6 hf H locs hG => ?_)
        exact hR _ _ _ _ _ _ hG hf d_10_street_89
      · subst hq_5
        refine lv_tableIn (off := 35) (tgt := 56) hx hb d_10_street_21 (by decide) (by decide) (by decide) (by decide) ?_
        have hf := hf.2.1 eq_5.symm
        exact w_10_street_56 S hR hk_r0    hG (lv_sub hl [0, 1, 2] rfl) hf
      · subst hq_5
        refine lv_tableIn (off := 35) (tgt := 56) hx hb d_10_street_21 (by decide) (by decide) (by decide) (by decide) ?_
        have hf := hf.2.2.1 eq_5.symm
        exact w_10_street_56 S hR hk_r0    hG (lv_sub hl [0, 1, 2] rfl) hf
      · subst hq_5
        refine lv_tableIn (off := 44) (tgt := 65) hx hb d_10_street_21 (by decide) (by decide) (by decide) (by decide) ?_
        have hf := hf.2.2.2.1 eq_5.symm
        refine lv_aload_n hx hb d_10_street_65 rfl (lv_at hl 0 rfl) ?_
        refine lv_iload_n hx hb d_10_street_66 rfl (lv_at hl 1 rfl) ?_
        refine iv_10_132 S hl.1 hG hk_r0 (c_10_parkedIn l hk_r0 hf) ⟨Nat.le_of_ble_eq_true rfl, Nat.le_of_ble_eq_true rfl⟩ (Nat.le_of_ble_eq_true rfl) d_10_street_67 (fun v_9 σ_8 hf H locs hG => ?_)
        exact hR _ _ _ _ _ _ hG hf d_10_street_70
      · subst hq_5
        refine lv_tableIn (off := 50) (tgt := 71) hx hb d_10_street_21 (by decide) (by decide) (by decide) (by decide) ?_
        have hf := hf.2.2.2.2.1 eq_5.symm
        refine lv_aload_n hx hb d_10_street_71 rfl (lv_at hl 0 rfl) ?_
        refine lv_iload_n hx hb d_10_street_72 rfl (lv_at hl 1 rfl) ?_
        refine iv_10_136 S hl.1 hG hk_r0 (c_10_greatest l hk_r0 hf) ⟨Nat.le_of_ble_eq_true rfl, Nat.le_of_ble_eq_true rfl⟩ (Nat.le_of_ble_eq_true rfl) d_10_street_73 (fun v_11 σ_10 hf H locs hG => ?_)
        exact hR _ _ _ _ _ _ hG hf d_10_street_76
      · subst hq_5
        refine lv_tableIn (off := 56) (tgt := 77) hx hb d_10_street_21 (by decide) (by decide) (by decide) (by decide) ?_
        have hf := hf.2.2.2.2.2 eq_5.symm
        refine lv_aload_n hx hb d_10_street_77 rfl (lv_at hl 0 rfl) ?_
        refine lv_iload_n hx hb d_10_street_78 rfl (lv_at hl 1 rfl) ?_
        refine iv_10_139 S hl.1 hG hk_r0 (c_10_legsIn l hk_r0 hf) ⟨Nat.le_of_ble_eq_true rfl, Nat.le_of_ble_eq_true rfl⟩ (Nat.le_of_ble_eq_true rfl) d_10_street_79 (fun v_13 σ_12 hf H locs hG => ?_)
        exact hR _ _ _ _ _ _ hG hf d_10_street_82
    · have hf := hf.2 hc
      refine lv_iconst (v := (-1 : Int32)) hx hb d_10_street_18 (by decide) ?_
      exact hR _ _ _ _ _ _ hG hf d_10_street_19
theorem c_10_street (l : Launch) {D : va_G} {ac : Nat → ClassId} {ad st : Nat → Nat} {A : Nat → Prop} {σ : St} {r0 : Nat} {x1 : Int32} {x2 : Int32} {Q : Int32 → St → Prop} (hk_r0 : kd r0 = 10) (hf : m_10_street r0 x1 x2 Q σ) : Met l y_10_street (Cond.code y_10_street prog_12_method_43_code 3 (some .int) :: wA) { frames := 3, cells := 0, slots := 0, locals := 69 } (va_Pc [.ref (ad r0), .int x1, .int x2] (GSt A D ac ad st σ)) (va_Qi Q (GSt A D ac ad st) A) 0 0 A :=
  mkI l (by decide +kernel) rfl [.ref (ad r0), .int x1, .int x2] (Nat.le_of_ble_eq_true rfl) (fun p e s m args below meth c ls QW S hR hG hl => w_10_street_0 S hR hk_r0 hG hl hf)
end MB
