theorem d_7_append_0 : decode prog_9_method_2_code 0 = .ok (.aload_n 0, 1) := by decide +kernel
theorem d_7_append_1 : decode prog_9_method_2_code 1 = .ok (.getfield 15, 3) := by decide +kernel
theorem d_7_append_4 : decode prog_9_method_2_code 4 = .ok (.bipush 80, 2) := by decide +kernel
theorem d_7_append_6 : decode prog_9_method_2_code 6 = .ok (.if_icmp .ge 23, 3) := by decide +kernel
theorem d_7_append_9 : decode prog_9_method_2_code 9 = .ok (.aload_n 0, 1) := by decide +kernel
theorem d_7_append_10 : decode prog_9_method_2_code 10 = .ok (.getfield 9, 3) := by decide +kernel
theorem d_7_append_13 : decode prog_9_method_2_code 13 = .ok (.aload_n 0, 1) := by decide +kernel
theorem d_7_append_14 : decode prog_9_method_2_code 14 = .ok (.getfield 15, 3) := by decide +kernel
theorem d_7_append_17 : decode prog_9_method_2_code 17 = .ok (.iload_n 1, 1) := by decide +kernel
theorem d_7_append_18 : decode prog_9_method_2_code 18 = .ok (.castore, 1) := by decide +kernel
theorem d_7_append_19 : decode prog_9_method_2_code 19 = .ok (.aload_n 0, 1) := by decide +kernel
theorem d_7_append_20 : decode prog_9_method_2_code 20 = .ok (.dup, 1) := by decide +kernel
theorem d_7_append_21 : decode prog_9_method_2_code 21 = .ok (.getfield 15, 3) := by decide +kernel
theorem d_7_append_24 : decode prog_9_method_2_code 24 = .ok (.iconst 1, 1) := by decide +kernel
theorem d_7_append_25 : decode prog_9_method_2_code 25 = .ok (.iadd, 1) := by decide +kernel
theorem d_7_append_26 : decode prog_9_method_2_code 26 = .ok (.putfield 15, 3) := by decide +kernel
theorem d_7_append_29 : decode prog_9_method_2_code 29 = .ok (.return_, 1) := by decide +kernel
def m_7_append (r0 : Nat) (x1 : Int32) (Q : St → Prop) (σ : St) : Prop :=
  (((80 : Int32) ≤ (σ.1 r0 1) → Q σ) ∧ (¬ (80 : Int32) ≤ (σ.1 r0 1) → vp_in (σ.1 r0 1) 80 ∧ ∀ σ_1 : St, σ_1 = wr σ (r0 + 1) ((σ.1 r0 1)).toNatClampNeg (vp_nar .char x1) → ∀ σ_2 : St, σ_2 = wr σ_1 r0 1 ((σ_1.1 r0 1) + (1 : Int32)) → Q σ_2))
theorem d_9_type_0 : decode prog_1_method_2_code 0 = .ok (.iload_n 1, 1) := by decide +kernel
theorem d_9_type_1 : decode prog_1_method_2_code 1 = .ok (.bipush 32, 2) := by decide +kernel
theorem d_9_type_3 : decode prog_1_method_2_code 3 = .ok (.if_icmp .lt 9, 3) := by decide +kernel
theorem d_9_type_6 : decode prog_1_method_2_code 6 = .ok (.iload_n 1, 1) := by decide +kernel
theorem d_9_type_7 : decode prog_1_method_2_code 7 = .ok (.bipush 126, 2) := by decide +kernel
theorem d_9_type_9 : decode prog_1_method_2_code 9 = .ok (.if_icmp .le 5, 3) := by decide +kernel
theorem d_9_type_12 : decode prog_1_method_2_code 12 = .ok (.iconst (-1), 1) := by decide +kernel
theorem d_9_type_13 : decode prog_1_method_2_code 13 = .ok (.ireturn, 1) := by decide +kernel
theorem d_9_type_14 : decode prog_1_method_2_code 14 = .ok (.aload_n 0, 1) := by decide +kernel
theorem d_9_type_15 : decode prog_1_method_2_code 15 = .ok (.getfield 10, 3) := by decide +kernel
theorem d_9_type_18 : decode prog_1_method_2_code 18 = .ok (.getfield 63, 3) := by decide +kernel
theorem d_9_type_21 : decode prog_1_method_2_code 21 = .ok (.bipush 80, 2) := by decide +kernel
theorem d_9_type_23 : decode prog_1_method_2_code 23 = .ok (.if_icmp .lt 6, 3) := by decide +kernel
theorem d_9_type_26 : decode prog_1_method_2_code 26 = .ok (.bipush (-3), 2) := by decide +kernel
theorem d_9_type_28 : decode prog_1_method_2_code 28 = .ok (.ireturn, 1) := by decide +kernel
theorem d_9_type_29 : decode prog_1_method_2_code 29 = .ok (.aload_n 0, 1) := by decide +kernel
theorem d_9_type_30 : decode prog_1_method_2_code 30 = .ok (.getfield 10, 3) := by decide +kernel
theorem d_9_type_33 : decode prog_1_method_2_code 33 = .ok (.iload_n 1, 1) := by decide +kernel
theorem d_9_type_34 : decode prog_1_method_2_code 34 = .ok (.i2c, 1) := by decide +kernel
theorem d_9_type_35 : decode prog_1_method_2_code 35 = .ok (.invokevirtual 66, 3) := by decide +kernel
theorem d_9_type_38 : decode prog_1_method_2_code 38 = .ok (.aload_n 0, 1) := by decide +kernel
theorem d_9_type_39 : decode prog_1_method_2_code 39 = .ok (.getfield 10, 3) := by decide +kernel
theorem d_9_type_42 : decode prog_1_method_2_code 42 = .ok (.getfield 63, 3) := by decide +kernel
theorem d_9_type_45 : decode prog_1_method_2_code 45 = .ok (.ireturn, 1) := by decide +kernel
def m_9_type (r0 : Nat) (x1 : Int32) (Q : Int32 → St → Prop) (σ : St) : Prop :=
  ((x1 < (32 : Int32) → Q (-1 : Int32) σ) ∧ (¬ x1 < (32 : Int32) → ((x1 ≤ (126 : Int32) → (((σ.1 (r0 + 1) 1) < (80 : Int32) → m_7_append (r0 + 1) (x1.toUInt32 % 65536).toInt32 (fun (σ_1 : St) => Q (σ_1.1 (r0 + 1) 1) σ_1) σ) ∧ (¬ (σ.1 (r0 + 1) 1) < (80 : Int32) → Q (-3 : Int32) σ))) ∧ (¬ x1 ≤ (126 : Int32) → Q (-1 : Int32) σ))))
theorem d_9_clearText_0 : decode prog_1_method_3_code 0 = .ok (.aload_n 0, 1) := by decide +kernel
theorem d_9_clearText_1 : decode prog_1_method_3_code 1 = .ok (.getfield 10, 3) := by decide +kernel
theorem d_9_clearText_4 : decode prog_1_method_3_code 4 = .ok (.getfield 63, 3) := by decide +kernel
theorem d_9_clearText_7 : decode prog_1_method_3_code 7 = .ok (.istore_n 1, 1) := by decide +kernel
theorem d_9_clearText_8 : decode prog_1_method_3_code 8 = .ok (.aload_n 0, 1) := by decide +kernel
theorem d_9_clearText_9 : decode prog_1_method_3_code 9 = .ok (.getfield 10, 3) := by decide +kernel
theorem d_9_clearText_12 : decode prog_1_method_3_code 12 = .ok (.iconst 0, 1) := by decide +kernel
theorem d_9_clearText_13 : decode prog_1_method_3_code 13 = .ok (.putfield 63, 3) := by decide +kernel
theorem d_9_clearText_16 : decode prog_1_method_3_code 16 = .ok (.iload_n 1, 1) := by decide +kernel
theorem d_9_clearText_17 : decode prog_1_method_3_code 17 = .ok (.ireturn, 1) := by decide +kernel
def m_9_clearText (r0 : Nat) (Q : Int32 → St → Prop) (σ : St) : Prop :=
  ∀ x1_1 : Int32, x1_1 = (σ.1 (r0 + 1) 1) → ∀ σ_2 : St, σ_2 = wr σ (r0 + 1) 1 (0 : Int32) → Q x1_1 σ_2
theorem d_6_clear_0 : decode prog_8_method_2_code 0 = .ok (.aload_n 0, 1) := by decide +kernel
theorem d_6_clear_1 : decode prog_8_method_2_code 1 = .ok (.iconst 0, 1) := by decide +kernel
theorem d_6_clear_2 : decode prog_8_method_2_code 2 = .ok (.putfield 19, 3) := by decide +kernel
theorem d_6_clear_5 : decode prog_8_method_2_code 5 = .ok (.aload_n 0, 1) := by decide +kernel
theorem d_6_clear_6 : decode prog_8_method_2_code 6 = .ok (.iconst 0, 1) := by decide +kernel
theorem d_6_clear_7 : decode prog_8_method_2_code 7 = .ok (.putfield 23, 3) := by decide +kernel
theorem d_6_clear_10 : decode prog_8_method_2_code 10 = .ok (.aload_n 0, 1) := by decide +kernel
theorem d_6_clear_11 : decode prog_8_method_2_code 11 = .ok (.iconst 0, 1) := by decide +kernel
theorem d_6_clear_12 : decode prog_8_method_2_code 12 = .ok (.putfield 26, 3) := by decide +kernel
theorem d_6_clear_15 : decode prog_8_method_2_code 15 = .ok (.iconst 0, 1) := by decide +kernel
theorem d_6_clear_16 : decode prog_8_method_2_code 16 = .ok (.istore_n 1, 1) := by decide +kernel
theorem d_6_clear_17 : decode prog_8_method_2_code 17 = .ok (.iload_n 1, 1) := by decide +kernel
theorem d_6_clear_18 : decode prog_8_method_2_code 18 = .ok (.bipush 40, 2) := by decide +kernel
theorem d_6_clear_20 : decode prog_8_method_2_code 20 = .ok (.if_icmp .ge 23, 3) := by decide +kernel
theorem d_6_clear_23 : decode prog_8_method_2_code 23 = .ok (.aload_n 0, 1) := by decide +kernel
theorem d_6_clear_24 : decode prog_8_method_2_code 24 = .ok (.getfield 9, 3) := by decide +kernel
theorem d_6_clear_27 : decode prog_8_method_2_code 27 = .ok (.iload_n 1, 1) := by decide +kernel
theorem d_6_clear_28 : decode prog_8_method_2_code 28 = .ok (.iconst 0, 1) := by decide +kernel
theorem d_6_clear_29 : decode prog_8_method_2_code 29 = .ok (.iastore, 1) := by decide +kernel
theorem d_6_clear_30 : decode prog_8_method_2_code 30 = .ok (.aload_n 0, 1) := by decide +kernel
theorem d_6_clear_31 : decode prog_8_method_2_code 31 = .ok (.getfield 15, 3) := by decide +kernel
theorem d_6_clear_34 : decode prog_8_method_2_code 34 = .ok (.iload_n 1, 1) := by decide +kernel
theorem d_6_clear_35 : decode prog_8_method_2_code 35 = .ok (.iconst 0, 1) := by decide +kernel
theorem d_6_clear_36 : decode prog_8_method_2_code 36 = .ok (.bastore, 1) := by decide +kernel
theorem d_6_clear_37 : decode prog_8_method_2_code 37 = .ok (.iinc 1 1, 3) := by decide +kernel
theorem d_6_clear_40 : decode prog_8_method_2_code 40 = .ok (.goto (-23), 3) := by decide +kernel
theorem d_6_clear_43 : decode prog_8_method_2_code 43 = .ok (.return_, 1) := by decide +kernel
def m_6_clear_17 (r0 : Nat) (Q : St → Prop) (B17 : Int32 → St → Prop) (x1 : Int32) (σ : St) : Prop :=
  (((40 : Int32) ≤ x1 → Q σ) ∧ (¬ (40 : Int32) ≤ x1 → vp_in x1 40 ∧ ∀ σ_1 : St, σ_1 = wr σ (r0 + 1) (x1).toNatClampNeg (0 : Int32) → vp_in x1 40 ∧ ∀ σ_2 : St, σ_2 = wr σ_1 (r0 + 2) (x1).toNatClampNeg (vp_nar .boolean (0 : Int32)) → ∀ x1_3 : Int32, x1_3 = x1 + 1 → B17 x1_3 σ_2))
def m_6_clear (r0 : Nat) (Q : St → Prop) (σ : St) : Prop :=
  ∀ σ_1 : St, σ_1 = wr σ r0 0 (0 : Int32) → ∀ σ_2 : St, σ_2 = wr σ_1 r0 1 (0 : Int32) → ∀ σ_3 : St, σ_3 = wr σ_2 r0 2 (0 : Int32) → itN (m_6_clear_17 r0 Q) (fun _ _ => False) FU (0 : Int32) σ_3
theorem d_7_signAt_0 : decode prog_9_method_3_code 0 = .ok (.iload_n 1, 1) := by decide +kernel
theorem d_7_signAt_1 : decode prog_9_method_3_code 1 = .ok (.ifCond .lt 20, 3) := by decide +kernel
theorem d_7_signAt_4 : decode prog_9_method_3_code 4 = .ok (.iload_n 1, 1) := by decide +kernel
theorem d_7_signAt_5 : decode prog_9_method_3_code 5 = .ok (.aload_n 0, 1) := by decide +kernel
theorem d_7_signAt_6 : decode prog_9_method_3_code 6 = .ok (.getfield 15, 3) := by decide +kernel
theorem d_7_signAt_9 : decode prog_9_method_3_code 9 = .ok (.if_icmp .ge 12, 3) := by decide +kernel
theorem d_7_signAt_12 : decode prog_9_method_3_code 12 = .ok (.aload_n 0, 1) := by decide +kernel
theorem d_7_signAt_13 : decode prog_9_method_3_code 13 = .ok (.getfield 9, 3) := by decide +kernel
theorem d_7_signAt_16 : decode prog_9_method_3_code 16 = .ok (.iload_n 1, 1) := by decide +kernel
theorem d_7_signAt_17 : decode prog_9_method_3_code 17 = .ok (.caload, 1) := by decide +kernel
theorem d_7_signAt_18 : decode prog_9_method_3_code 18 = .ok (.goto 4, 3) := by decide +kernel
theorem d_7_signAt_21 : decode prog_9_method_3_code 21 = .ok (.iconst (-1), 1) := by decide +kernel
theorem d_7_signAt_22 : decode prog_9_method_3_code 22 = .ok (.ireturn, 1) := by decide +kernel
def m_7_signAt (r0 : Nat) (x1 : Int32) (Q : Int32 → St → Prop) (σ : St) : Prop :=
  ((x1 < 0 → Q (-1 : Int32) σ) ∧ (¬ x1 < 0 → (((σ.1 r0 1) ≤ x1 → Q (-1 : Int32) σ) ∧ (¬ (σ.1 r0 1) ≤ x1 → vp_in x1 80 ∧ Q (σ.1 (r0 + 1) (x1).toNatClampNeg) σ))))
theorem d_3_isDigit_0 : decode prog_5_method_10_code 0 = .ok (.iload_n 0, 1) := by decide +kernel
theorem d_3_isDigit_1 : decode prog_5_method_10_code 1 = .ok (.bipush 48, 2) := by decide +kernel
theorem d_3_isDigit_3 : decode prog_5_method_10_code 3 = .ok (.if_icmp .lt 13, 3) := by decide +kernel
theorem d_3_isDigit_6 : decode prog_5_method_10_code 6 = .ok (.iload_n 0, 1) := by decide +kernel
theorem d_3_isDigit_7 : decode prog_5_method_10_code 7 = .ok (.bipush 57, 2) := by decide +kernel
theorem d_3_isDigit_9 : decode prog_5_method_10_code 9 = .ok (.if_icmp .gt 7, 3) := by decide +kernel
theorem d_3_isDigit_12 : decode prog_5_method_10_code 12 = .ok (.iconst 1, 1) := by decide +kernel
theorem d_3_isDigit_13 : decode prog_5_method_10_code 13 = .ok (.goto 4, 3) := by decide +kernel
theorem d_3_isDigit_16 : decode prog_5_method_10_code 16 = .ok (.iconst 0, 1) := by decide +kernel
theorem d_3_isDigit_17 : decode prog_5_method_10_code 17 = .ok (.ireturn, 1) := by decide +kernel
def m_3_isDigit (x0 : Int32) (Q : Int32 → St → Prop) (σ : St) : Prop :=
  ((x0 < (48 : Int32) → Q (0 : Int32) σ) ∧ (¬ x0 < (48 : Int32) → (((57 : Int32) < x0 → Q (0 : Int32) σ) ∧ (¬ (57 : Int32) < x0 → Q (1 : Int32) σ))))
theorem d_3_fail_0 : decode prog_5_method_3_code 0 = .ok (.aload_n 0, 1) := by decide +kernel
theorem d_3_fail_1 : decode prog_5_method_3_code 1 = .ok (.iload_n 1, 1) := by decide +kernel
theorem d_3_fail_2 : decode prog_5_method_3_code 2 = .ok (.putfield 22, 3) := by decide +kernel
theorem d_3_fail_5 : decode prog_5_method_3_code 5 = .ok (.aload_n 0, 1) := by decide +kernel
theorem d_3_fail_6 : decode prog_5_method_3_code 6 = .ok (.iload_n 2, 1) := by decide +kernel
theorem d_3_fail_7 : decode prog_5_method_3_code 7 = .ok (.putfield 25, 3) := by decide +kernel
theorem d_3_fail_10 : decode prog_5_method_3_code 10 = .ok (.iconst 0, 1) := by decide +kernel
theorem d_3_fail_11 : decode prog_5_method_3_code 11 = .ok (.ireturn, 1) := by decide +kernel
def m_3_fail (r0 : Nat) (x1 : Int32) (x2 : Int32) (Q : Int32 → St → Prop) (σ : St) : Prop :=
  ∀ σ_1 : St, σ_1 = wr σ r0 3 x1 → ∀ σ_2 : St, σ_2 = wr σ_1 r0 1 x2 → Q (0 : Int32) σ_2
theorem d_3_readSlash_0 : decode prog_5_method_9_code 0 = .ok (.aload_n 1, 1) := by decide +kernel
theorem d_3_readSlash_1 : decode prog_5_method_9_code 1 = .ok (.aload_n 0, 1) := by decide +kernel
theorem d_3_readSlash_2 : decode prog_5_method_9_code 2 = .ok (.getfield 18, 3) := by decide +kernel
theorem d_3_readSlash_5 : decode prog_5_method_9_code 5 = .ok (.invokevirtual 44, 3) := by decide +kernel
theorem d_3_readSlash_8 : decode prog_5_method_9_code 8 = .ok (.bipush 47, 2) := by decide +kernel
theorem d_3_readSlash_10 : decode prog_5_method_9_code 10 = .ok (.if_icmp .eq 13, 3) := by decide +kernel
theorem d_3_readSlash_13 : decode prog_5_method_9_code 13 = .ok (.aload_n 0, 1) := by decide +kernel
theorem d_3_readSlash_14 : decode prog_5_method_9_code 14 = .ok (.iconst 1, 1) := by decide +kernel
theorem d_3_readSlash_15 : decode prog_5_method_9_code 15 = .ok (.aload_n 0, 1) := by decide +kernel
theorem d_3_readSlash_16 : decode prog_5_method_9_code 16 = .ok (.getfield 18, 3) := by decide +kernel
theorem d_3_readSlash_19 : decode prog_5_method_9_code 19 = .ok (.invokevirtual 54, 3) := by decide +kernel
theorem d_3_readSlash_22 : decode prog_5_method_9_code 22 = .ok (.ireturn, 1) := by decide +kernel
theorem d_3_readSlash_23 : decode prog_5_method_9_code 23 = .ok (.aload_n 0, 1) := by decide +kernel
theorem d_3_readSlash_24 : decode prog_5_method_9_code 24 = .ok (.dup, 1) := by decide +kernel
theorem d_3_readSlash_25 : decode prog_5_method_9_code 25 = .ok (.getfield 18, 3) := by decide +kernel
theorem d_3_readSlash_28 : decode prog_5_method_9_code 28 = .ok (.iconst 1, 1) := by decide +kernel
theorem d_3_readSlash_29 : decode prog_5_method_9_code 29 = .ok (.iadd, 1) := by decide +kernel
theorem d_3_readSlash_30 : decode prog_5_method_9_code 30 = .ok (.putfield 18, 3) := by decide +kernel
theorem d_3_readSlash_33 : decode prog_5_method_9_code 33 = .ok (.iconst 1, 1) := by decide +kernel
theorem d_3_readSlash_34 : decode prog_5_method_9_code 34 = .ok (.ireturn, 1) := by decide +kernel
def m_3_readSlash (r0 : Nat) (r1 : Nat) (Q : Int32 → St → Prop) (σ : St) : Prop :=
  m_7_signAt r1 (σ.1 r0 2) (fun (v_2 : Int32) (σ_1 : St) => ((v_2 = (47 : Int32) → ∀ σ_3 : St, σ_3 = wr σ_1 r0 2 ((σ_1.1 r0 2) + (1 : Int32)) → Q (1 : Int32) σ_3) ∧ (¬ v_2 = (47 : Int32) → m_3_fail r0 (1 : Int32) (σ_1.1 r0 2) (fun (v_5 : Int32) (σ_4 : St) => (isB v_5 ∧ Q v_5 σ_4)) σ_1))) σ
theorem d_3_readDistance_0 : decode prog_5_method_4_code 0 = .ok (.aload_n 1, 1) := by decide +kernel
theorem d_3_readDistance_1 : decode prog_5_method_4_code 1 = .ok (.aload_n 0, 1) := by decide +kernel
theorem d_3_readDistance_2 : decode prog_5_method_4_code 2 = .ok (.getfield 18, 3) := by decide +kernel
theorem d_3_readDistance_5 : decode prog_5_method_4_code 5 = .ok (.invokevirtual 44, 3) := by decide +kernel
theorem d_3_readDistance_8 : decode prog_5_method_4_code 8 = .ok (.invokestatic 50, 3) := by decide +kernel
theorem d_3_readDistance_11 : decode prog_5_method_4_code 11 = .ok (.ifCond .ne 13, 3) := by decide +kernel
theorem d_3_readDistance_14 : decode prog_5_method_4_code 14 = .ok (.aload_n 0, 1) := by decide +kernel
theorem d_3_readDistance_15 : decode prog_5_method_4_code 15 = .ok (.iconst 1, 1) := by decide +kernel
theorem d_3_readDistance_16 : decode prog_5_method_4_code 16 = .ok (.aload_n 0, 1) := by decide +kernel
theorem d_3_readDistance_17 : decode prog_5_method_4_code 17 = .ok (.getfield 18, 3) := by decide +kernel
theorem d_3_readDistance_20 : decode prog_5_method_4_code 20 = .ok (.invokevirtual 54, 3) := by decide +kernel
theorem d_3_readDistance_23 : decode prog_5_method_4_code 23 = .ok (.ireturn, 1) := by decide +kernel
theorem d_3_readDistance_24 : decode prog_5_method_4_code 24 = .ok (.aload_n 1, 1) := by decide +kernel
theorem d_3_readDistance_25 : decode prog_5_method_4_code 25 = .ok (.aload_n 0, 1) := by decide +kernel
theorem d_3_readDistance_26 : decode prog_5_method_4_code 26 = .ok (.getfield 18, 3) := by decide +kernel
theorem d_3_readDistance_29 : decode prog_5_method_4_code 29 = .ok (.invokevirtual 44, 3) := by decide +kernel
theorem d_3_readDistance_32 : decode prog_5_method_4_code 32 = .ok (.bipush 48, 2) := by decide +kernel
theorem d_3_readDistance_34 : decode prog_5_method_4_code 34 = .ok (.isub, 1) := by decide +kernel
theorem d_3_readDistance_35 : decode prog_5_method_4_code 35 = .ok (.istore_n 2, 1) := by decide +kernel
theorem d_3_readDistance_36 : decode prog_5_method_4_code 36 = .ok (.aload_n 0, 1) := by decide +kernel
theorem d_3_readDistance_37 : decode prog_5_method_4_code 37 = .ok (.dup, 1) := by decide +kernel
theorem d_3_readDistance_38 : decode prog_5_method_4_code 38 = .ok (.getfield 18, 3) := by decide +kernel
theorem d_3_readDistance_41 : decode prog_5_method_4_code 41 = .ok (.iconst 1, 1) := by decide +kernel
theorem d_3_readDistance_42 : decode prog_5_method_4_code 42 = .ok (.iadd, 1) := by decide +kernel
theorem d_3_readDistance_43 : decode prog_5_method_4_code 43 = .ok (.putfield 18, 3) := by decide +kernel
theorem d_3_readDistance_46 : decode prog_5_method_4_code 46 = .ok (.aload_n 1, 1) := by decide +kernel
theorem d_3_readDistance_47 : decode prog_5_method_4_code 47 = .ok (.aload_n 0, 1) := by decide +kernel
theorem d_3_readDistance_48 : decode prog_5_method_4_code 48 = .ok (.getfield 18, 3) := by decide +kernel
theorem d_3_readDistance_51 : decode prog_5_method_4_code 51 = .ok (.invokevirtual 44, 3) := by decide +kernel
theorem d_3_readDistance_54 : decode prog_5_method_4_code 54 = .ok (.invokestatic 50, 3) := by decide +kernel
theorem d_3_readDistance_57 : decode prog_5_method_4_code 57 = .ok (.ifCond .eq 30, 3) := by decide +kernel
theorem d_3_readDistance_60 : decode prog_5_method_4_code 60 = .ok (.bipush 10, 2) := by decide +kernel
theorem d_3_readDistance_62 : decode prog_5_method_4_code 62 = .ok (.iload_n 2, 1) := by decide +kernel
theorem d_3_readDistance_63 : decode prog_5_method_4_code 63 = .ok (.imul, 1) := by decide +kernel
theorem d_3_readDistance_64 : decode prog_5_method_4_code 64 = .ok (.aload_n 1, 1) := by decide +kernel
theorem d_3_readDistance_65 : decode prog_5_method_4_code 65 = .ok (.aload_n 0, 1) := by decide +kernel
theorem d_3_readDistance_66 : decode prog_5_method_4_code 66 = .ok (.getfield 18, 3) := by decide +kernel
theorem d_3_readDistance_69 : decode prog_5_method_4_code 69 = .ok (.invokevirtual 44, 3) := by decide +kernel
theorem d_3_readDistance_72 : decode prog_5_method_4_code 72 = .ok (.iadd, 1) := by decide +kernel
theorem d_3_readDistance_73 : decode prog_5_method_4_code 73 = .ok (.bipush 48, 2) := by decide +kernel
theorem d_3_readDistance_75 : decode prog_5_method_4_code 75 = .ok (.isub, 1) := by decide +kernel
theorem d_3_readDistance_76 : decode prog_5_method_4_code 76 = .ok (.istore_n 2, 1) := by decide +kernel
theorem d_3_readDistance_77 : decode prog_5_method_4_code 77 = .ok (.aload_n 0, 1) := by decide +kernel
theorem d_3_readDistance_78 : decode prog_5_method_4_code 78 = .ok (.dup, 1) := by decide +kernel
theorem d_3_readDistance_79 : decode prog_5_method_4_code 79 = .ok (.getfield 18, 3) := by decide +kernel
theorem d_3_readDistance_82 : decode prog_5_method_4_code 82 = .ok (.iconst 1, 1) := by decide +kernel
theorem d_3_readDistance_83 : decode prog_5_method_4_code 83 = .ok (.iadd, 1) := by decide +kernel
theorem d_3_readDistance_84 : decode prog_5_method_4_code 84 = .ok (.putfield 18, 3) := by decide +kernel
theorem d_3_readDistance_87 : decode prog_5_method_4_code 87 = .ok (.iload_n 2, 1) := by decide +kernel
theorem d_3_readDistance_88 : decode prog_5_method_4_code 88 = .ok (.bipush 60, 2) := by decide +kernel
theorem d_3_readDistance_90 : decode prog_5_method_4_code 90 = .ok (.if_icmp .le 24, 3) := by decide +kernel
theorem d_3_readDistance_93 : decode prog_5_method_4_code 93 = .ok (.aload_n 1, 1) := by decide +kernel
theorem d_3_readDistance_94 : decode prog_5_method_4_code 94 = .ok (.aload_n 0, 1) := by decide +kernel
theorem d_3_readDistance_95 : decode prog_5_method_4_code 95 = .ok (.getfield 18, 3) := by decide +kernel
theorem d_3_readDistance_98 : decode prog_5_method_4_code 98 = .ok (.invokevirtual 44, 3) := by decide +kernel
theorem d_3_readDistance_101 : decode prog_5_method_4_code 101 = .ok (.invokestatic 50, 3) := by decide +kernel
theorem d_3_readDistance_104 : decode prog_5_method_4_code 104 = .ok (.ifCond .ne 10, 3) := by decide +kernel
theorem d_3_readDistance_107 : decode prog_5_method_4_code 107 = .ok (.aload_n 0, 1) := by decide +kernel
theorem d_3_readDistance_108 : decode prog_5_method_4_code 108 = .ok (.iconst 2, 1) := by decide +kernel
theorem d_3_readDistance_109 : decode prog_5_method_4_code 109 = .ok (.iconst 0, 1) := by decide +kernel
theorem d_3_readDistance_110 : decode prog_5_method_4_code 110 = .ok (.invokevirtual 54, 3) := by decide +kernel
theorem d_3_readDistance_113 : decode prog_5_method_4_code 113 = .ok (.ireturn, 1) := by decide +kernel
theorem d_3_readDistance_114 : decode prog_5_method_4_code 114 = .ok (.aload_n 0, 1) := by decide +kernel
theorem d_3_readDistance_115 : decode prog_5_method_4_code 115 = .ok (.getfield 12, 3) := by decide +kernel
theorem d_3_readDistance_118 : decode prog_5_method_4_code 118 = .ok (.iload_n 2, 1) := by decide +kernel
theorem d_3_readDistance_119 : decode prog_5_method_4_code 119 = .ok (.putfield 58, 3) := by decide +kernel
theorem d_3_readDistance_122 : decode prog_5_method_4_code 122 = .ok (.aload_n 0, 1) := by decide +kernel
theorem d_3_readDistance_123 : decode prog_5_method_4_code 123 = .ok (.aload_n 1, 1) := by decide +kernel
theorem d_3_readDistance_124 : decode prog_5_method_4_code 124 = .ok (.invokevirtual 61, 3) := by decide +kernel
theorem d_3_readDistance_127 : decode prog_5_method_4_code 127 = .ok (.ireturn, 1) := by decide +kernel
def m_3_readDistance_114 (r0 : Nat) (r1 : Nat) (x2 : Int32) (Q : Int32 → St → Prop) (σ : St) : Prop :=
  ∀ σ_1 : St, σ_1 = wr σ (r0 + 1) 1 x2 → m_3_readSlash r0 r1 (fun (v_3 : Int32) (σ_2 : St) => (isB v_3 ∧ Q v_3 σ_2)) σ_1
def m_3_readDistance_87 (r0 : Nat) (r1 : Nat) (x2 : Int32) (Q : Int32 → St → Prop) (σ : St) : Prop :=
  ((x2 ≤ (60 : Int32) → m_3_readDistance_114 r0 r1 x2 Q   σ) ∧ (¬ x2 ≤ (60 : Int32) → m_7_signAt r1 (σ.1 r0 2) (fun (v_2 : Int32) (σ_1 : St) => m_3_isDigit v_2 (fun (v_4 : Int32) (σ_3 : St) => ((¬ v_4 = 0 → m_3_readDistance_114 r0 r1 x2 Q   σ_3) ∧ (v_4 = 0 → m_3_fail r0 (2 : Int32) (0 : Int32) (fun (v_6 : Int32) (σ_5 : St) => (isB v_6 ∧ Q v_6 σ_5)) σ_3))) σ_1) σ))
def m_3_readDistance (r0 : Nat) (r1 : Nat) (Q : Int32 → St → Prop) (σ : St) : Prop :=
  m_7_signAt r1 (σ.1 r0 2) (fun (v_2 : Int32) (σ_1 : St) => m_3_isDigit v_2 (fun (v_4 : Int32) (σ_3 : St) => ((¬ v_4 = 0 → m_7_signAt r1 (σ_3.1 r0 2) (fun (v_6 : Int32) (σ_5 : St) => ∀ x2_7 : Int32, x2_7 = (v_6 - (48 : Int32)) → ∀ σ_8 : St, σ_8 = wr σ_5 r0 2 ((σ_5.1 r0 2) + (1 : Int32)) → m_7_signAt r1 (σ_8.1 r0 2) (fun (v_10 : Int32) (σ_9 : St) => m_3_isDigit v_10 (fun (v_12 : Int32) (σ_11 : St) => ((v_12 = 0 → m_3_readDistance_87 r0 r1 x2_7 Q   σ_11) ∧ (¬ v_12 = 0 → m_7_signAt r1 (σ_11.1 r0 2) (fun (v_14 : Int32) (σ_13 : St) => ∀ x2_15 : Int32, x2_15 = ((((10 : Int32) * x2_7) + v_14) - (48 : Int32)) → ∀ σ_16 : St, σ_16 = wr σ_13 r0 2 ((σ_13.1 r0 2) + (1 : Int32)) → m_3_readDistance_87 r0 r1 x2_15 Q   σ_16) σ_11))) σ_9) σ_8) σ_3) ∧ (v_4 = 0 → m_3_fail r0 (1 : Int32) (σ_3.1 r0 2) (fun (v_18 : Int32) (σ_17 : St) => (isB v_18 ∧ Q v_18 σ_17)) σ_3))) σ_1) σ
theorem d_3_readTrees_0 : decode prog_5_method_5_code 0 = .ok (.aload_n 1, 1) := by decide +kernel
theorem d_3_readTrees_1 : decode prog_5_method_5_code 1 = .ok (.aload_n 0, 1) := by decide +kernel
theorem d_3_readTrees_2 : decode prog_5_method_5_code 2 = .ok (.getfield 18, 3) := by decide +kernel
theorem d_3_readTrees_5 : decode prog_5_method_5_code 5 = .ok (.invokevirtual 44, 3) := by decide +kernel
theorem d_3_readTrees_8 : decode prog_5_method_5_code 8 = .ok (.invokestatic 50, 3) := by decide +kernel
theorem d_3_readTrees_11 : decode prog_5_method_5_code 11 = .ok (.ifCond .ne 13, 3) := by decide +kernel
theorem d_3_readTrees_14 : decode prog_5_method_5_code 14 = .ok (.aload_n 0, 1) := by decide +kernel
theorem d_3_readTrees_15 : decode prog_5_method_5_code 15 = .ok (.iconst 1, 1) := by decide +kernel
theorem d_3_readTrees_16 : decode prog_5_method_5_code 16 = .ok (.aload_n 0, 1) := by decide +kernel
theorem d_3_readTrees_17 : decode prog_5_method_5_code 17 = .ok (.getfield 18, 3) := by decide +kernel
theorem d_3_readTrees_20 : decode prog_5_method_5_code 20 = .ok (.invokevirtual 54, 3) := by decide +kernel
theorem d_3_readTrees_23 : decode prog_5_method_5_code 23 = .ok (.ireturn, 1) := by decide +kernel
theorem d_3_readTrees_24 : decode prog_5_method_5_code 24 = .ok (.aload_n 0, 1) := by decide +kernel
theorem d_3_readTrees_25 : decode prog_5_method_5_code 25 = .ok (.getfield 12, 3) := by decide +kernel
theorem d_3_readTrees_28 : decode prog_5_method_5_code 28 = .ok (.aload_n 1, 1) := by decide +kernel
theorem d_3_readTrees_29 : decode prog_5_method_5_code 29 = .ok (.aload_n 0, 1) := by decide +kernel
theorem d_3_readTrees_30 : decode prog_5_method_5_code 30 = .ok (.getfield 18, 3) := by decide +kernel
theorem d_3_readTrees_33 : decode prog_5_method_5_code 33 = .ok (.invokevirtual 44, 3) := by decide +kernel
theorem d_3_readTrees_36 : decode prog_5_method_5_code 36 = .ok (.bipush 48, 2) := by decide +kernel
theorem d_3_readTrees_38 : decode prog_5_method_5_code 38 = .ok (.isub, 1) := by decide +kernel
theorem d_3_readTrees_39 : decode prog_5_method_5_code 39 = .ok (.putfield 64, 3) := by decide +kernel
theorem d_3_readTrees_42 : decode prog_5_method_5_code 42 = .ok (.aload_n 0, 1) := by decide +kernel
theorem d_3_readTrees_43 : decode prog_5_method_5_code 43 = .ok (.dup, 1) := by decide +kernel
theorem d_3_readTrees_44 : decode prog_5_method_5_code 44 = .ok (.getfield 18, 3) := by decide +kernel
theorem d_3_readTrees_47 : decode prog_5_method_5_code 47 = .ok (.iconst 1, 1) := by decide +kernel
theorem d_3_readTrees_48 : decode prog_5_method_5_code 48 = .ok (.iadd, 1) := by decide +kernel
theorem d_3_readTrees_49 : decode prog_5_method_5_code 49 = .ok (.putfield 18, 3) := by decide +kernel
theorem d_3_readTrees_52 : decode prog_5_method_5_code 52 = .ok (.aload_n 0, 1) := by decide +kernel
theorem d_3_readTrees_53 : decode prog_5_method_5_code 53 = .ok (.aload_n 1, 1) := by decide +kernel
theorem d_3_readTrees_54 : decode prog_5_method_5_code 54 = .ok (.invokevirtual 61, 3) := by decide +kernel
theorem d_3_readTrees_57 : decode prog_5_method_5_code 57 = .ok (.ireturn, 1) := by decide +kernel
def m_3_readTrees (r0 : Nat) (r1 : Nat) (Q : Int32 → St → Prop) (σ : St) : Prop :=
  m_7_signAt r1 (σ.1 r0 2) (fun (v_2 : Int32) (σ_1 : St) => m_3_isDigit v_2 (fun (v_4 : Int32) (σ_3 : St) => ((¬ v_4 = 0 → m_7_signAt r1 (σ_3.1 r0 2) (fun (v_6 : Int32) (σ_5 : St) => ∀ σ_7 : St, σ_7 = wr σ_5 (r0 + 1) 2 (v_6 - (48 : Int32)) → ∀ σ_8 : St, σ_8 = wr σ_7 r0 2 ((σ_7.1 r0 2) + (1 : Int32)) → m_3_readSlash r0 r1 (fun (v_10 : Int32) (σ_9 : St) => (isB v_10 ∧ Q v_10 σ_9)) σ_8) σ_3) ∧ (v_4 = 0 → m_3_fail r0 (1 : Int32) (σ_3.1 r0 2) (fun (v_12 : Int32) (σ_11 : St) => (isB v_12 ∧ Q v_12 σ_11)) σ_3))) σ_1) σ
theorem d_9_placeOf_0 : decode prog_1_method_32_code 0 = .ok (.iload_n 0, 1) := by decide +kernel
theorem d_9_placeOf_1 : decode prog_1_method_32_code 1 = .ok (.bipush 20, 2) := by decide +kernel
theorem d_9_placeOf_3 : decode prog_1_method_32_code 3 = .ok (.imul, 1) := by decide +kernel
theorem d_9_placeOf_4 : decode prog_1_method_32_code 4 = .ok (.iload_n 1, 1) := by decide +kernel
theorem d_9_placeOf_5 : decode prog_1_method_32_code 5 = .ok (.iadd, 1) := by decide +kernel
theorem d_9_placeOf_6 : decode prog_1_method_32_code 6 = .ok (.ireturn, 1) := by decide +kernel
def m_9_placeOf (x0 : Int32) (x1 : Int32) (Q : Int32 → St → Prop) (σ : St) : Prop :=
  Q ((x0 * (20 : Int32)) + x1) σ
theorem d_3_readCell_0 : decode prog_5_method_8_code 0 = .ok (.aload_n 1, 1) := by decide +kernel
theorem d_3_readCell_1 : decode prog_5_method_8_code 1 = .ok (.aload_n 0, 1) := by decide +kernel
theorem d_3_readCell_2 : decode prog_5_method_8_code 2 = .ok (.getfield 18, 3) := by decide +kernel
theorem d_3_readCell_5 : decode prog_5_method_8_code 5 = .ok (.invokevirtual 44, 3) := by decide +kernel
theorem d_3_readCell_8 : decode prog_5_method_8_code 8 = .ok (.istore_n 3, 1) := by decide +kernel
theorem d_3_readCell_9 : decode prog_5_method_8_code 9 = .ok (.iload_n 3, 1) := by decide +kernel
theorem d_3_readCell_10 : decode prog_5_method_8_code 10 = .ok (.bipush 97, 2) := by decide +kernel
theorem d_3_readCell_12 : decode prog_5_method_8_code 12 = .ok (.if_icmp .lt 13, 3) := by decide +kernel
theorem d_3_readCell_15 : decode prog_5_method_8_code 15 = .ok (.iload_n 3, 1) := by decide +kernel
theorem d_3_readCell_16 : decode prog_5_method_8_code 16 = .ok (.bipush 106, 2) := by decide +kernel
theorem d_3_readCell_18 : decode prog_5_method_8_code 18 = .ok (.if_icmp .gt 7, 3) := by decide +kernel
theorem d_3_readCell_21 : decode prog_5_method_8_code 21 = .ok (.iconst 1, 1) := by decide +kernel
theorem d_3_readCell_22 : decode prog_5_method_8_code 22 = .ok (.goto 4, 3) := by decide +kernel
theorem d_3_readCell_25 : decode prog_5_method_8_code 25 = .ok (.iconst 0, 1) := by decide +kernel
theorem d_3_readCell_26 : decode prog_5_method_8_code 26 = .ok (.istore 4, 2) := by decide +kernel
theorem d_3_readCell_28 : decode prog_5_method_8_code 28 = .ok (.iload 4, 2) := by decide +kernel
theorem d_3_readCell_30 : decode prog_5_method_8_code 30 = .ok (.ifCond .ne 20, 3) := by decide +kernel
theorem d_3_readCell_33 : decode prog_5_method_8_code 33 = .ok (.iload_n 3, 1) := by decide +kernel
theorem d_3_readCell_34 : decode prog_5_method_8_code 34 = .ok (.invokestatic 50, 3) := by decide +kernel
theorem d_3_readCell_37 : decode prog_5_method_8_code 37 = .ok (.ifCond .ne 13, 3) := by decide +kernel
theorem d_3_readCell_40 : decode prog_5_method_8_code 40 = .ok (.aload_n 0, 1) := by decide +kernel
theorem d_3_readCell_41 : decode prog_5_method_8_code 41 = .ok (.iconst 1, 1) := by decide +kernel
theorem d_3_readCell_42 : decode prog_5_method_8_code 42 = .ok (.aload_n 0, 1) := by decide +kernel
theorem d_3_readCell_43 : decode prog_5_method_8_code 43 = .ok (.getfield 18, 3) := by decide +kernel
theorem d_3_readCell_46 : decode prog_5_method_8_code 46 = .ok (.invokevirtual 54, 3) := by decide +kernel
theorem d_3_readCell_49 : decode prog_5_method_8_code 49 = .ok (.ireturn, 1) := by decide +kernel
theorem d_3_readCell_50 : decode prog_5_method_8_code 50 = .ok (.aload_n 0, 1) := by decide +kernel
theorem d_3_readCell_51 : decode prog_5_method_8_code 51 = .ok (.getfield 12, 3) := by decide +kernel
theorem d_3_readCell_54 : decode prog_5_method_8_code 54 = .ok (.getfield 78, 3) := by decide +kernel
theorem d_3_readCell_57 : decode prog_5_method_8_code 57 = .ok (.iload_n 2, 1) := by decide +kernel
theorem d_3_readCell_58 : decode prog_5_method_8_code 58 = .ok (.bipush 10, 2) := by decide +kernel
theorem d_3_readCell_60 : decode prog_5_method_8_code 60 = .ok (.iload_n 3, 1) := by decide +kernel
theorem d_3_readCell_61 : decode prog_5_method_8_code 61 = .ok (.iload 4, 2) := by decide +kernel
theorem d_3_readCell_63 : decode prog_5_method_8_code 63 = .ok (.ifCond .eq 8, 3) := by decide +kernel
theorem d_3_readCell_66 : decode prog_5_method_8_code 66 = .ok (.bipush 97, 2) := by decide +kernel
theorem d_3_readCell_68 : decode prog_5_method_8_code 68 = .ok (.goto 5, 3) := by decide +kernel
theorem d_3_readCell_71 : decode prog_5_method_8_code 71 = .ok (.bipush 48, 2) := by decide +kernel
theorem d_3_readCell_73 : decode prog_5_method_8_code 73 = .ok (.isub, 1) := by decide +kernel
theorem d_3_readCell_74 : decode prog_5_method_8_code 74 = .ok (.imul, 1) := by decide +kernel
theorem d_3_readCell_75 : decode prog_5_method_8_code 75 = .ok (.iastore, 1) := by decide +kernel
theorem d_3_readCell_76 : decode prog_5_method_8_code 76 = .ok (.aload_n 0, 1) := by decide +kernel
theorem d_3_readCell_77 : decode prog_5_method_8_code 77 = .ok (.getfield 12, 3) := by decide +kernel
theorem d_3_readCell_80 : decode prog_5_method_8_code 80 = .ok (.getfield 82, 3) := by decide +kernel
theorem d_3_readCell_83 : decode prog_5_method_8_code 83 = .ok (.iload_n 2, 1) := by decide +kernel
theorem d_3_readCell_84 : decode prog_5_method_8_code 84 = .ok (.iload 4, 2) := by decide +kernel
theorem d_3_readCell_86 : decode prog_5_method_8_code 86 = .ok (.bastore, 1) := by decide +kernel
theorem d_3_readCell_87 : decode prog_5_method_8_code 87 = .ok (.aload_n 0, 1) := by decide +kernel
theorem d_3_readCell_88 : decode prog_5_method_8_code 88 = .ok (.dup, 1) := by decide +kernel
theorem d_3_readCell_89 : decode prog_5_method_8_code 89 = .ok (.getfield 18, 3) := by decide +kernel
theorem d_3_readCell_92 : decode prog_5_method_8_code 92 = .ok (.iconst 1, 1) := by decide +kernel
theorem d_3_readCell_93 : decode prog_5_method_8_code 93 = .ok (.iadd, 1) := by decide +kernel
theorem d_3_readCell_94 : decode prog_5_method_8_code 94 = .ok (.putfield 18, 3) := by decide +kernel
theorem d_3_readCell_97 : decode prog_5_method_8_code 97 = .ok (.iconst 1, 1) := by decide +kernel
theorem d_3_readCell_98 : decode prog_5_method_8_code 98 = .ok (.ireturn, 1) := by decide +kernel
def m_3_readCell_73 (r0 : Nat) (x2 : Int32) (x4 : Int32) (Q : Int32 → St → Prop) (t0 : Int32) (t1 : Int32) (t2 : Int32) (t3 : Int32) (t4 : Nat) (σ : St) : Prop :=
  vp_in t3 40 ∧ ∀ σ_1 : St, σ_1 = wr σ t4 (t3).toNatClampNeg (t2 * (t1 - t0)) → vp_in x2 40 ∧ ∀ σ_2 : St, σ_2 = wr σ_1 ((r0 + 1) + 2) (x2).toNatClampNeg (vp_nar .boolean x4) → ∀ σ_3 : St, σ_3 = wr σ_2 r0 2 ((σ_2.1 r0 2) + (1 : Int32)) → Q (1 : Int32) σ_3
def m_3_readCell_50 (r0 : Nat) (x2 : Int32) (x3 : Int32) (x4 : Int32) (Q : Int32 → St → Prop) (σ : St) : Prop :=
  ((x4 = 0 → m_3_readCell_73 r0 x2 x4 Q  (48 : Int32) x3 (10 : Int32) x2 ((r0 + 1) + 1) σ) ∧ (¬ x4 = 0 → m_3_readCell_73 r0 x2 x4 Q  (97 : Int32) x3 (10 : Int32) x2 ((r0 + 1) + 1) σ))
def m_3_readCell_26 (r0 : Nat) (x2 : Int32) (x3 : Int32) (Q : Int32 → St → Prop) (t0 : Int32) (σ : St) : Prop :=
  ((¬ t0 = 0 → m_3_readCell_50 r0 x2 x3 t0 Q   σ) ∧ (t0 = 0 → m_3_isDigit x3 (fun (v_2 : Int32) (σ_1 : St) => ((¬ v_2 = 0 → m_3_readCell_50 r0 x2 x3 t0 Q   σ_1) ∧ (v_2 = 0 → m_3_fail r0 (1 : Int32) (σ_1.1 r0 2) (fun (v_4 : Int32) (σ_3 : St) => (isB v_4 ∧ Q v_4 σ_3)) σ_1))) σ))
def m_3_readCell (r0 : Nat) (r1 : Nat) (x2 : Int32) (Q : Int32 → St → Prop) (σ : St) : Prop :=
  m_7_signAt r1 (σ.1 r0 2) (fun (v_2 : Int32) (σ_1 : St) => ((v_2 < (97 : Int32) → m_3_readCell_26 r0 x2 v_2 Q  (0 : Int32) σ_1) ∧ (¬ v_2 < (97 : Int32) → (((106 : Int32) < v_2 → m_3_readCell_26 r0 x2 v_2 Q  (0 : Int32) σ_1) ∧ (¬ (106 : Int32) < v_2 → m_3_readCell_26 r0 x2 v_2 Q  (1 : Int32) σ_1))))) σ
theorem d_3_readLeftSide_0 : decode prog_5_method_6_code 0 = .ok (.iconst 0, 1) := by decide +kernel
theorem d_3_readLeftSide_1 : decode prog_5_method_6_code 1 = .ok (.istore_n 2, 1) := by decide +kernel
theorem d_3_readLeftSide_2 : decode prog_5_method_6_code 2 = .ok (.iload_n 2, 1) := by decide +kernel
theorem d_3_readLeftSide_3 : decode prog_5_method_6_code 3 = .ok (.bipush 20, 2) := by decide +kernel
theorem d_3_readLeftSide_5 : decode prog_5_method_6_code 5 = .ok (.if_icmp .ge 54, 3) := by decide +kernel
theorem d_3_readLeftSide_8 : decode prog_5_method_6_code 8 = .ok (.iload_n 2, 1) := by decide +kernel
theorem d_3_readLeftSide_9 : decode prog_5_method_6_code 9 = .ok (.ifCond .le 19, 3) := by decide +kernel
theorem d_3_readLeftSide_12 : decode prog_5_method_6_code 12 = .ok (.aload_n 1, 1) := by decide +kernel
theorem d_3_readLeftSide_13 : decode prog_5_method_6_code 13 = .ok (.aload_n 0, 1) := by decide +kernel
theorem d_3_readLeftSide_14 : decode prog_5_method_6_code 14 = .ok (.getfield 18, 3) := by decide +kernel
theorem d_3_readLeftSide_17 : decode prog_5_method_6_code 17 = .ok (.invokevirtual 44, 3) := by decide +kernel
theorem d_3_readLeftSide_20 : decode prog_5_method_6_code 20 = .ok (.bipush 47, 2) := by decide +kernel
theorem d_3_readLeftSide_22 : decode prog_5_method_6_code 22 = .ok (.if_icmp .ne 6, 3) := by decide +kernel
theorem d_3_readLeftSide_25 : decode prog_5_method_6_code 25 = .ok (.goto 34, 3) := by decide +kernel
theorem d_3_readLeftSide_28 : decode prog_5_method_6_code 28 = .ok (.aload_n 0, 1) := by decide +kernel
theorem d_3_readLeftSide_29 : decode prog_5_method_6_code 29 = .ok (.aload_n 1, 1) := by decide +kernel
theorem d_3_readLeftSide_30 : decode prog_5_method_6_code 30 = .ok (.iconst 0, 1) := by decide +kernel
theorem d_3_readLeftSide_31 : decode prog_5_method_6_code 31 = .ok (.iload_n 2, 1) := by decide +kernel
theorem d_3_readLeftSide_32 : decode prog_5_method_6_code 32 = .ok (.invokestatic 67, 3) := by decide +kernel
theorem d_3_readLeftSide_35 : decode prog_5_method_6_code 35 = .ok (.invokevirtual 71, 3) := by decide +kernel
theorem d_3_readLeftSide_38 : decode prog_5_method_6_code 38 = .ok (.ifCond .ne 5, 3) := by decide +kernel
theorem d_3_readLeftSide_41 : decode prog_5_method_6_code 41 = .ok (.iconst 0, 1) := by decide +kernel
theorem d_3_readLeftSide_42 : decode prog_5_method_6_code 42 = .ok (.ireturn, 1) := by decide +kernel
theorem d_3_readLeftSide_43 : decode prog_5_method_6_code 43 = .ok (.aload_n 0, 1) := by decide +kernel
theorem d_3_readLeftSide_44 : decode prog_5_method_6_code 44 = .ok (.getfield 12, 3) := by decide +kernel
theorem d_3_readLeftSide_47 : decode prog_5_method_6_code 47 = .ok (.iload_n 2, 1) := by decide +kernel
theorem d_3_readLeftSide_48 : decode prog_5_method_6_code 48 = .ok (.iconst 1, 1) := by decide +kernel
theorem d_3_readLeftSide_49 : decode prog_5_method_6_code 49 = .ok (.iadd, 1) := by decide +kernel
theorem d_3_readLeftSide_50 : decode prog_5_method_6_code 50 = .ok (.putfield 75, 3) := by decide +kernel
theorem d_3_readLeftSide_53 : decode prog_5_method_6_code 53 = .ok (.iinc 2 1, 3) := by decide +kernel
theorem d_3_readLeftSide_56 : decode prog_5_method_6_code 56 = .ok (.goto (-54), 3) := by decide +kernel
theorem d_3_readLeftSide_59 : decode prog_5_method_6_code 59 = .ok (.aload_n 0, 1) := by decide +kernel
theorem d_3_readLeftSide_60 : decode prog_5_method_6_code 60 = .ok (.aload_n 1, 1) := by decide +kernel
theorem d_3_readLeftSide_61 : decode prog_5_method_6_code 61 = .ok (.invokevirtual 61, 3) := by decide +kernel
theorem d_3_readLeftSide_64 : decode prog_5_method_6_code 64 = .ok (.ireturn, 1) := by decide +kernel
def m_3_readLeftSide_59 (r0 : Nat) (r1 : Nat) (Q : Int32 → St → Prop) (σ : St) : Prop :=
  m_3_readSlash r0 r1 (fun (v_2 : Int32) (σ_1 : St) => (isB v_2 ∧ Q v_2 σ_1)) σ
def m_3_readLeftSide_28 (r0 : Nat) (r1 : Nat) (x2 : Int32) (B2 : Int32 → St → Prop) (Q : Int32 → St → Prop) (σ : St) : Prop :=
  m_9_placeOf (0 : Int32) x2 (fun (v_2 : Int32) (σ_1 : St) => m_3_readCell r0 r1 v_2 (fun (v_4 : Int32) (σ_3 : St) => ((¬ v_4 = 0 → ∀ σ_5 : St, σ_5 = wr σ_3 (r0 + 1) 0 (x2 + (1 : Int32)) → ∀ x2_6 : Int32, x2_6 = x2 + 1 → B2 x2_6 σ_5) ∧ (v_4 = 0 → Q (0 : Int32) σ_3))) σ_1) σ
def m_3_readLeftSide_2 (r0 : Nat) (r1 : Nat) (Q : Int32 → St → Prop) (B2 : Int32 → St → Prop) (x2 : Int32) (σ : St) : Prop :=
  (((20 : Int32) ≤ x2 → m_3_readLeftSide_59 r0 r1 Q   σ) ∧ (¬ (20 : Int32) ≤ x2 → ((x2 ≤ 0 → m_3_readLeftSide_28 r0 r1 x2 B2 Q   σ) ∧ (¬ x2 ≤ 0 → m_7_signAt r1 (σ.1 r0 2) (fun (v_2 : Int32) (σ_1 : St) => ((¬ v_2 = (47 : Int32) → m_3_readLeftSide_28 r0 r1 x2 B2 Q   σ_1) ∧ (v_2 = (47 : Int32) → m_3_readLeftSide_59 r0 r1 Q   σ_1))) σ))))
def m_3_readLeftSide (r0 : Nat) (r1 : Nat) (Q : Int32 → St → Prop) (σ : St) : Prop :=
  itN (m_3_readLeftSide_2 r0 r1 Q) (fun _ _ => False) FU (0 : Int32) σ
theorem d_3_readRightSide_0 : decode prog_5_method_7_code 0 = .ok (.iconst 0, 1) := by decide +kernel
theorem d_3_readRightSide_1 : decode prog_5_method_7_code 1 = .ok (.istore_n 2, 1) := by decide +kernel
theorem d_3_readRightSide_2 : decode prog_5_method_7_code 2 = .ok (.iload_n 2, 1) := by decide +kernel
theorem d_3_readRightSide_3 : decode prog_5_method_7_code 3 = .ok (.aload_n 0, 1) := by decide +kernel
theorem d_3_readRightSide_4 : decode prog_5_method_7_code 4 = .ok (.getfield 12, 3) := by decide +kernel
theorem d_3_readRightSide_7 : decode prog_5_method_7_code 7 = .ok (.getfield 75, 3) := by decide +kernel
theorem d_3_readRightSide_10 : decode prog_5_method_7_code 10 = .ok (.if_icmp .ge 24, 3) := by decide +kernel
theorem d_3_readRightSide_13 : decode prog_5_method_7_code 13 = .ok (.aload_n 0, 1) := by decide +kernel
theorem d_3_readRightSide_14 : decode prog_5_method_7_code 14 = .ok (.aload_n 1, 1) := by decide +kernel
theorem d_3_readRightSide_15 : decode prog_5_method_7_code 15 = .ok (.iconst 1, 1) := by decide +kernel
theorem d_3_readRightSide_16 : decode prog_5_method_7_code 16 = .ok (.iload_n 2, 1) := by decide +kernel
theorem d_3_readRightSide_17 : decode prog_5_method_7_code 17 = .ok (.invokestatic 67, 3) := by decide +kernel
theorem d_3_readRightSide_20 : decode prog_5_method_7_code 20 = .ok (.invokevirtual 71, 3) := by decide +kernel
theorem d_3_readRightSide_23 : decode prog_5_method_7_code 23 = .ok (.ifCond .ne 5, 3) := by decide +kernel
theorem d_3_readRightSide_26 : decode prog_5_method_7_code 26 = .ok (.iconst 0, 1) := by decide +kernel
theorem d_3_readRightSide_27 : decode prog_5_method_7_code 27 = .ok (.ireturn, 1) := by decide +kernel
theorem d_3_readRightSide_28 : decode prog_5_method_7_code 28 = .ok (.iinc 2 1, 3) := by decide +kernel
theorem d_3_readRightSide_31 : decode prog_5_method_7_code 31 = .ok (.goto (-29), 3) := by decide +kernel
theorem d_3_readRightSide_34 : decode prog_5_method_7_code 34 = .ok (.aload_n 1, 1) := by decide +kernel
theorem d_3_readRightSide_35 : decode prog_5_method_7_code 35 = .ok (.aload_n 0, 1) := by decide +kernel
theorem d_3_readRightSide_36 : decode prog_5_method_7_code 36 = .ok (.getfield 18, 3) := by decide +kernel
theorem d_3_readRightSide_39 : decode prog_5_method_7_code 39 = .ok (.invokevirtual 44, 3) := by decide +kernel
theorem d_3_readRightSide_42 : decode prog_5_method_7_code 42 = .ok (.iconst (-1), 1) := by decide +kernel
theorem d_3_readRightSide_43 : decode prog_5_method_7_code 43 = .ok (.if_icmp .eq 15, 3) := by decide +kernel
theorem d_3_readRightSide_46 : decode prog_5_method_7_code 46 = .ok (.aload_n 0, 1) := by decide +kernel
theorem d_3_readRightSide_47 : decode prog_5_method_7_code 47 = .ok (.iconst 1, 1) := by decide +kernel
theorem d_3_readRightSide_48 : decode prog_5_method_7_code 48 = .ok (.aload_n 0, 1) := by decide +kernel
theorem d_3_readRightSide_49 : decode prog_5_method_7_code 49 = .ok (.getfield 18, 3) := by decide +kernel
theorem d_3_readRightSide_52 : decode prog_5_method_7_code 52 = .ok (.invokevirtual 54, 3) := by decide +kernel
theorem d_3_readRightSide_55 : decode prog_5_method_7_code 55 = .ok (.ifCond .eq 7, 3) := by decide +kernel
theorem d_3_readRightSide_58 : decode prog_5_method_7_code 58 = .ok (.iconst 1, 1) := by decide +kernel
theorem d_3_readRightSide_59 : decode prog_5_method_7_code 59 = .ok (.goto 4, 3) := by decide +kernel
theorem d_3_readRightSide_62 : decode prog_5_method_7_code 62 = .ok (.iconst 0, 1) := by decide +kernel
theorem d_3_readRightSide_63 : decode prog_5_method_7_code 63 = .ok (.ireturn, 1) := by decide +kernel
def m_3_readRightSide_2 (r0 : Nat) (r1 : Nat) (Q : Int32 → St → Prop) (B2 : Int32 → St → Prop) (x2 : Int32) (σ : St) : Prop :=
  (((σ.1 (r0 + 1) 0) ≤ x2 → m_7_signAt r1 (σ.1 r0 2) (fun (v_2 : Int32) (σ_1 : St) => ((v_2 = (-1 : Int32) → Q (1 : Int32) σ_1) ∧ (¬ v_2 = (-1 : Int32) → m_3_fail r0 (1 : Int32) (σ_1.1 r0 2) (fun (v_4 : Int32) (σ_3 : St) => ((v_4 = 0 → Q (0 : Int32) σ_3) ∧ (¬ v_4 = 0 → Q (1 : Int32) σ_3))) σ_1))) σ) ∧ (¬ (σ.1 (r0 + 1) 0) ≤ x2 → m_9_placeOf (1 : Int32) x2 (fun (v_6 : Int32) (σ_5 : St) => m_3_readCell r0 r1 v_6 (fun (v_8 : Int32) (σ_7 : St) => ((¬ v_8 = 0 → ∀ x2_9 : Int32, x2_9 = x2 + 1 → B2 x2_9 σ_7) ∧ (v_8 = 0 → Q (0 : Int32) σ_7))) σ_5) σ))
def m_3_readRightSide (r0 : Nat) (r1 : Nat) (Q : Int32 → St → Prop) (σ : St) : Prop :=
  itN (m_3_readRightSide_2 r0 r1 Q) (fun _ _ => False) FU (0 : Int32) σ
theorem d_3_read_0 : decode prog_5_method_2_code 0 = .ok (.aload_n 0, 1) := by decide +kernel
theorem d_3_read_1 : decode prog_5_method_2_code 1 = .ok (.iconst 0, 1) := by decide +kernel
theorem d_3_read_2 : decode prog_5_method_2_code 2 = .ok (.putfield 18, 3) := by decide +kernel
theorem d_3_read_5 : decode prog_5_method_2_code 5 = .ok (.aload_n 0, 1) := by decide +kernel
theorem d_3_read_6 : decode prog_5_method_2_code 6 = .ok (.iconst 0, 1) := by decide +kernel
theorem d_3_read_7 : decode prog_5_method_2_code 7 = .ok (.putfield 22, 3) := by decide +kernel
theorem d_3_read_10 : decode prog_5_method_2_code 10 = .ok (.aload_n 0, 1) := by decide +kernel
theorem d_3_read_11 : decode prog_5_method_2_code 11 = .ok (.iconst 0, 1) := by decide +kernel
theorem d_3_read_12 : decode prog_5_method_2_code 12 = .ok (.putfield 25, 3) := by decide +kernel
theorem d_3_read_15 : decode prog_5_method_2_code 15 = .ok (.aload_n 0, 1) := by decide +kernel
theorem d_3_read_16 : decode prog_5_method_2_code 16 = .ok (.getfield 12, 3) := by decide +kernel
theorem d_3_read_19 : decode prog_5_method_2_code 19 = .ok (.invokevirtual 28, 3) := by decide +kernel
theorem d_3_read_22 : decode prog_5_method_2_code 22 = .ok (.aload_n 0, 1) := by decide +kernel
theorem d_3_read_23 : decode prog_5_method_2_code 23 = .ok (.aload_n 1, 1) := by decide +kernel
theorem d_3_read_24 : decode prog_5_method_2_code 24 = .ok (.invokevirtual 31, 3) := by decide +kernel
theorem d_3_read_27 : decode prog_5_method_2_code 27 = .ok (.ifCond .eq 25, 3) := by decide +kernel
theorem d_3_read_30 : decode prog_5_method_2_code 30 = .ok (.aload_n 0, 1) := by decide +kernel
theorem d_3_read_31 : decode prog_5_method_2_code 31 = .ok (.aload_n 1, 1) := by decide +kernel
theorem d_3_read_32 : decode prog_5_method_2_code 32 = .ok (.invokevirtual 35, 3) := by decide +kernel
theorem d_3_read_35 : decode prog_5_method_2_code 35 = .ok (.ifCond .eq 17, 3) := by decide +kernel
theorem d_3_read_38 : decode prog_5_method_2_code 38 = .ok (.aload_n 0, 1) := by decide +kernel
theorem d_3_read_39 : decode prog_5_method_2_code 39 = .ok (.aload_n 1, 1) := by decide +kernel
theorem d_3_read_40 : decode prog_5_method_2_code 40 = .ok (.invokevirtual 38, 3) := by decide +kernel
theorem d_3_read_43 : decode prog_5_method_2_code 43 = .ok (.ifCond .eq 9, 3) := by decide +kernel
theorem d_3_read_46 : decode prog_5_method_2_code 46 = .ok (.aload_n 0, 1) := by decide +kernel
theorem d_3_read_47 : decode prog_5_method_2_code 47 = .ok (.aload_n 1, 1) := by decide +kernel
theorem d_3_read_48 : decode prog_5_method_2_code 48 = .ok (.invokevirtual 41, 3) := by decide +kernel
theorem d_3_read_51 : decode prog_5_method_2_code 51 = .ok (.pop, 1) := by decide +kernel
theorem d_3_read_52 : decode prog_5_method_2_code 52 = .ok (.aload_n 0, 1) := by decide +kernel
theorem d_3_read_53 : decode prog_5_method_2_code 53 = .ok (.getfield 22, 3) := by decide +kernel
theorem d_3_read_56 : decode prog_5_method_2_code 56 = .ok (.ireturn, 1) := by decide +kernel
def m_3_read (r0 : Nat) (r1 : Nat) (Q : Int32 → St → Prop) (σ : St) : Prop :=
  ∀ σ_1 : St, σ_1 = wr σ r0 2 (0 : Int32) → ∀ σ_2 : St, σ_2 = wr σ_1 r0 3 (0 : Int32) → ∀ σ_3 : St, σ_3 = wr σ_2 r0 1 (0 : Int32) → m_6_clear (r0 + 1) (fun (σ_4 : St) => m_3_readDistance r0 r1 (fun (v_7 : Int32) (σ_6 : St) => ((v_7 = 0 → Q (σ_6.1 r0 3) σ_6) ∧ (¬ v_7 = 0 → m_3_readTrees r0 r1 (fun (v_9 : Int32) (σ_8 : St) => ((v_9 = 0 → Q (σ_8.1 r0 3) σ_8) ∧ (¬ v_9 = 0 → m_3_readLeftSide r0 r1 (fun (v_11 : Int32) (σ_10 : St) => ((v_11 = 0 → Q (σ_10.1 r0 3) σ_10) ∧ (¬ v_11 = 0 → m_3_readRightSide r0 r1 (fun (v_13 : Int32) (σ_12 : St) => Q (σ_12.1 r0 3) σ_12) σ_10))) σ_8))) σ_6))) σ_4) σ_3
theorem d_6_copyFrom_0 : decode prog_8_method_3_code 0 = .ok (.aload_n 0, 1) := by decide +kernel
theorem d_6_copyFrom_1 : decode prog_8_method_3_code 1 = .ok (.aload_n 1, 1) := by decide +kernel
theorem d_6_copyFrom_2 : decode prog_8_method_3_code 2 = .ok (.getfield 19, 3) := by decide +kernel
theorem d_6_copyFrom_5 : decode prog_8_method_3_code 5 = .ok (.putfield 19, 3) := by decide +kernel
theorem d_6_copyFrom_8 : decode prog_8_method_3_code 8 = .ok (.aload_n 0, 1) := by decide +kernel
theorem d_6_copyFrom_9 : decode prog_8_method_3_code 9 = .ok (.aload_n 1, 1) := by decide +kernel
theorem d_6_copyFrom_10 : decode prog_8_method_3_code 10 = .ok (.getfield 23, 3) := by decide +kernel
theorem d_6_copyFrom_13 : decode prog_8_method_3_code 13 = .ok (.putfield 23, 3) := by decide +kernel
theorem d_6_copyFrom_16 : decode prog_8_method_3_code 16 = .ok (.aload_n 0, 1) := by decide +kernel
theorem d_6_copyFrom_17 : decode prog_8_method_3_code 17 = .ok (.aload_n 1, 1) := by decide +kernel
theorem d_6_copyFrom_18 : decode prog_8_method_3_code 18 = .ok (.getfield 26, 3) := by decide +kernel
theorem d_6_copyFrom_21 : decode prog_8_method_3_code 21 = .ok (.putfield 26, 3) := by decide +kernel
theorem d_6_copyFrom_24 : decode prog_8_method_3_code 24 = .ok (.iconst 0, 1) := by decide +kernel
theorem d_6_copyFrom_25 : decode prog_8_method_3_code 25 = .ok (.istore_n 2, 1) := by decide +kernel
theorem d_6_copyFrom_26 : decode prog_8_method_3_code 26 = .ok (.iload_n 2, 1) := by decide +kernel
theorem d_6_copyFrom_27 : decode prog_8_method_3_code 27 = .ok (.bipush 40, 2) := by decide +kernel
theorem d_6_copyFrom_29 : decode prog_8_method_3_code 29 = .ok (.if_icmp .ge 33, 3) := by decide +kernel
theorem d_6_copyFrom_32 : decode prog_8_method_3_code 32 = .ok (.aload_n 0, 1) := by decide +kernel
theorem d_6_copyFrom_33 : decode prog_8_method_3_code 33 = .ok (.getfield 9, 3) := by decide +kernel
theorem d_6_copyFrom_36 : decode prog_8_method_3_code 36 = .ok (.iload_n 2, 1) := by decide +kernel
theorem d_6_copyFrom_37 : decode prog_8_method_3_code 37 = .ok (.aload_n 1, 1) := by decide +kernel
theorem d_6_copyFrom_38 : decode prog_8_method_3_code 38 = .ok (.getfield 9, 3) := by decide +kernel
theorem d_6_copyFrom_41 : decode prog_8_method_3_code 41 = .ok (.iload_n 2, 1) := by decide +kernel
theorem d_6_copyFrom_42 : decode prog_8_method_3_code 42 = .ok (.iaload, 1) := by decide +kernel
theorem d_6_copyFrom_43 : decode prog_8_method_3_code 43 = .ok (.iastore, 1) := by decide +kernel
theorem d_6_copyFrom_44 : decode prog_8_method_3_code 44 = .ok (.aload_n 0, 1) := by decide +kernel
theorem d_6_copyFrom_45 : decode prog_8_method_3_code 45 = .ok (.getfield 15, 3) := by decide +kernel
theorem d_6_copyFrom_48 : decode prog_8_method_3_code 48 = .ok (.iload_n 2, 1) := by decide +kernel
theorem d_6_copyFrom_49 : decode prog_8_method_3_code 49 = .ok (.aload_n 1, 1) := by decide +kernel
theorem d_6_copyFrom_50 : decode prog_8_method_3_code 50 = .ok (.getfield 15, 3) := by decide +kernel
theorem d_6_copyFrom_53 : decode prog_8_method_3_code 53 = .ok (.iload_n 2, 1) := by decide +kernel
theorem d_6_copyFrom_54 : decode prog_8_method_3_code 54 = .ok (.baload, 1) := by decide +kernel
theorem d_6_copyFrom_55 : decode prog_8_method_3_code 55 = .ok (.bastore, 1) := by decide +kernel
theorem d_6_copyFrom_56 : decode prog_8_method_3_code 56 = .ok (.iinc 2 1, 3) := by decide +kernel
theorem d_6_copyFrom_59 : decode prog_8_method_3_code 59 = .ok (.goto (-33), 3) := by decide +kernel
theorem d_6_copyFrom_62 : decode prog_8_method_3_code 62 = .ok (.return_, 1) := by decide +kernel
def m_6_copyFrom_26 (r0 : Nat) (r1 : Nat) (Q : St → Prop) (B26 : Int32 → St → Prop) (x2 : Int32) (σ : St) : Prop :=
  (((40 : Int32) ≤ x2 → Q σ) ∧ (¬ (40 : Int32) ≤ x2 → vp_in x2 40 ∧ vp_in x2 40 ∧ ∀ σ_1 : St, σ_1 = wr σ (r0 + 1) (x2).toNatClampNeg (σ.1 (r1 + 1) (x2).toNatClampNeg) → vp_in x2 40 ∧ vp_in x2 40 ∧ ∀ σ_2 : St, σ_2 = wr σ_1 (r0 + 2) (x2).toNatClampNeg (vp_nar .boolean (σ_1.1 (r1 + 2) (x2).toNatClampNeg)) → ∀ x2_3 : Int32, x2_3 = x2 + 1 → B26 x2_3 σ_2))
def m_6_copyFrom (r0 : Nat) (r1 : Nat) (Q : St → Prop) (σ : St) : Prop :=
  ∀ σ_1 : St, σ_1 = wr σ r0 0 (σ.1 r1 0) → ∀ σ_2 : St, σ_2 = wr σ_1 r0 1 (σ_1.1 r1 1) → ∀ σ_3 : St, σ_3 = wr σ_2 r0 2 (σ_2.1 r1 2) → itN (m_6_copyFrom_26 r0 r1 Q) (fun _ _ => False) FU (0 : Int32) σ_3
theorem d_1_copyFrom_0 : decode prog_3_method_2_code 0 = .ok (.aload_n 0, 1) := by decide +kernel
theorem d_1_copyFrom_1 : decode prog_3_method_2_code 1 = .ok (.aload_n 1, 1) := by decide +kernel
theorem d_1_copyFrom_2 : decode prog_3_method_2_code 2 = .ok (.getfield 7, 3) := by decide +kernel
theorem d_1_copyFrom_5 : decode prog_3_method_2_code 5 = .ok (.putfield 7, 3) := by decide +kernel
theorem d_1_copyFrom_8 : decode prog_3_method_2_code 8 = .ok (.aload_n 0, 1) := by decide +kernel
theorem d_1_copyFrom_9 : decode prog_3_method_2_code 9 = .ok (.aload_n 1, 1) := by decide +kernel
theorem d_1_copyFrom_10 : decode prog_3_method_2_code 10 = .ok (.getfield 13, 3) := by decide +kernel
theorem d_1_copyFrom_13 : decode prog_3_method_2_code 13 = .ok (.putfield 13, 3) := by decide +kernel
theorem d_1_copyFrom_16 : decode prog_3_method_2_code 16 = .ok (.aload_n 0, 1) := by decide +kernel
theorem d_1_copyFrom_17 : decode prog_3_method_2_code 17 = .ok (.aload_n 1, 1) := by decide +kernel
theorem d_1_copyFrom_18 : decode prog_3_method_2_code 18 = .ok (.getfield 16, 3) := by decide +kernel
theorem d_1_copyFrom_21 : decode prog_3_method_2_code 21 = .ok (.putfield 16, 3) := by decide +kernel
theorem d_1_copyFrom_24 : decode prog_3_method_2_code 24 = .ok (.aload_n 0, 1) := by decide +kernel
theorem d_1_copyFrom_25 : decode prog_3_method_2_code 25 = .ok (.aload_n 1, 1) := by decide +kernel
theorem d_1_copyFrom_26 : decode prog_3_method_2_code 26 = .ok (.getfield 19, 3) := by decide +kernel
theorem d_1_copyFrom_29 : decode prog_3_method_2_code 29 = .ok (.putfield 19, 3) := by decide +kernel
theorem d_1_copyFrom_32 : decode prog_3_method_2_code 32 = .ok (.return_, 1) := by decide +kernel
def m_1_copyFrom (r0 : Nat) (r1 : Nat) (Q : St → Prop) (σ : St) : Prop :=
  ∀ σ_1 : St, σ_1 = wr σ r0 0 (σ.1 r1 0) → ∀ σ_2 : St, σ_2 = wr σ_1 r0 1 (σ_1.1 r1 1) → ∀ σ_3 : St, σ_3 = wr σ_2 r0 2 (σ_2.1 r1 2) → ∀ σ_4 : St, σ_4 = wr σ_3 r0 3 (σ_3.1 r1 3) → Q σ_4
theorem d_4_copyFrom_0 : decode prog_6_method_3_code 0 = .ok (.aload_n 0, 1) := by decide +kernel
theorem d_4_copyFrom_1 : decode prog_6_method_3_code 1 = .ok (.aload_n 1, 1) := by decide +kernel
theorem d_4_copyFrom_2 : decode prog_6_method_3_code 2 = .ok (.getfield 9, 3) := by decide +kernel
theorem d_4_copyFrom_5 : decode prog_6_method_3_code 5 = .ok (.putfield 9, 3) := by decide +kernel
theorem d_4_copyFrom_8 : decode prog_6_method_3_code 8 = .ok (.aload_n 0, 1) := by decide +kernel
theorem d_4_copyFrom_9 : decode prog_6_method_3_code 9 = .ok (.aload_n 1, 1) := by decide +kernel
theorem d_4_copyFrom_10 : decode prog_6_method_3_code 10 = .ok (.getfield 15, 3) := by decide +kernel
theorem d_4_copyFrom_13 : decode prog_6_method_3_code 13 = .ok (.putfield 15, 3) := by decide +kernel
theorem d_4_copyFrom_16 : decode prog_6_method_3_code 16 = .ok (.aload_n 0, 1) := by decide +kernel
theorem d_4_copyFrom_17 : decode prog_6_method_3_code 17 = .ok (.aload_n 1, 1) := by decide +kernel
theorem d_4_copyFrom_18 : decode prog_6_method_3_code 18 = .ok (.getfield 18, 3) := by decide +kernel
theorem d_4_copyFrom_21 : decode prog_6_method_3_code 21 = .ok (.putfield 18, 3) := by decide +kernel
theorem d_4_copyFrom_24 : decode prog_6_method_3_code 24 = .ok (.aload_n 0, 1) := by decide +kernel
theorem d_4_copyFrom_25 : decode prog_6_method_3_code 25 = .ok (.aload_n 1, 1) := by decide +kernel
theorem d_4_copyFrom_26 : decode prog_6_method_3_code 26 = .ok (.getfield 21, 3) := by decide +kernel
theorem d_4_copyFrom_29 : decode prog_6_method_3_code 29 = .ok (.putfield 21, 3) := by decide +kernel
theorem d_4_copyFrom_32 : decode prog_6_method_3_code 32 = .ok (.aload_n 0, 1) := by decide +kernel
theorem d_4_copyFrom_33 : decode prog_6_method_3_code 33 = .ok (.aload_n 1, 1) := by decide +kernel
theorem d_4_copyFrom_34 : decode prog_6_method_3_code 34 = .ok (.getfield 24, 3) := by decide +kernel
theorem d_4_copyFrom_37 : decode prog_6_method_3_code 37 = .ok (.putfield 24, 3) := by decide +kernel
theorem d_4_copyFrom_40 : decode prog_6_method_3_code 40 = .ok (.aload_n 0, 1) := by decide +kernel
theorem d_4_copyFrom_41 : decode prog_6_method_3_code 41 = .ok (.aload_n 1, 1) := by decide +kernel
theorem d_4_copyFrom_42 : decode prog_6_method_3_code 42 = .ok (.getfield 27, 3) := by decide +kernel
theorem d_4_copyFrom_45 : decode prog_6_method_3_code 45 = .ok (.putfield 27, 3) := by decide +kernel
theorem d_4_copyFrom_48 : decode prog_6_method_3_code 48 = .ok (.return_, 1) := by decide +kernel
def m_4_copyFrom (r0 : Nat) (r1 : Nat) (Q : St → Prop) (σ : St) : Prop :=
  ∀ σ_1 : St, σ_1 = wr σ r0 0 (σ.1 r1 0) → ∀ σ_2 : St, σ_2 = wr σ_1 r0 1 (σ_1.1 r1 1) → ∀ σ_3 : St, σ_3 = wr σ_2 r0 2 (σ_2.1 r1 2) → ∀ σ_4 : St, σ_4 = wr σ_3 r0 3 (σ_3.1 r1 3) → ∀ σ_5 : St, σ_5 = wr σ_4 r0 4 (σ_4.1 r1 4) → ∀ σ_6 : St, σ_6 = wr σ_5 r0 5 (σ_5.1 r1 5) → Q σ_6
theorem d_8_copyFrom_0 : decode prog_10_method_2_code 0 = .ok (.aload_n 0, 1) := by decide +kernel
theorem d_8_copyFrom_1 : decode prog_10_method_2_code 1 = .ok (.aload_n 1, 1) := by decide +kernel
theorem d_8_copyFrom_2 : decode prog_10_method_2_code 2 = .ok (.getfield 52, 3) := by decide +kernel
theorem d_8_copyFrom_5 : decode prog_10_method_2_code 5 = .ok (.putfield 52, 3) := by decide +kernel
theorem d_8_copyFrom_8 : decode prog_10_method_2_code 8 = .ok (.iconst 0, 1) := by decide +kernel
theorem d_8_copyFrom_9 : decode prog_10_method_2_code 9 = .ok (.istore_n 2, 1) := by decide +kernel
theorem d_8_copyFrom_10 : decode prog_10_method_2_code 10 = .ok (.iload_n 2, 1) := by decide +kernel
theorem d_8_copyFrom_11 : decode prog_10_method_2_code 11 = .ok (.aload_n 0, 1) := by decide +kernel
theorem d_8_copyFrom_12 : decode prog_10_method_2_code 12 = .ok (.getfield 52, 3) := by decide +kernel
theorem d_8_copyFrom_15 : decode prog_10_method_2_code 15 = .ok (.if_icmp .ge 24, 3) := by decide +kernel
theorem d_8_copyFrom_18 : decode prog_10_method_2_code 18 = .ok (.aload_n 0, 1) := by decide +kernel
theorem d_8_copyFrom_19 : decode prog_10_method_2_code 19 = .ok (.getfield 11, 3) := by decide +kernel
theorem d_8_copyFrom_22 : decode prog_10_method_2_code 22 = .ok (.iload_n 2, 1) := by decide +kernel
theorem d_8_copyFrom_23 : decode prog_10_method_2_code 23 = .ok (.aaload, 1) := by decide +kernel
theorem d_8_copyFrom_24 : decode prog_10_method_2_code 24 = .ok (.aload_n 1, 1) := by decide +kernel
theorem d_8_copyFrom_25 : decode prog_10_method_2_code 25 = .ok (.getfield 11, 3) := by decide +kernel
theorem d_8_copyFrom_28 : decode prog_10_method_2_code 28 = .ok (.iload_n 2, 1) := by decide +kernel
theorem d_8_copyFrom_29 : decode prog_10_method_2_code 29 = .ok (.aaload, 1) := by decide +kernel
theorem d_8_copyFrom_30 : decode prog_10_method_2_code 30 = .ok (.invokevirtual 55, 3) := by decide +kernel
theorem d_8_copyFrom_33 : decode prog_10_method_2_code 33 = .ok (.iinc 2 1, 3) := by decide +kernel
theorem d_8_copyFrom_36 : decode prog_10_method_2_code 36 = .ok (.goto (-26), 3) := by decide +kernel
theorem d_8_copyFrom_39 : decode prog_10_method_2_code 39 = .ok (.aload_n 0, 1) := by decide +kernel
theorem d_8_copyFrom_40 : decode prog_10_method_2_code 40 = .ok (.aload_n 1, 1) := by decide +kernel
theorem d_8_copyFrom_41 : decode prog_10_method_2_code 41 = .ok (.getfield 59, 3) := by decide +kernel
theorem d_8_copyFrom_44 : decode prog_10_method_2_code 44 = .ok (.putfield 59, 3) := by decide +kernel
theorem d_8_copyFrom_47 : decode prog_10_method_2_code 47 = .ok (.iconst 0, 1) := by decide +kernel
theorem d_8_copyFrom_48 : decode prog_10_method_2_code 48 = .ok (.istore_n 2, 1) := by decide +kernel
theorem d_8_copyFrom_49 : decode prog_10_method_2_code 49 = .ok (.iload_n 2, 1) := by decide +kernel
theorem d_8_copyFrom_50 : decode prog_10_method_2_code 50 = .ok (.aload_n 0, 1) := by decide +kernel
theorem d_8_copyFrom_51 : decode prog_10_method_2_code 51 = .ok (.getfield 59, 3) := by decide +kernel
theorem d_8_copyFrom_54 : decode prog_10_method_2_code 54 = .ok (.if_icmp .ge 24, 3) := by decide +kernel
theorem d_8_copyFrom_57 : decode prog_10_method_2_code 57 = .ok (.aload_n 0, 1) := by decide +kernel
theorem d_8_copyFrom_58 : decode prog_10_method_2_code 58 = .ok (.getfield 19, 3) := by decide +kernel
theorem d_8_copyFrom_61 : decode prog_10_method_2_code 61 = .ok (.iload_n 2, 1) := by decide +kernel
theorem d_8_copyFrom_62 : decode prog_10_method_2_code 62 = .ok (.aaload, 1) := by decide +kernel
theorem d_8_copyFrom_63 : decode prog_10_method_2_code 63 = .ok (.aload_n 1, 1) := by decide +kernel
theorem d_8_copyFrom_64 : decode prog_10_method_2_code 64 = .ok (.getfield 19, 3) := by decide +kernel
theorem d_8_copyFrom_67 : decode prog_10_method_2_code 67 = .ok (.iload_n 2, 1) := by decide +kernel
theorem d_8_copyFrom_68 : decode prog_10_method_2_code 68 = .ok (.aaload, 1) := by decide +kernel
theorem d_8_copyFrom_69 : decode prog_10_method_2_code 69 = .ok (.invokevirtual 62, 3) := by decide +kernel
theorem d_8_copyFrom_72 : decode prog_10_method_2_code 72 = .ok (.iinc 2 1, 3) := by decide +kernel
theorem d_8_copyFrom_75 : decode prog_10_method_2_code 75 = .ok (.goto (-26), 3) := by decide +kernel
theorem d_8_copyFrom_78 : decode prog_10_method_2_code 78 = .ok (.aload_n 0, 1) := by decide +kernel
theorem d_8_copyFrom_79 : decode prog_10_method_2_code 79 = .ok (.aload_n 1, 1) := by decide +kernel
theorem d_8_copyFrom_80 : decode prog_10_method_2_code 80 = .ok (.getfield 65, 3) := by decide +kernel
theorem d_8_copyFrom_83 : decode prog_10_method_2_code 83 = .ok (.putfield 65, 3) := by decide +kernel
theorem d_8_copyFrom_86 : decode prog_10_method_2_code 86 = .ok (.aload_n 1, 1) := by decide +kernel
theorem d_8_copyFrom_87 : decode prog_10_method_2_code 87 = .ok (.getfield 23, 3) := by decide +kernel
theorem d_8_copyFrom_90 : decode prog_10_method_2_code 90 = .ok (.iconst 0, 1) := by decide +kernel
theorem d_8_copyFrom_91 : decode prog_10_method_2_code 91 = .ok (.aload_n 0, 1) := by decide +kernel
theorem d_8_copyFrom_92 : decode prog_10_method_2_code 92 = .ok (.getfield 23, 3) := by decide +kernel
theorem d_8_copyFrom_95 : decode prog_10_method_2_code 95 = .ok (.iconst 0, 1) := by decide +kernel
theorem d_8_copyFrom_96 : decode prog_10_method_2_code 96 = .ok (.bipush 6, 2) := by decide +kernel
theorem d_8_copyFrom_98 : decode prog_10_method_2_code 98 = .ok (.invokestatic 42, 3) := by decide +kernel
theorem d_8_copyFrom_101 : decode prog_10_method_2_code 101 = .ok (.aload_n 0, 1) := by decide +kernel
theorem d_8_copyFrom_102 : decode prog_10_method_2_code 102 = .ok (.aload_n 1, 1) := by decide +kernel
theorem d_8_copyFrom_103 : decode prog_10_method_2_code 103 = .ok (.getfield 48, 3) := by decide +kernel
theorem d_8_copyFrom_106 : decode prog_10_method_2_code 106 = .ok (.putfield 48, 3) := by decide +kernel
theorem d_8_copyFrom_109 : decode prog_10_method_2_code 109 = .ok (.aload_n 0, 1) := by decide +kernel
theorem d_8_copyFrom_110 : decode prog_10_method_2_code 110 = .ok (.aload_n 1, 1) := by decide +kernel
theorem d_8_copyFrom_111 : decode prog_10_method_2_code 111 = .ok (.getfield 69, 3) := by decide +kernel
theorem d_8_copyFrom_114 : decode prog_10_method_2_code 114 = .ok (.putfield 69, 3) := by decide +kernel
theorem d_8_copyFrom_117 : decode prog_10_method_2_code 117 = .ok (.aload_n 1, 1) := by decide +kernel
theorem d_8_copyFrom_118 : decode prog_10_method_2_code 118 = .ok (.getfield 27, 3) := by decide +kernel
theorem d_8_copyFrom_121 : decode prog_10_method_2_code 121 = .ok (.iconst 0, 1) := by decide +kernel
theorem d_8_copyFrom_122 : decode prog_10_method_2_code 122 = .ok (.aload_n 0, 1) := by decide +kernel
theorem d_8_copyFrom_123 : decode prog_10_method_2_code 123 = .ok (.getfield 27, 3) := by decide +kernel
theorem d_8_copyFrom_126 : decode prog_10_method_2_code 126 = .ok (.iconst 0, 1) := by decide +kernel
theorem d_8_copyFrom_127 : decode prog_10_method_2_code 127 = .ok (.bipush 6, 2) := by decide +kernel
theorem d_8_copyFrom_129 : decode prog_10_method_2_code 129 = .ok (.invokestatic 42, 3) := by decide +kernel
theorem d_8_copyFrom_132 : decode prog_10_method_2_code 132 = .ok (.aload_n 0, 1) := by decide +kernel
theorem d_8_copyFrom_133 : decode prog_10_method_2_code 133 = .ok (.getfield 33, 3) := by decide +kernel
theorem d_8_copyFrom_136 : decode prog_10_method_2_code 136 = .ok (.aload_n 1, 1) := by decide +kernel
theorem d_8_copyFrom_137 : decode prog_10_method_2_code 137 = .ok (.getfield 33, 3) := by decide +kernel
theorem d_8_copyFrom_140 : decode prog_10_method_2_code 140 = .ok (.invokevirtual 72, 3) := by decide +kernel
theorem d_8_copyFrom_143 : decode prog_10_method_2_code 143 = .ok (.aload_n 0, 1) := by decide +kernel
theorem d_8_copyFrom_144 : decode prog_10_method_2_code 144 = .ok (.aload_n 1, 1) := by decide +kernel
theorem d_8_copyFrom_145 : decode prog_10_method_2_code 145 = .ok (.getfield 75, 3) := by decide +kernel
theorem d_8_copyFrom_148 : decode prog_10_method_2_code 148 = .ok (.putfield 75, 3) := by decide +kernel
theorem d_8_copyFrom_151 : decode prog_10_method_2_code 151 = .ok (.aload_n 0, 1) := by decide +kernel
theorem d_8_copyFrom_152 : decode prog_10_method_2_code 152 = .ok (.aload_n 1, 1) := by decide +kernel
theorem d_8_copyFrom_153 : decode prog_10_method_2_code 153 = .ok (.getfield 78, 3) := by decide +kernel
theorem d_8_copyFrom_156 : decode prog_10_method_2_code 156 = .ok (.putfield 78, 3) := by decide +kernel
theorem d_8_copyFrom_159 : decode prog_10_method_2_code 159 = .ok (.return_, 1) := by decide +kernel
def m_8_copyFrom_49 (r0 : Nat) (r1 : Nat) (Q : St → Prop) (B49 : Int32 → St → Prop) (x2 : Int32) (σ : St) : Prop :=
  (((σ.1 r0 3) ≤ x2 → isB (σ.1 r1 4) ∧ ∀ σ_1 : St, σ_1 = wr σ r0 4 (σ.1 r1 4) → ¬ (6 : Int32) < 0 ∧ ((6 : Int32)).toNatClampNeg ≤ 6 ∧ ((6 : Int32)).toNatClampNeg ≤ 6 ∧ ∀ σ_2 : St, σ_2 = wrA σ_1 (r0 + 3) (va_cpy (σ_1.1 (r1 + 3)) (σ_1.1 (r0 + 3)) 0 0 ((6 : Int32)).toNatClampNeg) → ∀ σ_3 : St, σ_3 = wr σ_2 r0 6 (σ_2.1 r1 6) → ∀ σ_4 : St, σ_4 = wr σ_3 r0 7 (σ_3.1 r1 7) → ¬ (6 : Int32) < 0 ∧ ((6 : Int32)).toNatClampNeg ≤ 6 ∧ ((6 : Int32)).toNatClampNeg ≤ 6 ∧ ∀ σ_5 : St, σ_5 = wrA σ_4 (r0 + 4) (va_cpy (σ_4.1 (r1 + 4)) (σ_4.1 (r0 + 4)) 0 0 ((6 : Int32)).toNatClampNeg) → m_4_copyFrom (r0 + 5) (r1 + 5) (fun (σ_6 : St) => ∀ σ_8 : St, σ_8 = wr σ_6 r0 10 (σ_6.1 r1 10) → ∀ σ_9 : St, σ_9 = wr σ_8 r0 11 (σ_8.1 r1 11) → Q σ_9) σ_5) ∧ (¬ (σ.1 r0 3) ≤ x2 → vp_in x2 10 ∧ vp_in x2 10 ∧ m_1_copyFrom ((r0 + 2) + 22 + (x2).toNatClampNeg) ((r1 + 2) + 22 + (x2).toNatClampNeg) (fun (σ_12 : St) => ∀ x2_14 : Int32, x2_14 = x2 + 1 → B49 x2_14 σ_12) σ))
def m_8_copyFrom_10 (r0 : Nat) (r1 : Nat) (Q : St → Prop) (B10 : Int32 → St → Prop) (x2 : Int32) (σ : St) : Prop :=
  (((σ.1 r0 1) ≤ x2 → ∀ σ_1 : St, σ_1 = wr σ r0 3 (σ.1 r1 3) → itN (m_8_copyFrom_49 r0 r1 Q) (fun _ _ => False) FU (0 : Int32) σ_1) ∧ (¬ (σ.1 r0 1) ≤ x2 → vp_in x2 6 ∧ vp_in x2 6 ∧ m_6_copyFrom ((r0 + 1) + 5 + 3 * (x2).toNatClampNeg) ((r1 + 1) + 5 + 3 * (x2).toNatClampNeg) (fun (σ_4 : St) => ∀ x2_6 : Int32, x2_6 = x2 + 1 → B10 x2_6 σ_4) σ))
def m_8_copyFrom (r0 : Nat) (r1 : Nat) (Q : St → Prop) (σ : St) : Prop :=
  ∀ σ_1 : St, σ_1 = wr σ r0 1 (σ.1 r1 1) → itN (m_8_copyFrom_10 r0 r1 Q) (fun _ _ => False) FU (0 : Int32) σ_1
theorem d_0_remember_0 : decode prog_2_method_2_code 0 = .ok (.aload_n 0, 1) := by decide +kernel
theorem d_0_remember_1 : decode prog_2_method_2_code 1 = .ok (.getfield 11, 3) := by decide +kernel
theorem d_0_remember_4 : decode prog_2_method_2_code 4 = .ok (.aload_n 0, 1) := by decide +kernel
theorem d_0_remember_5 : decode prog_2_method_2_code 5 = .ok (.getfield 18, 3) := by decide +kernel
theorem d_0_remember_8 : decode prog_2_method_2_code 8 = .ok (.aaload, 1) := by decide +kernel
theorem d_0_remember_9 : decode prog_2_method_2_code 9 = .ok (.aload_n 1, 1) := by decide +kernel
theorem d_0_remember_10 : decode prog_2_method_2_code 10 = .ok (.invokevirtual 22, 3) := by decide +kernel
theorem d_0_remember_13 : decode prog_2_method_2_code 13 = .ok (.aload_n 0, 1) := by decide +kernel
theorem d_0_remember_14 : decode prog_2_method_2_code 14 = .ok (.aload_n 0, 1) := by decide +kernel
theorem d_0_remember_15 : decode prog_2_method_2_code 15 = .ok (.getfield 18, 3) := by decide +kernel
theorem d_0_remember_18 : decode prog_2_method_2_code 18 = .ok (.iconst 1, 1) := by decide +kernel
theorem d_0_remember_19 : decode prog_2_method_2_code 19 = .ok (.iadd, 1) := by decide +kernel
theorem d_0_remember_20 : decode prog_2_method_2_code 20 = .ok (.bipush 8, 2) := by decide +kernel
theorem d_0_remember_22 : decode prog_2_method_2_code 22 = .ok (.irem, 1) := by decide +kernel
theorem d_0_remember_23 : decode prog_2_method_2_code 23 = .ok (.putfield 18, 3) := by decide +kernel
theorem d_0_remember_26 : decode prog_2_method_2_code 26 = .ok (.aload_n 0, 1) := by decide +kernel
theorem d_0_remember_27 : decode prog_2_method_2_code 27 = .ok (.aload_n 0, 1) := by decide +kernel
theorem d_0_remember_28 : decode prog_2_method_2_code 28 = .ok (.getfield 26, 3) := by decide +kernel
theorem d_0_remember_31 : decode prog_2_method_2_code 31 = .ok (.iconst 1, 1) := by decide +kernel
theorem d_0_remember_32 : decode prog_2_method_2_code 32 = .ok (.iadd, 1) := by decide +kernel
theorem d_0_remember_33 : decode prog_2_method_2_code 33 = .ok (.bipush 8, 2) := by decide +kernel
theorem d_0_remember_35 : decode prog_2_method_2_code 35 = .ok (.invokestatic 29, 3) := by decide +kernel
theorem d_0_remember_38 : decode prog_2_method_2_code 38 = .ok (.putfield 26, 3) := by decide +kernel
theorem d_0_remember_41 : decode prog_2_method_2_code 41 = .ok (.return_, 1) := by decide +kernel
def m_0_remember (r0 : Nat) (r1 : Nat) (Q : St → Prop) (σ : St) : Prop :=
  vp_in (σ.1 r0 1) 8 ∧ m_8_copyFrom ((r0 + 1) + 1 + 34 * ((σ.1 r0 1)).toNatClampNeg) r1 (fun (σ_2 : St) => ∀ σ_4 : St, σ_4 = wr σ_2 r0 1 (((σ_2.1 r0 1) + (1 : Int32)) - ((σ_2.1 r0 1) + (1 : Int32)) / (8 : Int32) * (8 : Int32)) → ∀ σ_5 : St, σ_5 = wr σ_4 r0 2 (if (8 : Int32) < ((σ_4.1 r0 2) + (1 : Int32)) then (8 : Int32) else ((σ_4.1 r0 2) + (1 : Int32))) → Q σ_5) σ
theorem d_6_dirtOfSide_0 : decode prog_8_method_4_code 0 = .ok (.iconst 0, 1) := by decide +kernel
theorem d_6_dirtOfSide_1 : decode prog_8_method_4_code 1 = .ok (.istore_n 2, 1) := by decide +kernel
theorem d_6_dirtOfSide_2 : decode prog_8_method_4_code 2 = .ok (.iconst 0, 1) := by decide +kernel
theorem d_6_dirtOfSide_3 : decode prog_8_method_4_code 3 = .ok (.istore_n 3, 1) := by decide +kernel
theorem d_6_dirtOfSide_4 : decode prog_8_method_4_code 4 = .ok (.iload_n 3, 1) := by decide +kernel
theorem d_6_dirtOfSide_5 : decode prog_8_method_4_code 5 = .ok (.aload_n 0, 1) := by decide +kernel
theorem d_6_dirtOfSide_6 : decode prog_8_method_4_code 6 = .ok (.getfield 19, 3) := by decide +kernel
theorem d_6_dirtOfSide_9 : decode prog_8_method_4_code 9 = .ok (.if_icmp .ge 22, 3) := by decide +kernel
theorem d_6_dirtOfSide_12 : decode prog_8_method_4_code 12 = .ok (.iload_n 2, 1) := by decide +kernel
theorem d_6_dirtOfSide_13 : decode prog_8_method_4_code 13 = .ok (.aload_n 0, 1) := by decide +kernel
theorem d_6_dirtOfSide_14 : decode prog_8_method_4_code 14 = .ok (.getfield 9, 3) := by decide +kernel
theorem d_6_dirtOfSide_17 : decode prog_8_method_4_code 17 = .ok (.iload_n 1, 1) := by decide +kernel
theorem d_6_dirtOfSide_18 : decode prog_8_method_4_code 18 = .ok (.iload_n 3, 1) := by decide +kernel
theorem d_6_dirtOfSide_19 : decode prog_8_method_4_code 19 = .ok (.invokestatic 29, 3) := by decide +kernel
theorem d_6_dirtOfSide_22 : decode prog_8_method_4_code 22 = .ok (.iaload, 1) := by decide +kernel
theorem d_6_dirtOfSide_23 : decode prog_8_method_4_code 23 = .ok (.iadd, 1) := by decide +kernel
theorem d_6_dirtOfSide_24 : decode prog_8_method_4_code 24 = .ok (.istore_n 2, 1) := by decide +kernel
theorem d_6_dirtOfSide_25 : decode prog_8_method_4_code 25 = .ok (.iinc 3 1, 3) := by decide +kernel
theorem d_6_dirtOfSide_28 : decode prog_8_method_4_code 28 = .ok (.goto (-24), 3) := by decide +kernel
theorem d_6_dirtOfSide_31 : decode prog_8_method_4_code 31 = .ok (.iload_n 2, 1) := by decide +kernel
theorem d_6_dirtOfSide_32 : decode prog_8_method_4_code 32 = .ok (.ireturn, 1) := by decide +kernel
def m_6_dirtOfSide_4 (r0 : Nat) (x1 : Int32) (Q : Int32 → St → Prop) (B4 : Int32 → Int32 → St → Prop) (x2 : Int32) (x3 : Int32) (σ : St) : Prop :=
  (((σ.1 r0 0) ≤ x3 → Q x2 σ) ∧ (¬ (σ.1 r0 0) ≤ x3 → m_9_placeOf x1 x3 (fun (v_2 : Int32) (σ_1 : St) => vp_in v_2 40 ∧ ∀ x2_3 : Int32, x2_3 = (x2 + (σ_1.1 (r0 + 1) (v_2).toNatClampNeg)) → ∀ x3_4 : Int32, x3_4 = x3 + 1 → B4 x2_3 x3_4 σ_1) σ))
def m_6_dirtOfSide (r0 : Nat) (x1 : Int32) (Q : Int32 → St → Prop) (σ : St) : Prop :=
  itN (m_6_dirtOfSide_4 r0 x1 Q) (fun _ _ _ => False) FU (0 : Int32) (0 : Int32) σ
theorem d_6_allDirt_0 : decode prog_8_method_5_code 0 = .ok (.aload_n 0, 1) := by decide +kernel
theorem d_6_allDirt_1 : decode prog_8_method_5_code 1 = .ok (.iconst 0, 1) := by decide +kernel
theorem d_6_allDirt_2 : decode prog_8_method_5_code 2 = .ok (.invokevirtual 33, 3) := by decide +kernel
theorem d_6_allDirt_5 : decode prog_8_method_5_code 5 = .ok (.aload_n 0, 1) := by decide +kernel
theorem d_6_allDirt_6 : decode prog_8_method_5_code 6 = .ok (.iconst 1, 1) := by decide +kernel
theorem d_6_allDirt_7 : decode prog_8_method_5_code 7 = .ok (.invokevirtual 33, 3) := by decide +kernel
theorem d_6_allDirt_10 : decode prog_8_method_5_code 10 = .ok (.iadd, 1) := by decide +kernel
theorem d_6_allDirt_11 : decode prog_8_method_5_code 11 = .ok (.ireturn, 1) := by decide +kernel
def m_6_allDirt (r0 : Nat) (Q : Int32 → St → Prop) (σ : St) : Prop :=
  m_6_dirtOfSide r0 (0 : Int32) (fun (v_2 : Int32) (σ_1 : St) => m_6_dirtOfSide r0 (1 : Int32) (fun (v_4 : Int32) (σ_3 : St) => Q (v_2 + v_4) σ_3) σ_1) σ
theorem d_8_putStreet_0 : decode prog_10_method_8_code 0 = .ok (.iload_n 1, 1) := by decide +kernel
theorem d_8_putStreet_1 : decode prog_10_method_8_code 1 = .ok (.aload_n 0, 1) := by decide +kernel
theorem d_8_putStreet_2 : decode prog_10_method_8_code 2 = .ok (.getfield 52, 3) := by decide +kernel
theorem d_8_putStreet_5 : decode prog_10_method_8_code 5 = .ok (.if_icmp .ge 24, 3) := by decide +kernel
theorem d_8_putStreet_8 : decode prog_10_method_8_code 8 = .ok (.aload_n 0, 1) := by decide +kernel
theorem d_8_putStreet_9 : decode prog_10_method_8_code 9 = .ok (.getfield 27, 3) := by decide +kernel
theorem d_8_putStreet_12 : decode prog_10_method_8_code 12 = .ok (.iconst 2, 1) := by decide +kernel
theorem d_8_putStreet_13 : decode prog_10_method_8_code 13 = .ok (.dup2, 1) := by decide +kernel
theorem d_8_putStreet_14 : decode prog_10_method_8_code 14 = .ok (.iaload, 1) := by decide +kernel
theorem d_8_putStreet_15 : decode prog_10_method_8_code 15 = .ok (.aload_n 0, 1) := by decide +kernel
theorem d_8_putStreet_16 : decode prog_10_method_8_code 16 = .ok (.getfield 11, 3) := by decide +kernel
theorem d_8_putStreet_19 : decode prog_10_method_8_code 19 = .ok (.iload_n 1, 1) := by decide +kernel
theorem d_8_putStreet_20 : decode prog_10_method_8_code 20 = .ok (.aaload, 1) := by decide +kernel
theorem d_8_putStreet_21 : decode prog_10_method_8_code 21 = .ok (.invokevirtual 88, 3) := by decide +kernel
theorem d_8_putStreet_24 : decode prog_10_method_8_code 24 = .ok (.iadd, 1) := by decide +kernel
theorem d_8_putStreet_25 : decode prog_10_method_8_code 25 = .ok (.iastore, 1) := by decide +kernel
theorem d_8_putStreet_26 : decode prog_10_method_8_code 26 = .ok (.goto 13, 3) := by decide +kernel
theorem d_8_putStreet_29 : decode prog_10_method_8_code 29 = .ok (.aload_n 0, 1) := by decide +kernel
theorem d_8_putStreet_30 : decode prog_10_method_8_code 30 = .ok (.dup, 1) := by decide +kernel
theorem d_8_putStreet_31 : decode prog_10_method_8_code 31 = .ok (.getfield 52, 3) := by decide +kernel
theorem d_8_putStreet_34 : decode prog_10_method_8_code 34 = .ok (.iconst 1, 1) := by decide +kernel
theorem d_8_putStreet_35 : decode prog_10_method_8_code 35 = .ok (.iadd, 1) := by decide +kernel
theorem d_8_putStreet_36 : decode prog_10_method_8_code 36 = .ok (.putfield 52, 3) := by decide +kernel
theorem d_8_putStreet_39 : decode prog_10_method_8_code 39 = .ok (.aload_n 0, 1) := by decide +kernel
theorem d_8_putStreet_40 : decode prog_10_method_8_code 40 = .ok (.getfield 11, 3) := by decide +kernel
theorem d_8_putStreet_43 : decode prog_10_method_8_code 43 = .ok (.iload_n 1, 1) := by decide +kernel
theorem d_8_putStreet_44 : decode prog_10_method_8_code 44 = .ok (.aaload, 1) := by decide +kernel
theorem d_8_putStreet_45 : decode prog_10_method_8_code 45 = .ok (.aload_n 2, 1) := by decide +kernel
theorem d_8_putStreet_46 : decode prog_10_method_8_code 46 = .ok (.invokevirtual 55, 3) := by decide +kernel
theorem d_8_putStreet_49 : decode prog_10_method_8_code 49 = .ok (.aload_n 0, 1) := by decide +kernel
theorem d_8_putStreet_50 : decode prog_10_method_8_code 50 = .ok (.getfield 27, 3) := by decide +kernel
theorem d_8_putStreet_53 : decode prog_10_method_8_code 53 = .ok (.iconst 0, 1) := by decide +kernel
theorem d_8_putStreet_54 : decode prog_10_method_8_code 54 = .ok (.dup2, 1) := by decide +kernel
theorem d_8_putStreet_55 : decode prog_10_method_8_code 55 = .ok (.iaload, 1) := by decide +kernel
theorem d_8_putStreet_56 : decode prog_10_method_8_code 56 = .ok (.aload_n 2, 1) := by decide +kernel
theorem d_8_putStreet_57 : decode prog_10_method_8_code 57 = .ok (.invokevirtual 88, 3) := by decide +kernel
theorem d_8_putStreet_60 : decode prog_10_method_8_code 60 = .ok (.iadd, 1) := by decide +kernel
theorem d_8_putStreet_61 : decode prog_10_method_8_code 61 = .ok (.iastore, 1) := by decide +kernel
theorem d_8_putStreet_62 : decode prog_10_method_8_code 62 = .ok (.aload_n 0, 1) := by decide +kernel
theorem d_8_putStreet_63 : decode prog_10_method_8_code 63 = .ok (.iconst 0, 1) := by decide +kernel
theorem d_8_putStreet_64 : decode prog_10_method_8_code 64 = .ok (.putfield 65, 3) := by decide +kernel
theorem d_8_putStreet_67 : decode prog_10_method_8_code 67 = .ok (.return_, 1) := by decide +kernel
def m_8_putStreet_39 (r0 : Nat) (x1 : Int32) (r2 : Nat) (Q : St → Prop) (σ : St) : Prop :=
  vp_in x1 6 ∧ m_6_copyFrom ((r0 + 1) + 5 + 3 * (x1).toNatClampNeg) r2 (fun (σ_2 : St) => vp_in (0 : Int32) 6 ∧ m_6_allDirt r2 (fun (v_5 : Int32) (σ_4 : St) => vp_in (0 : Int32) 6 ∧ ∀ σ_6 : St, σ_6 = wr σ_4 (r0 + 4) ((0 : Int32)).toNatClampNeg ((σ_2.1 (r0 + 4) ((0 : Int32)).toNatClampNeg) + v_5) → ∀ σ_7 : St, σ_7 = wr σ_6 r0 4 (0 : Int32) → Q σ_7) σ_2) σ
def m_8_putStreet (r0 : Nat) (x1 : Int32) (r2 : Nat) (Q : St → Prop) (σ : St) : Prop :=
  (((σ.1 r0 1) ≤ x1 → ∀ σ_1 : St, σ_1 = wr σ r0 1 ((σ.1 r0 1) + (1 : Int32)) → m_8_putStreet_39 r0 x1 r2 Q   σ_1) ∧ (¬ (σ.1 r0 1) ≤ x1 → vp_in (2 : Int32) 6 ∧ vp_in x1 6 ∧ m_6_allDirt ((r0 + 1) + 5 + 3 * (x1).toNatClampNeg) (fun (v_4 : Int32) (σ_3 : St) => vp_in (2 : Int32) 6 ∧ ∀ σ_5 : St, σ_5 = wr σ_3 (r0 + 4) ((2 : Int32)).toNatClampNeg ((σ.1 (r0 + 4) ((2 : Int32)).toNatClampNeg) + v_4) → m_8_putStreet_39 r0 x1 r2 Q   σ_5) σ))
theorem d_9_load_0 : decode prog_1_method_4_code 0 = .ok (.iload_n 1, 1) := by decide +kernel
theorem d_9_load_1 : decode prog_1_method_4_code 1 = .ok (.ifCond .lt 14, 3) := by decide +kernel
theorem d_9_load_4 : decode prog_1_method_4_code 4 = .ok (.iload_n 1, 1) := by decide +kernel
theorem d_9_load_5 : decode prog_1_method_4_code 5 = .ok (.aload_n 0, 1) := by decide +kernel
theorem d_9_load_6 : decode prog_1_method_4_code 6 = .ok (.getfield 26, 3) := by decide +kernel
theorem d_9_load_9 : decode prog_1_method_4_code 9 = .ok (.getfield 70, 3) := by decide +kernel
theorem d_9_load_12 : decode prog_1_method_4_code 12 = .ok (.if_icmp .le 5, 3) := by decide +kernel
theorem d_9_load_15 : decode prog_1_method_4_code 15 = .ok (.iconst (-1), 1) := by decide +kernel
theorem d_9_load_16 : decode prog_1_method_4_code 16 = .ok (.ireturn, 1) := by decide +kernel
theorem d_9_load_17 : decode prog_1_method_4_code 17 = .ok (.iload_n 1, 1) := by decide +kernel
theorem d_9_load_18 : decode prog_1_method_4_code 18 = .ok (.bipush 6, 2) := by decide +kernel
theorem d_9_load_20 : decode prog_1_method_4_code 20 = .ok (.if_icmp .lt 6, 3) := by decide +kernel
theorem d_9_load_23 : decode prog_1_method_4_code 23 = .ok (.bipush (-3), 2) := by decide +kernel
theorem d_9_load_25 : decode prog_1_method_4_code 25 = .ok (.ireturn, 1) := by decide +kernel
theorem d_9_load_26 : decode prog_1_method_4_code 26 = .ok (.aload_n 0, 1) := by decide +kernel
theorem d_9_load_27 : decode prog_1_method_4_code 27 = .ok (.aload_n 0, 1) := by decide +kernel
theorem d_9_load_28 : decode prog_1_method_4_code 28 = .ok (.getfield 19, 3) := by decide +kernel
theorem d_9_load_31 : decode prog_1_method_4_code 31 = .ok (.aload_n 0, 1) := by decide +kernel
theorem d_9_load_32 : decode prog_1_method_4_code 32 = .ok (.getfield 10, 3) := by decide +kernel
theorem d_9_load_35 : decode prog_1_method_4_code 35 = .ok (.invokevirtual 73, 3) := by decide +kernel
theorem d_9_load_38 : decode prog_1_method_4_code 38 = .ok (.putfield 59, 3) := by decide +kernel
theorem d_9_load_41 : decode prog_1_method_4_code 41 = .ok (.aload_n 0, 1) := by decide +kernel
theorem d_9_load_42 : decode prog_1_method_4_code 42 = .ok (.getfield 59, 3) := by decide +kernel
theorem d_9_load_45 : decode prog_1_method_4_code 45 = .ok (.ifCond .eq 14, 3) := by decide +kernel
theorem d_9_load_48 : decode prog_1_method_4_code 48 = .ok (.bipush (-10), 2) := by decide +kernel
theorem d_9_load_50 : decode prog_1_method_4_code 50 = .ok (.aload_n 0, 1) := by decide +kernel
theorem d_9_load_51 : decode prog_1_method_4_code 51 = .ok (.getfield 19, 3) := by decide +kernel
theorem d_9_load_54 : decode prog_1_method_4_code 54 = .ok (.getfield 77, 3) := by decide +kernel
theorem d_9_load_57 : decode prog_1_method_4_code 57 = .ok (.isub, 1) := by decide +kernel
theorem d_9_load_58 : decode prog_1_method_4_code 58 = .ok (.ireturn, 1) := by decide +kernel
theorem d_9_load_59 : decode prog_1_method_4_code 59 = .ok (.aload_n 0, 1) := by decide +kernel
theorem d_9_load_60 : decode prog_1_method_4_code 60 = .ok (.getfield 42, 3) := by decide +kernel
theorem d_9_load_63 : decode prog_1_method_4_code 63 = .ok (.aload_n 0, 1) := by decide +kernel
theorem d_9_load_64 : decode prog_1_method_4_code 64 = .ok (.getfield 26, 3) := by decide +kernel
theorem d_9_load_67 : decode prog_1_method_4_code 67 = .ok (.invokevirtual 80, 3) := by decide +kernel
theorem d_9_load_70 : decode prog_1_method_4_code 70 = .ok (.aload_n 0, 1) := by decide +kernel
theorem d_9_load_71 : decode prog_1_method_4_code 71 = .ok (.getfield 26, 3) := by decide +kernel
theorem d_9_load_74 : decode prog_1_method_4_code 74 = .ok (.iload_n 1, 1) := by decide +kernel
theorem d_9_load_75 : decode prog_1_method_4_code 75 = .ok (.aload_n 0, 1) := by decide +kernel
theorem d_9_load_76 : decode prog_1_method_4_code 76 = .ok (.getfield 19, 3) := by decide +kernel
theorem d_9_load_79 : decode prog_1_method_4_code 79 = .ok (.getfield 83, 3) := by decide +kernel
theorem d_9_load_82 : decode prog_1_method_4_code 82 = .ok (.invokevirtual 87, 3) := by decide +kernel
theorem d_9_load_85 : decode prog_1_method_4_code 85 = .ok (.aload_n 0, 1) := by decide +kernel
theorem d_9_load_86 : decode prog_1_method_4_code 86 = .ok (.getfield 19, 3) := by decide +kernel
theorem d_9_load_89 : decode prog_1_method_4_code 89 = .ok (.getfield 83, 3) := by decide +kernel
theorem d_9_load_92 : decode prog_1_method_4_code 92 = .ok (.getfield 91, 3) := by decide +kernel
theorem d_9_load_95 : decode prog_1_method_4_code 95 = .ok (.ireturn, 1) := by decide +kernel
def m_9_load (r0 : Nat) (x1 : Int32) (Q : Int32 → St → Prop) (σ : St) : Prop :=
  ((x1 < 0 → Q (-1 : Int32) σ) ∧ (¬ x1 < 0 → ((x1 ≤ (σ.1 (r0 + 7) 1) → ((x1 < (6 : Int32) → m_3_read (r0 + 3) (r0 + 1) (fun (v_2 : Int32) (σ_1 : St) => ∀ σ_3 : St, σ_3 = wr σ_1 r0 8 v_2 → (((σ_3.1 r0 8) = 0 → m_0_remember (r0 + 42) (r0 + 7) (fun (σ_4 : St) => m_8_putStreet (r0 + 7) x1 ((r0 + 3) + 1) (fun (σ_6 : St) => Q (σ_6.1 ((r0 + 3) + 1) 0) σ_6) σ_4) σ_3) ∧ (¬ (σ_3.1 r0 8) = 0 → Q ((-10 : Int32) - (σ_3.1 (r0 + 3) 1)) σ_3))) σ) ∧ (¬ x1 < (6 : Int32) → Q (-3 : Int32) σ))) ∧ (¬ x1 ≤ (σ.1 (r0 + 7) 1) → Q (-1 : Int32) σ))))
section MB
variable {p : Program} {l : Launch} {e : Env} {R : Room} {s : State} {m : MethodId} {args : Array Value} {below : List Frame} {meth : Method} {c : Code} {cells slots : Nat} {QW : State → Prop}
variable {D : va_G} {ac : Nat → ClassId} {ad st : Nat → Nat} {A : Nat → Prop}
set_option maxHeartbeats 4000000 in
set_option maxRecDepth 100000 in
theorem w_7_append_0 {r0 : Nat} {x1 : Int32} {Q : St → Prop} {σ : St} {H : Heap} {locs : List Loc} {ls : Array Slot} (S : SC A D ac st p m c prog_9_method_2_code 2 s args "SweeperRounds$Text" R cells slots 0 0) (hR : RtV A D ac ad p l e R s m args below meth c prog_9_method_2_code cells slots QW Q) (hk_r0 : kd r0 = 7) (hG : DG A D ac ad s σ H locs) (hl : lv_has ls 2 [(0, .ref (ad r0)), (1, .int x1)]) (hf : m_7_append r0 x1 Q σ) : W p l e R s m args below meth c H locs cells slots QW (F0 m 0 ls []) := by
  have hx := S.1.1
  have hb := S.1.2.1
  unfold m_7_append at hf
  refine lv_aload_n hx hb d_7_append_0 rfl (lv_at hl 0 rfl) ?_
  refine gf_7_15 S hG hk_r0 d_7_append_1 ?_
  refine lv_bipush (v := (80 : Int32)) hx hb d_7_append_4 (by decide) ?_
  refine lv_icmp_ge (tgt := 29) hx hb d_7_append_6 (by decide) (fun hc => ?_) (fun hc => ?_)
  · have hf := hf.1 hc
    exact hR _ _ _ _ _ hG hf d_7_append_29
  · have hf := hf.2 hc
    refine lv_aload_n hx hb d_7_append_9 rfl (lv_at hl 0 rfl) ?_
    refine gf_7_9 S hG hk_r0 d_7_append_10 ?_
    refine lv_aload_n hx hb d_7_append_13 rfl (lv_at hl 0 rfl) ?_
    refine gf_7_15 S hG hk_r0 d_7_append_14 ?_
    refine lv_iload_n hx hb d_7_append_17 rfl (lv_at hl 1 rfl) ?_
    refine mcs S hG (kr_7_0 hk_r0) hf.1 d_7_append_18 (fun σ_1 eσ_1 H locs hG => ?_)
    have hf := hf.2 σ_1 eσ_1
    refine lv_aload_n hx hb d_7_append_19 rfl (lv_at hl 0 rfl) ?_
    refine lv_dup hx hb d_7_append_20 rfl ?_
    refine gf_7_15 S hG hk_r0 d_7_append_21 ?_
    refine lv_iconst (v := (1 : Int32)) hx hb d_7_append_24 (by decide) ?_
    refine lv_iadd hx hb d_7_append_25 ?_
    refine pf_7_15 S hG hk_r0 d_7_append_26 (fun σ_2 eσ_2 H locs hG => ?_)
    have hf := hf σ_2 eσ_2
    exact hR _ _ _ _ _ hG hf d_7_append_29
theorem c_7_append (l : Launch) {D : va_G} {ac : Nat → ClassId} {ad st : Nat → Nat} {A : Nat → Prop} {σ : St} {r0 : Nat} {x1 : Int32} {Q : St → Prop} (hk_r0 : kd r0 = 7) (hf : m_7_append r0 x1 Q σ) : Met l y_7_append (Cond.code y_7_append prog_9_method_2_code 2 none :: wA) { frames := 0, cells := 0, slots := 0, locals := 0 } (va_Pc [.ref (ad r0), .int x1] (GSt A D ac ad st σ)) (va_Qv Q (GSt A D ac ad st) A) 0 0 A :=
  mkV l (by decide +kernel) rfl [.ref (ad r0), .int x1] (Nat.le_of_ble_eq_true rfl) (fun p e s m args below meth c ls QW S hR hG hl => w_7_append_0 S hR hk_r0 hG hl hf)
set_option maxHeartbeats 4000000 in
set_option maxRecDepth 100000 in
theorem w_9_type_0 {r0 : Nat} {x1 : Int32} {Q : Int32 → St → Prop} {σ : St} {H : Heap} {locs : List Loc} {ls : Array Slot} (S : SC A D ac st p m c prog_1_method_2_code 2 s args "SweeperRounds" R cells slots 1 21) (hR : RtI A D ac ad p l e R s m args below meth c prog_1_method_2_code cells slots QW Q) (hk_r0 : kd r0 = 9) (hG : DG A D ac ad s σ H locs) (hl : lv_has ls 2 [(0, .ref (ad r0)), (1, .int x1)]) (hf : m_9_type r0 x1 Q σ) : W p l e R s m args below meth c H locs cells slots QW (F0 m 0 ls []) := by
  have hx := S.1.1
  have hb := S.1.2.1
  unfold m_9_type at hf
  refine lv_iload_n hx hb d_9_type_0 rfl (lv_at hl 1 rfl) ?_
  refine lv_bipush (v := (32 : Int32)) hx hb d_9_type_1 (by decide) ?_
  refine lv_icmp_lt (tgt := 12) hx hb d_9_type_3 (by decide) (fun hc => ?_) (fun hc => ?_)
  · have hf := hf.1 hc
    refine lv_iconst (v := (-1 : Int32)) hx hb d_9_type_12 (by decide) ?_
    exact hR _ _ _ _ _ _ hG hf d_9_type_13
  · have hf := hf.2 hc
    refine lv_iload_n hx hb d_9_type_6 rfl (lv_at hl 1 rfl) ?_
    refine lv_bipush (v := (126 : Int32)) hx hb d_9_type_7 (by decide) ?_
    refine lv_icmp_le (tgt := 14) hx hb d_9_type_9 (by decide) (fun hc => ?_) (fun hc => ?_)
    · have hf := hf.1 hc
      refine lv_aload_n hx hb d_9_type_14 rfl (lv_at hl 0 rfl) ?_
      refine gf_9_10 S hG hk_r0 d_9_type_15 ?_
      refine gf_9_63 S hG (kr_9_0 hk_r0) d_9_type_18 ?_
      refine lv_bipush (v := (80 : Int32)) hx hb d_9_type_21 (by decide) ?_
      refine lv_icmp_lt (tgt := 29) hx hb d_9_type_23 (by decide) (fun hc => ?_) (fun hc => ?_)
      · have hf := hf.1 hc
        refine lv_aload_n hx hb d_9_type_29 rfl (lv_at hl 0 rfl) ?_
        refine gf_9_10 S hG hk_r0 d_9_type_30 ?_
        refine lv_iload_n hx hb d_9_type_33 rfl (lv_at hl 1 rfl) ?_
        refine lv_i2c hx hb d_9_type_34 rfl ?_
        refine iv_9_66 S hl.1 hG (kr_9_0 hk_r0) (c_7_append l (kr_9_0 hk_r0) hf) ⟨Nat.le_of_ble_eq_true rfl, Nat.le_of_ble_eq_true rfl⟩ (Nat.le_of_ble_eq_true rfl) d_9_type_35 (fun σ_1 hf H locs hG => ?_)
        refine lv_aload_n hx hb d_9_type_38 rfl (lv_at hl 0 rfl) ?_
        refine gf_9_10 S hG hk_r0 d_9_type_39 ?_
        refine gf_9_63 S hG (kr_9_0 hk_r0) d_9_type_42 ?_
        exact hR _ _ _ _ _ _ hG hf d_9_type_45
      · have hf := hf.2 hc
        refine lv_bipush (v := (-3 : Int32)) hx hb d_9_type_26 (by decide) ?_
        exact hR _ _ _ _ _ _ hG hf d_9_type_28
    · have hf := hf.2 hc
      refine lv_iconst (v := (-1 : Int32)) hx hb d_9_type_12 (by decide) ?_
      exact hR _ _ _ _ _ _ hG hf d_9_type_13
theorem c_9_type (l : Launch) {D : va_G} {ac : Nat → ClassId} {ad st : Nat → Nat} {A : Nat → Prop} {σ : St} {r0 : Nat} {x1 : Int32} {Q : Int32 → St → Prop} (hk_r0 : kd r0 = 9) (hf : m_9_type r0 x1 Q σ) : Met l y_9_type (Cond.code y_9_type prog_1_method_2_code 2 (some .int) :: wA) { frames := 1, cells := 0, slots := 0, locals := 21 } (va_Pc [.ref (ad r0), .int x1] (GSt A D ac ad st σ)) (va_Qi Q (GSt A D ac ad st) A) 0 0 A :=
  mkI l (by decide +kernel) rfl [.ref (ad r0), .int x1] (Nat.le_of_ble_eq_true rfl) (fun p e s m args below meth c ls QW S hR hG hl => w_9_type_0 S hR hk_r0 hG hl hf)
set_option maxHeartbeats 4000000 in
set_option maxRecDepth 100000 in
theorem w_9_clearText_0 {r0 : Nat} {Q : Int32 → St → Prop} {σ : St} {H : Heap} {locs : List Loc} {ls : Array Slot} (S : SC A D ac st p m c prog_1_method_3_code 2 s args "SweeperRounds" R cells slots 0 0) (hR : RtI A D ac ad p l e R s m args below meth c prog_1_method_3_code cells slots QW Q) (hk_r0 : kd r0 = 9) (hG : DG A D ac ad s σ H locs) (hl : lv_has ls 2 [(0, .ref (ad r0))]) (hf : m_9_clearText r0 Q σ) : W p l e R s m args below meth c H locs cells slots QW (F0 m 0 ls []) := by
  have hx := S.1.1
  have hb := S.1.2.1
  unfold m_9_clearText at hf
  refine lv_aload_n hx hb d_9_clearText_0 rfl (lv_at hl 0 rfl) ?_
  refine gf_9_10 S hG hk_r0 d_9_clearText_1 ?_
  refine gf_9_63 S hG (kr_9_0 hk_r0) d_9_clearText_4 ?_
  refine lv_topi (fun x1_1 ex1_1 => ?_)
  have hf := hf x1_1 ex1_1
  refine lv_istore_n (lv' := [(1, .int x1_1), (0, .ref (ad r0))]) hx hb d_9_clearText_7 rfl hl (by decide) rfl (fun ls hl => ?_)
  refine lv_aload_n hx hb d_9_clearText_8 rfl (lv_at hl 1 rfl) ?_
  refine gf_9_10 S hG hk_r0 d_9_clearText_9 ?_
  refine lv_iconst (v := (0 : Int32)) hx hb d_9_clearText_12 (by decide) ?_
  refine pf_9_63 S hG (kr_9_0 hk_r0) d_9_clearText_13 (fun σ_2 eσ_2 H locs hG => ?_)
  have hf := hf σ_2 eσ_2
  refine lv_iload_n hx hb d_9_clearText_16 rfl (lv_at hl 0 rfl) ?_
  exact hR _ _ _ _ _ _ hG hf d_9_clearText_17
theorem c_9_clearText (l : Launch) {D : va_G} {ac : Nat → ClassId} {ad st : Nat → Nat} {A : Nat → Prop} {σ : St} {r0 : Nat} {Q : Int32 → St → Prop} (hk_r0 : kd r0 = 9) (hf : m_9_clearText r0 Q σ) : Met l y_9_clearText (Cond.code y_9_clearText prog_1_method_3_code 2 (some .int) :: wA) { frames := 0, cells := 0, slots := 0, locals := 0 } (va_Pc [.ref (ad r0)] (GSt A D ac ad st σ)) (va_Qi Q (GSt A D ac ad st) A) 0 0 A :=
  mkI l (by decide +kernel) rfl [.ref (ad r0)] (Nat.le_of_ble_eq_true rfl) (fun p e s m args below meth c ls QW S hR hG hl => w_9_clearText_0 S hR hk_r0 hG hl hf)
set_option maxHeartbeats 4000000 in
set_option maxRecDepth 100000 in
theorem w_6_clear_17 {r0 : Nat} {Q : St → Prop} {B17 : Int32 → St → Prop} {x1 : Int32} {σ : St} {H : Heap} {locs : List Loc} {ls : Array Slot} (S : SC A D ac st p m c prog_8_method_2_code 2 s args "SweeperRounds$Street" R cells slots 0 0) (hR : RtV A D ac ad p l e R s m args below meth c prog_8_method_2_code cells slots QW Q) (hk_r0 : kd r0 = 6) (hB17 : ∀ (x1 : Int32) (σ : St) (H : Heap) (locs : List Loc) (ls : Array Slot), DG A D ac ad s σ H locs → lv_has ls 2 [(0, .ref (ad r0)), (1, .int x1)] → B17 x1 σ → W p l e R s m args below meth c H locs cells slots QW (F0 m 17 ls [])) (hG : DG A D ac ad s σ H locs) (hl : lv_has ls 2 [(0, .ref (ad r0)), (1, .int x1)]) (hf : m_6_clear_17 r0 Q B17 x1 σ) : W p l e R s m args below meth c H locs cells slots QW (F0 m 17 ls []) := by
  have hx := S.1.1
  have hb := S.1.2.1
  unfold m_6_clear_17 at hf
  refine lv_iload_n hx hb d_6_clear_17 rfl (lv_at hl 1 rfl) ?_
  refine lv_bipush (v := (40 : Int32)) hx hb d_6_clear_18 (by decide) ?_
  refine lv_icmp_ge (tgt := 43) hx hb d_6_clear_20 (by decide) (fun hc => ?_) (fun hc => ?_)
  · have hf := hf.1 hc
    exact hR _ _ _ _ _ hG hf d_6_clear_43
  · have hf := hf.2 hc
    refine lv_aload_n hx hb d_6_clear_23 rfl (lv_at hl 0 rfl) ?_
    refine gf_6_9 S hG hk_r0 d_6_clear_24 ?_
    refine lv_iload_n hx hb d_6_clear_27 rfl (lv_at hl 1 rfl) ?_
    refine lv_iconst (v := (0 : Int32)) hx hb d_6_clear_28 (by decide) ?_
    refine mis S hG 20 rfl rfl (kr_6_3 hk_r0) hf.1 d_6_clear_29 (fun σ_1 eσ_1 H locs hG => ?_)
    have hf := hf.2 σ_1 eσ_1
    refine lv_aload_n hx hb d_6_clear_30 rfl (lv_at hl 0 rfl) ?_
    refine gf_6_15 S hG hk_r0 d_6_clear_31 ?_
    refine lv_iload_n hx hb d_6_clear_34 rfl (lv_at hl 1 rfl) ?_
    refine lv_iconst (v := (0 : Int32)) hx hb d_6_clear_35 (by decide) ?_
    refine mzs S hG (kr_6_4 hk_r0) hf.1 d_6_clear_36 (fun σ_2 eσ_2 H locs hG => ?_)
    have hf := hf.2 σ_2 eσ_2
    obtain ⟨x1_3, ex1_3⟩ : ∃ y : Int32, y = x1 + 1 := ⟨_, rfl⟩
    have hf := hf x1_3 ex1_3
    refine lv_iinc (v := x1_3) (lv' := [(1, .int x1_3), (0, .ref (ad r0))]) hx hb d_6_clear_37 hl (k := 1) rfl (by rw [ex1_3]; rfl) (by decide) rfl (fun ls hl => ?_)
    refine lv_goto (tgt := 17) hx hb d_6_clear_40 (by decide) ?_
    exact hB17 _ _ _ _ _  hG (lv_sub hl [1, 0] rfl) hf
set_option maxHeartbeats 4000000 in
set_option maxRecDepth 100000 in
theorem lp_6_clear_17 {r0 : Nat} {Q : St → Prop} (S : SC A D ac st p m c prog_8_method_2_code 2 s args "SweeperRounds$Street" R cells slots 0 0) (hR : RtV A D ac ad p l e R s m args below meth c prog_8_method_2_code cells slots QW Q) (hk_r0 : kd r0 = 6) : ∀ (n : Nat) (x1 : Int32) (σ : St) (H : Heap) (locs : List Loc) (ls : Array Slot), DG A D ac ad s σ H locs → lv_has ls 2 [(0, .ref (ad r0)), (1, .int x1)] → itN (m_6_clear_17 r0 Q) (fun _ _ => False) n x1 σ → W p l e R s m args below meth c H locs cells slots QW (F0 m 17 ls []) := by
  intro n
  induction n with
  | zero =>
    intro x1 σ H locs ls  hG hl hf
    exact hf.elim
  | succ n ih =>
    intro x1 σ H locs ls  hG hl hf
    exact w_6_clear_17 S hR hk_r0  ih hG hl hf
set_option maxHeartbeats 4000000 in
set_option maxRecDepth 100000 in
theorem w_6_clear_0 {r0 : Nat} {Q : St → Prop} {σ : St} {H : Heap} {locs : List Loc} {ls : Array Slot} (S : SC A D ac st p m c prog_8_method_2_code 2 s args "SweeperRounds$Street" R cells slots 0 0) (hR : RtV A D ac ad p l e R s m args below meth c prog_8_method_2_code cells slots QW Q) (hk_r0 : kd r0 = 6) (hG : DG A D ac ad s σ H locs) (hl : lv_has ls 2 [(0, .ref (ad r0))]) (hf : m_6_clear r0 Q σ) : W p l e R s m args below meth c H locs cells slots QW (F0 m 0 ls []) := by
  have hx := S.1.1
  have hb := S.1.2.1
  unfold m_6_clear at hf
  refine lv_aload_n hx hb d_6_clear_0 rfl (lv_at hl 0 rfl) ?_
  refine lv_iconst (v := (0 : Int32)) hx hb d_6_clear_1 (by decide) ?_
  refine pf_6_19 S hG hk_r0 d_6_clear_2 (fun σ_1 eσ_1 H locs hG => ?_)
  have hf := hf σ_1 eσ_1
  refine lv_aload_n hx hb d_6_clear_5 rfl (lv_at hl 0 rfl) ?_
  refine lv_iconst (v := (0 : Int32)) hx hb d_6_clear_6 (by decide) ?_
  refine pf_6_23 S hG hk_r0 d_6_clear_7 (fun σ_2 eσ_2 H locs hG => ?_)
  have hf := hf σ_2 eσ_2
  refine lv_aload_n hx hb d_6_clear_10 rfl (lv_at hl 0 rfl) ?_
  refine lv_iconst (v := (0 : Int32)) hx hb d_6_clear_11 (by decide) ?_
  refine pf_6_26 S hG hk_r0 d_6_clear_12 (fun σ_3 eσ_3 H locs hG => ?_)
  have hf := hf σ_3 eσ_3
  refine lv_iconst (v := (0 : Int32)) hx hb d_6_clear_15 (by decide) ?_
  refine lv_istore_n (lv' := [(1, .int (0 : Int32)), (0, .ref (ad r0))]) hx hb d_6_clear_16 rfl hl (by decide) rfl (fun ls hl => ?_)
  exact lp_6_clear_17 S hR hk_r0  FU _ _ _ _ _  hG (lv_sub hl [1, 0] rfl) hf
theorem c_6_clear (l : Launch) {D : va_G} {ac : Nat → ClassId} {ad st : Nat → Nat} {A : Nat → Prop} {σ : St} {r0 : Nat} {Q : St → Prop} (hk_r0 : kd r0 = 6) (hf : m_6_clear r0 Q σ) : Met l y_6_clear (Cond.code y_6_clear prog_8_method_2_code 2 none :: wA) { frames := 0, cells := 0, slots := 0, locals := 0 } (va_Pc [.ref (ad r0)] (GSt A D ac ad st σ)) (va_Qv Q (GSt A D ac ad st) A) 0 0 A :=
  mkV l (by decide +kernel) rfl [.ref (ad r0)] (Nat.le_of_ble_eq_true rfl) (fun p e s m args below meth c ls QW S hR hG hl => w_6_clear_0 S hR hk_r0 hG hl hf)
set_option maxHeartbeats 4000000 in
set_option maxRecDepth 100000 in
theorem w_7_signAt_0 {r0 : Nat} {x1 : Int32} {Q : Int32 → St → Prop} {σ : St} {H : Heap} {locs : List Loc} {ls : Array Slot} (S : SC A D ac st p m c prog_9_method_3_code 2 s args "SweeperRounds$Text" R cells slots 0 0) (hR : RtI A D ac ad p l e R s m args below meth c prog_9_method_3_code cells slots QW Q) (hk_r0 : kd r0 = 7) (hG : DG A D ac ad s σ H locs) (hl : lv_has ls 2 [(0, .ref (ad r0)), (1, .int x1)]) (hf : m_7_signAt r0 x1 Q σ) : W p l e R s m args below meth c H locs cells slots QW (F0 m 0 ls []) := by
  have hx := S.1.1
  have hb := S.1.2.1
  unfold m_7_signAt at hf
  refine lv_iload_n hx hb d_7_signAt_0 rfl (lv_at hl 1 rfl) ?_
  refine lv_if_lt (tgt := 21) hx hb d_7_signAt_1 (by decide) (fun hc => ?_) (fun hc => ?_)
  · have hf := hf.1 hc
    refine lv_iconst (v := (-1 : Int32)) hx hb d_7_signAt_21 (by decide) ?_
    exact hR _ _ _ _ _ _ hG hf d_7_signAt_22
  · have hf := hf.2 hc
    refine lv_iload_n hx hb d_7_signAt_4 rfl (lv_at hl 1 rfl) ?_
    refine lv_aload_n hx hb d_7_signAt_5 rfl (lv_at hl 0 rfl) ?_
    refine gf_7_15 S hG hk_r0 d_7_signAt_6 ?_
    refine lv_icmp_ge (tgt := 21) hx hb d_7_signAt_9 (by decide) (fun hc => ?_) (fun hc => ?_)
    · have hf := hf.1 hc
      refine lv_iconst (v := (-1 : Int32)) hx hb d_7_signAt_21 (by decide) ?_
      exact hR _ _ _ _ _ _ hG hf d_7_signAt_22
    · have hf := hf.2 hc
      refine lv_aload_n hx hb d_7_signAt_12 rfl (lv_at hl 0 rfl) ?_
      refine gf_7_9 S hG hk_r0 d_7_signAt_13 ?_
      refine lv_iload_n hx hb d_7_signAt_16 rfl (lv_at hl 1 rfl) ?_
      refine mca S hG (kr_7_0 hk_r0) hf.1 d_7_signAt_17 ?_
      have hf := hf.2
      refine lv_goto (tgt := 22) hx hb d_7_signAt_18 (by decide) ?_
      exact hR _ _ _ _ _ _ hG hf d_7_signAt_22
theorem c_7_signAt (l : Launch) {D : va_G} {ac : Nat → ClassId} {ad st : Nat → Nat} {A : Nat → Prop} {σ : St} {r0 : Nat} {x1 : Int32} {Q : Int32 → St → Prop} (hk_r0 : kd r0 = 7) (hf : m_7_signAt r0 x1 Q σ) : Met l y_7_signAt (Cond.code y_7_signAt prog_9_method_3_code 2 (some .int) :: wA) { frames := 0, cells := 0, slots := 0, locals := 0 } (va_Pc [.ref (ad r0), .int x1] (GSt A D ac ad st σ)) (va_Qi Q (GSt A D ac ad st) A) 0 0 A :=
  mkI l (by decide +kernel) rfl [.ref (ad r0), .int x1] (Nat.le_of_ble_eq_true rfl) (fun p e s m args below meth c ls QW S hR hG hl => w_7_signAt_0 S hR hk_r0 hG hl hf)
set_option maxHeartbeats 4000000 in
set_option maxRecDepth 100000 in
theorem w_3_isDigit_0 {x0 : Int32} {Q : Int32 → St → Prop} {σ : St} {H : Heap} {locs : List Loc} {ls : Array Slot} (S : SC A D ac st p m c prog_5_method_10_code 1 s args "SweeperRounds$Reader" R cells slots 0 0) (hR : RtZ A D ac ad p l e R s m args below meth c prog_5_method_10_code cells slots QW Q) (hG : DG A D ac ad s σ H locs) (hl : lv_has ls 1 [(0, .int x0)]) (hf : m_3_isDigit x0 Q σ) : W p l e R s m args below meth c H locs cells slots QW (F0 m 0 ls []) := by
  have hx := S.1.1
  have hb := S.1.2.1
  unfold m_3_isDigit at hf
  refine lv_iload_n hx hb d_3_isDigit_0 rfl (lv_at hl 0 rfl) ?_
  refine lv_bipush (v := (48 : Int32)) hx hb d_3_isDigit_1 (by decide) ?_
  refine lv_icmp_lt (tgt := 16) hx hb d_3_isDigit_3 (by decide) (fun hc => ?_) (fun hc => ?_)
  · have hf := hf.1 hc
    refine lv_iconst (v := (0 : Int32)) hx hb d_3_isDigit_16 (by decide) ?_
    exact hR _ _ _ _ _ _ hG (by unfold isB; decide) hf d_3_isDigit_17
  · have hf := hf.2 hc
    refine lv_iload_n hx hb d_3_isDigit_6 rfl (lv_at hl 0 rfl) ?_
    refine lv_bipush (v := (57 : Int32)) hx hb d_3_isDigit_7 (by decide) ?_
    refine lv_icmp_gt (tgt := 16) hx hb d_3_isDigit_9 (by decide) (fun hc => ?_) (fun hc => ?_)
    · have hf := hf.1 hc
      refine lv_iconst (v := (0 : Int32)) hx hb d_3_isDigit_16 (by decide) ?_
      exact hR _ _ _ _ _ _ hG (by unfold isB; decide) hf d_3_isDigit_17
    · have hf := hf.2 hc
      refine lv_iconst (v := (1 : Int32)) hx hb d_3_isDigit_12 (by decide) ?_
      refine lv_goto (tgt := 17) hx hb d_3_isDigit_13 (by decide) ?_
      exact hR _ _ _ _ _ _ hG (by unfold isB; decide) hf d_3_isDigit_17
theorem c_3_isDigit (l : Launch) {D : va_G} {ac : Nat → ClassId} {ad st : Nat → Nat} {A : Nat → Prop} {σ : St} {x0 : Int32} {Q : Int32 → St → Prop} (hf : m_3_isDigit x0 Q σ) : Met l y_3_isDigit (Cond.code y_3_isDigit prog_5_method_10_code 1 (some .boolean) :: wA) { frames := 0, cells := 0, slots := 0, locals := 0 } (va_Pc [.int x0] (GSt A D ac ad st σ)) (va_Qi Q (GSt A D ac ad st) A) 0 0 A :=
  mkZ l (by decide +kernel) rfl [.int x0] (Nat.le_of_ble_eq_true rfl) (fun p e s m args below meth c ls QW S hR hG hl => w_3_isDigit_0 S hR hG hl hf)
set_option maxHeartbeats 4000000 in
set_option maxRecDepth 100000 in
theorem w_3_fail_0 {r0 : Nat} {x1 : Int32} {x2 : Int32} {Q : Int32 → St → Prop} {σ : St} {H : Heap} {locs : List Loc} {ls : Array Slot} (S : SC A D ac st p m c prog_5_method_3_code 3 s args "SweeperRounds$Reader" R cells slots 0 0) (hR : RtZ A D ac ad p l e R s m args below meth c prog_5_method_3_code cells slots QW Q) (hk_r0 : kd r0 = 3) (hG : DG A D ac ad s σ H locs) (hl : lv_has ls 3 [(0, .ref (ad r0)), (1, .int x1), (2, .int x2)]) (hf : m_3_fail r0 x1 x2 Q σ) : W p l e R s m args below meth c H locs cells slots QW (F0 m 0 ls []) := by
  have hx := S.1.1
  have hb := S.1.2.1
  unfold m_3_fail at hf
  refine lv_aload_n hx hb d_3_fail_0 rfl (lv_at hl 0 rfl) ?_
  refine lv_iload_n hx hb d_3_fail_1 rfl (lv_at hl 1 rfl) ?_
  refine pf_3_22 S hG hk_r0 d_3_fail_2 (fun σ_1 eσ_1 H locs hG => ?_)
  have hf := hf σ_1 eσ_1
  refine lv_aload_n hx hb d_3_fail_5 rfl (lv_at hl 0 rfl) ?_
  refine lv_iload_n hx hb d_3_fail_6 rfl (lv_at hl 2 rfl) ?_
  refine pf_3_25 S hG hk_r0 d_3_fail_7 (fun σ_2 eσ_2 H locs hG => ?_)
  have hf := hf σ_2 eσ_2
  refine lv_iconst (v := (0 : Int32)) hx hb d_3_fail_10 (by decide) ?_
  exact hR _ _ _ _ _ _ hG (by unfold isB; decide) hf d_3_fail_11
theorem c_3_fail (l : Launch) {D : va_G} {ac : Nat → ClassId} {ad st : Nat → Nat} {A : Nat → Prop} {σ : St} {r0 : Nat} {x1 : Int32} {x2 : Int32} {Q : Int32 → St → Prop} (hk_r0 : kd r0 = 3) (hf : m_3_fail r0 x1 x2 Q σ) : Met l y_3_fail (Cond.code y_3_fail prog_5_method_3_code 3 (some .boolean) :: wA) { frames := 0, cells := 0, slots := 0, locals := 0 } (va_Pc [.ref (ad r0), .int x1, .int x2] (GSt A D ac ad st σ)) (va_Qi Q (GSt A D ac ad st) A) 0 0 A :=
  mkZ l (by decide +kernel) rfl [.ref (ad r0), .int x1, .int x2] (Nat.le_of_ble_eq_true rfl) (fun p e s m args below meth c ls QW S hR hG hl => w_3_fail_0 S hR hk_r0 hG hl hf)
set_option maxHeartbeats 4000000 in
set_option maxRecDepth 100000 in
theorem w_3_readSlash_0 {r0 : Nat} {r1 : Nat} {Q : Int32 → St → Prop} {σ : St} {H : Heap} {locs : List Loc} {ls : Array Slot} (S : SC A D ac st p m c prog_5_method_9_code 2 s args "SweeperRounds$Reader" R cells slots 1 22) (hR : RtZ A D ac ad p l e R s m args below meth c prog_5_method_9_code cells slots QW Q) (hk_r0 : kd r0 = 3) (hk_r1 : kd r1 = 7) (hG : DG A D ac ad s σ H locs) (hl : lv_has ls 2 [(0, .ref (ad r0)), (1, .ref (ad r1))]) (hf : m_3_readSlash r0 r1 Q σ) : W p l e R s m args below meth c H locs cells slots QW (F0 m 0 ls []) := by
  have hx := S.1.1
  have hb := S.1.2.1
  unfold m_3_readSlash at hf
  refine lv_aload_n hx hb d_3_readSlash_0 rfl (lv_at hl 1 rfl) ?_
  refine lv_aload_n hx hb d_3_readSlash_1 rfl (lv_at hl 0 rfl) ?_
  refine gf_3_18 S hG hk_r0 d_3_readSlash_2 ?_
  refine iv_3_44 S hl.1 hG hk_r1 (c_7_signAt l hk_r1 hf) ⟨Nat.le_of_ble_eq_true rfl, Nat.le_of_ble_eq_true rfl⟩ (Nat.le_of_ble_eq_true rfl) d_3_readSlash_5 (fun v_2 σ_1 hf H locs hG => ?_)
  refine lv_bipush (v := (47 : Int32)) hx hb d_3_readSlash_8 (by decide) ?_
  refine lv_icmp_eq (tgt := 23) hx hb d_3_readSlash_10 (by decide) (fun hc => ?_) (fun hc => ?_)
  · have hf := hf.1 hc
    refine lv_aload_n hx hb d_3_readSlash_23 rfl (lv_at hl 0 rfl) ?_
    refine lv_dup hx hb d_3_readSlash_24 rfl ?_
    refine gf_3_18 S hG hk_r0 d_3_readSlash_25 ?_
    refine lv_iconst (v := (1 : Int32)) hx hb d_3_readSlash_28 (by decide) ?_
    refine lv_iadd hx hb d_3_readSlash_29 ?_
    refine pf_3_18 S hG hk_r0 d_3_readSlash_30 (fun σ_3 eσ_3 H locs hG => ?_)
    have hf := hf σ_3 eσ_3
    refine lv_iconst (v := (1 : Int32)) hx hb d_3_readSlash_33 (by decide) ?_
    exact hR _ _ _ _ _ _ hG (by unfold isB; decide) hf d_3_readSlash_34
  · have hf := hf.2 hc
    refine lv_aload_n hx hb d_3_readSlash_13 rfl (lv_at hl 0 rfl) ?_
    refine lv_iconst (v := (1 : Int32)) hx hb d_3_readSlash_14 (by decide) ?_
    refine lv_aload_n hx hb d_3_readSlash_15 rfl (lv_at hl 0 rfl) ?_
    refine gf_3_18 S hG hk_r0 d_3_readSlash_16 ?_
    refine iv_3_54 S hl.1 hG hk_r0 (c_3_fail l hk_r0 hf) ⟨Nat.le_of_ble_eq_true rfl, Nat.le_of_ble_eq_true rfl⟩ (Nat.le_of_ble_eq_true rfl) d_3_readSlash_19 (fun v_5 σ_4 hf H locs hG => ?_)
    exact hR _ _ _ _ _ _ hG hf.1 hf.2 d_3_readSlash_22
theorem c_3_readSlash (l : Launch) {D : va_G} {ac : Nat → ClassId} {ad st : Nat → Nat} {A : Nat → Prop} {σ : St} {r0 : Nat} {r1 : Nat} {Q : Int32 → St → Prop} (hk_r0 : kd r0 = 3) (hk_r1 : kd r1 = 7) (hf : m_3_readSlash r0 r1 Q σ) : Met l y_3_readSlash (Cond.code y_3_readSlash prog_5_method_9_code 2 (some .boolean) :: wA) { frames := 1, cells := 0, slots := 0, locals := 22 } (va_Pc [.ref (ad r0), .ref (ad r1)] (GSt A D ac ad st σ)) (va_Qi Q (GSt A D ac ad st) A) 0 0 A :=
  mkZ l (by decide +kernel) rfl [.ref (ad r0), .ref (ad r1)] (Nat.le_of_ble_eq_true rfl) (fun p e s m args below meth c ls QW S hR hG hl => w_3_readSlash_0 S hR hk_r0 hk_r1 hG hl hf)
set_option maxHeartbeats 4000000 in
set_option maxRecDepth 100000 in
theorem w_3_readDistance_114 {r0 : Nat} {r1 : Nat} {x2 : Int32} {Q : Int32 → St → Prop} {σ : St} {H : Heap} {locs : List Loc} {ls : Array Slot} (S : SC A D ac st p m c prog_5_method_4_code 3 s args "SweeperRounds$Reader" R cells slots 2 43) (hR : RtZ A D ac ad p l e R s m args below meth c prog_5_method_4_code cells slots QW Q) (hk_r0 : kd r0 = 3) (hk_r1 : kd r1 = 7) (hG : DG A D ac ad s σ H locs) (hl : lv_has ls 3 [(0, .ref (ad r0)), (1, .ref (ad r1)), (2, .int x2)]) (hf : m_3_readDistance_114 r0 r1 x2 Q σ) : W p l e R s m args below meth c H locs cells slots QW (F0 m 114 ls []) := by
  have hx := S.1.1
  have hb := S.1.2.1
  unfold m_3_readDistance_114 at hf
  refine lv_aload_n hx hb d_3_readDistance_114 rfl (lv_at hl 0 rfl) ?_
  refine gf_3_12 S hG hk_r0 d_3_readDistance_115 ?_
  refine lv_iload_n hx hb d_3_readDistance_118 rfl (lv_at hl 2 rfl) ?_
  refine pf_3_58 S hG (kr_3_0 hk_r0) d_3_readDistance_119 (fun σ_1 eσ_1 H locs hG => ?_)
  have hf := hf σ_1 eσ_1
  refine lv_aload_n hx hb d_3_readDistance_122 rfl (lv_at hl 0 rfl) ?_
  refine lv_aload_n hx hb d_3_readDistance_123 rfl (lv_at hl 1 rfl) ?_
  refine iv_3_61 S hl.1 hG hk_r0 (c_3_readSlash l hk_r0 hk_r1 hf) ⟨Nat.le_of_ble_eq_true rfl, Nat.le_of_ble_eq_true rfl⟩ (Nat.le_of_ble_eq_true rfl) d_3_readDistance_124 (fun v_3 σ_2 hf H locs hG => ?_)
  exact hR _ _ _ _ _ _ hG hf.1 hf.2 d_3_readDistance_127
set_option maxHeartbeats 4000000 in
set_option maxRecDepth 100000 in
theorem w_3_readDistance_87 {r0 : Nat} {r1 : Nat} {x2 : Int32} {Q : Int32 → St → Prop} {σ : St} {H : Heap} {locs : List Loc} {ls : Array Slot} (S : SC A D ac st p m c prog_5_method_4_code 3 s args "SweeperRounds$Reader" R cells slots 2 43) (hR : RtZ A D ac ad p l e R s m args below meth c prog_5_method_4_code cells slots QW Q) (hk_r0 : kd r0 = 3) (hk_r1 : kd r1 = 7) (hG : DG A D ac ad s σ H locs) (hl : lv_has ls 3 [(0, .ref (ad r0)), (1, .ref (ad r1)), (2, .int x2)]) (hf : m_3_readDistance_87 r0 r1 x2 Q σ) : W p l e R s m args below meth c H locs cells slots QW (F0 m 87 ls []) := by
  have hx := S.1.1
  have hb := S.1.2.1
  unfold m_3_readDistance_87 at hf
  refine lv_iload_n hx hb d_3_readDistance_87 rfl (lv_at hl 2 rfl) ?_
  refine lv_bipush (v := (60 : Int32)) hx hb d_3_readDistance_88 (by decide) ?_
  refine lv_icmp_le (tgt := 114) hx hb d_3_readDistance_90 (by decide) (fun hc => ?_) (fun hc => ?_)
  · have hf := hf.1 hc
    exact w_3_readDistance_114 S hR hk_r0 hk_r1    hG (lv_sub hl [0, 1, 2] rfl) hf
  · have hf := hf.2 hc
    refine lv_aload_n hx hb d_3_readDistance_93 rfl (lv_at hl 1 rfl) ?_
    refine lv_aload_n hx hb d_3_readDistance_94 rfl (lv_at hl 0 rfl) ?_
    refine gf_3_18 S hG hk_r0 d_3_readDistance_95 ?_
    refine iv_3_44 S hl.1 hG hk_r1 (c_7_signAt l hk_r1 hf) ⟨Nat.le_of_ble_eq_true rfl, Nat.le_of_ble_eq_true rfl⟩ (Nat.le_of_ble_eq_true rfl) d_3_readDistance_98 (fun v_2 σ_1 hf H locs hG => ?_)
    refine iv_3_50 S hl.1 hG  (c_3_isDigit l  hf) ⟨Nat.le_of_ble_eq_true rfl, Nat.le_of_ble_eq_true rfl⟩ (Nat.le_of_ble_eq_true rfl) d_3_readDistance_101 (fun v_4 σ_3 hf H locs hG => ?_)
    refine lv_if_ne (tgt := 114) hx hb d_3_readDistance_104 (by decide) (fun hc => ?_) (fun hc => ?_)
    · have hf := hf.1 hc
      exact w_3_readDistance_114 S hR hk_r0 hk_r1    hG (lv_sub hl [0, 1, 2] rfl) hf
    · have hf := hf.2 hc
      refine lv_aload_n hx hb d_3_readDistance_107 rfl (lv_at hl 0 rfl) ?_
      refine lv_iconst (v := (2 : Int32)) hx hb d_3_readDistance_108 (by decide) ?_
      refine lv_iconst (v := (0 : Int32)) hx hb d_3_readDistance_109 (by decide) ?_
      refine iv_3_54 S hl.1 hG hk_r0 (c_3_fail l hk_r0 hf) ⟨Nat.le_of_ble_eq_true rfl, Nat.le_of_ble_eq_true rfl⟩ (Nat.le_of_ble_eq_true rfl) d_3_readDistance_110 (fun v_6 σ_5 hf H locs hG => ?_)
      exact hR _ _ _ _ _ _ hG hf.1 hf.2 d_3_readDistance_113
set_option maxHeartbeats 4000000 in
set_option maxRecDepth 100000 in
theorem w_3_readDistance_0 {r0 : Nat} {r1 : Nat} {Q : Int32 → St → Prop} {σ : St} {H : Heap} {locs : List Loc} {ls : Array Slot} (S : SC A D ac st p m c prog_5_method_4_code 3 s args "SweeperRounds$Reader" R cells slots 2 43) (hR : RtZ A D ac ad p l e R s m args below meth c prog_5_method_4_code cells slots QW Q) (hk_r0 : kd r0 = 3) (hk_r1 : kd r1 = 7) (hG : DG A D ac ad s σ H locs) (hl : lv_has ls 3 [(0, .ref (ad r0)), (1, .ref (ad r1))]) (hf : m_3_readDistance r0 r1 Q σ) : W p l e R s m args below meth c H locs cells slots QW (F0 m 0 ls []) := by
  have hx := S.1.1
  have hb := S.1.2.1
  unfold m_3_readDistance at hf
  refine lv_aload_n hx hb d_3_readDistance_0 rfl (lv_at hl 1 rfl) ?_
  refine lv_aload_n hx hb d_3_readDistance_1 rfl (lv_at hl 0 rfl) ?_
  refine gf_3_18 S hG hk_r0 d_3_readDistance_2 ?_
  refine iv_3_44 S hl.1 hG hk_r1 (c_7_signAt l hk_r1 hf) ⟨Nat.le_of_ble_eq_true rfl, Nat.le_of_ble_eq_true rfl⟩ (Nat.le_of_ble_eq_true rfl) d_3_readDistance_5 (fun v_2 σ_1 hf H locs hG => ?_)
  refine iv_3_50 S hl.1 hG  (c_3_isDigit l  hf) ⟨Nat.le_of_ble_eq_true rfl, Nat.le_of_ble_eq_true rfl⟩ (Nat.le_of_ble_eq_true rfl) d_3_readDistance_8 (fun v_4 σ_3 hf H locs hG => ?_)
  refine lv_if_ne (tgt := 24) hx hb d_3_readDistance_11 (by decide) (fun hc => ?_) (fun hc => ?_)
  · have hf := hf.1 hc
    refine lv_aload_n hx hb d_3_readDistance_24 rfl (lv_at hl 1 rfl) ?_
    refine lv_aload_n hx hb d_3_readDistance_25 rfl (lv_at hl 0 rfl) ?_
    refine gf_3_18 S hG hk_r0 d_3_readDistance_26 ?_
    refine iv_3_44 S hl.1 hG hk_r1 (c_7_signAt l hk_r1 hf) ⟨Nat.le_of_ble_eq_true rfl, Nat.le_of_ble_eq_true rfl⟩ (Nat.le_of_ble_eq_true rfl) d_3_readDistance_29 (fun v_6 σ_5 hf H locs hG => ?_)
    refine lv_bipush (v := (48 : Int32)) hx hb d_3_readDistance_32 (by decide) ?_
    refine lv_isub hx hb d_3_readDistance_34 ?_
    refine lv_topi (fun x2_7 ex2_7 => ?_)
    have hf := hf x2_7 ex2_7
    refine lv_istore_n (lv' := [(2, .int x2_7), (0, .ref (ad r0)), (1, .ref (ad r1))]) hx hb d_3_readDistance_35 rfl hl (by decide) rfl (fun ls hl => ?_)
    refine lv_aload_n hx hb d_3_readDistance_36 rfl (lv_at hl 1 rfl) ?_
    refine lv_dup hx hb d_3_readDistance_37 rfl ?_
    refine gf_3_18 S hG hk_r0 d_3_readDistance_38 ?_
    refine lv_iconst (v := (1 : Int32)) hx hb d_3_readDistance_41 (by decide) ?_
    refine lv_iadd hx hb d_3_readDistance_42 ?_
    refine pf_3_18 S hG hk_r0 d_3_readDistance_43 (fun σ_8 eσ_8 H locs hG => ?_)
    have hf := hf σ_8 eσ_8
    refine lv_aload_n hx hb d_3_readDistance_46 rfl (lv_at hl 2 rfl) ?_
    refine lv_aload_n hx hb d_3_readDistance_47 rfl (lv_at hl 1 rfl) ?_
    refine gf_3_18 S hG hk_r0 d_3_readDistance_48 ?_
    refine iv_3_44 S hl.1 hG hk_r1 (c_7_signAt l hk_r1 hf) ⟨Nat.le_of_ble_eq_true rfl, Nat.le_of_ble_eq_true rfl⟩ (Nat.le_of_ble_eq_true rfl) d_3_readDistance_51 (fun v_10 σ_9 hf H locs hG => ?_)
    refine iv_3_50 S hl.1 hG  (c_3_isDigit l  hf) ⟨Nat.le_of_ble_eq_true rfl, Nat.le_of_ble_eq_true rfl⟩ (Nat.le_of_ble_eq_true rfl) d_3_readDistance_54 (fun v_12 σ_11 hf H locs hG => ?_)
    refine lv_if_eq (tgt := 87) hx hb d_3_readDistance_57 (by decide) (fun hc => ?_) (fun hc => ?_)
    · have hf := hf.1 hc
      exact w_3_readDistance_87 S hR hk_r0 hk_r1    hG (lv_sub hl [1, 2, 0] rfl) hf
    · have hf := hf.2 hc
      refine lv_bipush (v := (10 : Int32)) hx hb d_3_readDistance_60 (by decide) ?_
      refine lv_iload_n hx hb d_3_readDistance_62 rfl (lv_at hl 0 rfl) ?_
      refine lv_imul hx hb d_3_readDistance_63 ?_
      refine lv_aload_n hx hb d_3_readDistance_64 rfl (lv_at hl 2 rfl) ?_
      refine lv_aload_n hx hb d_3_readDistance_65 rfl (lv_at hl 1 rfl) ?_
      refine gf_3_18 S hG hk_r0 d_3_readDistance_66 ?_
      refine iv_3_44 S hl.1 hG hk_r1 (c_7_signAt l hk_r1 hf) ⟨Nat.le_of_ble_eq_true rfl, Nat.le_of_ble_eq_true rfl⟩ (Nat.le_of_ble_eq_true rfl) d_3_readDistance_69 (fun v_14 σ_13 hf H locs hG => ?_)
      refine lv_iadd hx hb d_3_readDistance_72 ?_
      refine lv_bipush (v := (48 : Int32)) hx hb d_3_readDistance_73 (by decide) ?_
      refine lv_isub hx hb d_3_readDistance_75 ?_
      refine lv_topi (fun x2_15 ex2_15 => ?_)
      have hf := hf x2_15 ex2_15
      refine lv_istore_n (lv' := [(2, .int x2_15), (0, .ref (ad r0)), (1, .ref (ad r1))]) hx hb d_3_readDistance_76 rfl hl (by decide) rfl (fun ls hl => ?_)
      refine lv_aload_n hx hb d_3_readDistance_77 rfl (lv_at hl 1 rfl) ?_
      refine lv_dup hx hb d_3_readDistance_78 rfl ?_
      refine gf_3_18 S hG hk_r0 d_3_readDistance_79 ?_
      refine lv_iconst (v := (1 : Int32)) hx hb d_3_readDistance_82 (by decide) ?_
      refine lv_iadd hx hb d_3_readDistance_83 ?_
      refine pf_3_18 S hG hk_r0 d_3_readDistance_84 (fun σ_16 eσ_16 H locs hG => ?_)
      have hf := hf σ_16 eσ_16
      exact w_3_readDistance_87 S hR hk_r0 hk_r1    hG (lv_sub hl [1, 2, 0] rfl) hf
  · have hf := hf.2 hc
    refine lv_aload_n hx hb d_3_readDistance_14 rfl (lv_at hl 0 rfl) ?_
    refine lv_iconst (v := (1 : Int32)) hx hb d_3_readDistance_15 (by decide) ?_
    refine lv_aload_n hx hb d_3_readDistance_16 rfl (lv_at hl 0 rfl) ?_
    refine gf_3_18 S hG hk_r0 d_3_readDistance_17 ?_
    refine iv_3_54 S hl.1 hG hk_r0 (c_3_fail l hk_r0 hf) ⟨Nat.le_of_ble_eq_true rfl, Nat.le_of_ble_eq_true rfl⟩ (Nat.le_of_ble_eq_true rfl) d_3_readDistance_20 (fun v_18 σ_17 hf H locs hG => ?_)
    exact hR _ _ _ _ _ _ hG hf.1 hf.2 d_3_readDistance_23
theorem c_3_readDistance (l : Launch) {D : va_G} {ac : Nat → ClassId} {ad st : Nat → Nat} {A : Nat → Prop} {σ : St} {r0 : Nat} {r1 : Nat} {Q : Int32 → St → Prop} (hk_r0 : kd r0 = 3) (hk_r1 : kd r1 = 7) (hf : m_3_readDistance r0 r1 Q σ) : Met l y_3_readDistance (Cond.code y_3_readDistance prog_5_method_4_code 3 (some .boolean) :: wA) { frames := 2, cells := 0, slots := 0, locals := 43 } (va_Pc [.ref (ad r0), .ref (ad r1)] (GSt A D ac ad st σ)) (va_Qi Q (GSt A D ac ad st) A) 0 0 A :=
  mkZ l (by decide +kernel) rfl [.ref (ad r0), .ref (ad r1)] (Nat.le_of_ble_eq_true rfl) (fun p e s m args below meth c ls QW S hR hG hl => w_3_readDistance_0 S hR hk_r0 hk_r1 hG hl hf)
set_option maxHeartbeats 4000000 in
set_option maxRecDepth 100000 in
theorem w_3_readTrees_0 {r0 : Nat} {r1 : Nat} {Q : Int32 → St → Prop} {σ : St} {H : Heap} {locs : List Loc} {ls : Array Slot} (S : SC A D ac st p m c prog_5_method_5_code 2 s args "SweeperRounds$Reader" R cells slots 2 43) (hR : RtZ A D ac ad p l e R s m args below meth c prog_5_method_5_code cells slots QW Q) (hk_r0 : kd r0 = 3) (hk_r1 : kd r1 = 7) (hG : DG A D ac ad s σ H locs) (hl : lv_has ls 2 [(0, .ref (ad r0)), (1, .ref (ad r1))]) (hf : m_3_readTrees r0 r1 Q σ) : W p l e R s m args below meth c H locs cells slots QW (F0 m 0 ls []) := by
  have hx := S.1.1
  have hb := S.1.2.1
  unfold m_3_readTrees at hf
  refine lv_aload_n hx hb d_3_readTrees_0 rfl (lv_at hl 1 rfl) ?_
  refine lv_aload_n hx hb d_3_readTrees_1 rfl (lv_at hl 0 rfl) ?_
  refine gf_3_18 S hG hk_r0 d_3_readTrees_2 ?_
  refine iv_3_44 S hl.1 hG hk_r1 (c_7_signAt l hk_r1 hf) ⟨Nat.le_of_ble_eq_true rfl, Nat.le_of_ble_eq_true rfl⟩ (Nat.le_of_ble_eq_true rfl) d_3_readTrees_5 (fun v_2 σ_1 hf H locs hG => ?_)
  refine iv_3_50 S hl.1 hG  (c_3_isDigit l  hf) ⟨Nat.le_of_ble_eq_true rfl, Nat.le_of_ble_eq_true rfl⟩ (Nat.le_of_ble_eq_true rfl) d_3_readTrees_8 (fun v_4 σ_3 hf H locs hG => ?_)
  refine lv_if_ne (tgt := 24) hx hb d_3_readTrees_11 (by decide) (fun hc => ?_) (fun hc => ?_)
  · have hf := hf.1 hc
    refine lv_aload_n hx hb d_3_readTrees_24 rfl (lv_at hl 0 rfl) ?_
    refine gf_3_12 S hG hk_r0 d_3_readTrees_25 ?_
    refine lv_aload_n hx hb d_3_readTrees_28 rfl (lv_at hl 1 rfl) ?_
    refine lv_aload_n hx hb d_3_readTrees_29 rfl (lv_at hl 0 rfl) ?_
    refine gf_3_18 S hG hk_r0 d_3_readTrees_30 ?_
    refine iv_3_44 S hl.1 hG hk_r1 (c_7_signAt l hk_r1 hf) ⟨Nat.le_of_ble_eq_true rfl, Nat.le_of_ble_eq_true rfl⟩ (Nat.le_of_ble_eq_true rfl) d_3_readTrees_33 (fun v_6 σ_5 hf H locs hG => ?_)
    refine lv_bipush (v := (48 : Int32)) hx hb d_3_readTrees_36 (by decide) ?_
    refine lv_isub hx hb d_3_readTrees_38 ?_
    refine pf_3_64 S hG (kr_3_0 hk_r0) d_3_readTrees_39 (fun σ_7 eσ_7 H locs hG => ?_)
    have hf := hf σ_7 eσ_7
    refine lv_aload_n hx hb d_3_readTrees_42 rfl (lv_at hl 0 rfl) ?_
    refine lv_dup hx hb d_3_readTrees_43 rfl ?_
    refine gf_3_18 S hG hk_r0 d_3_readTrees_44 ?_
    refine lv_iconst (v := (1 : Int32)) hx hb d_3_readTrees_47 (by decide) ?_
    refine lv_iadd hx hb d_3_readTrees_48 ?_
    refine pf_3_18 S hG hk_r0 d_3_readTrees_49 (fun σ_8 eσ_8 H locs hG => ?_)
    have hf := hf σ_8 eσ_8
    refine lv_aload_n hx hb d_3_readTrees_52 rfl (lv_at hl 0 rfl) ?_
    refine lv_aload_n hx hb d_3_readTrees_53 rfl (lv_at hl 1 rfl) ?_
    refine iv_3_61 S hl.1 hG hk_r0 (c_3_readSlash l hk_r0 hk_r1 hf) ⟨Nat.le_of_ble_eq_true rfl, Nat.le_of_ble_eq_true rfl⟩ (Nat.le_of_ble_eq_true rfl) d_3_readTrees_54 (fun v_10 σ_9 hf H locs hG => ?_)
    exact hR _ _ _ _ _ _ hG hf.1 hf.2 d_3_readTrees_57
  · have hf := hf.2 hc
    refine lv_aload_n hx hb d_3_readTrees_14 rfl (lv_at hl 0 rfl) ?_
    refine lv_iconst (v := (1 : Int32)) hx hb d_3_readTrees_15 (by decide) ?_
    refine lv_aload_n hx hb d_3_readTrees_16 rfl (lv_at hl 0 rfl) ?_
    refine gf_3_18 S hG hk_r0 d_3_readTrees_17 ?_
    refine iv_3_54 S hl.1 hG hk_r0 (c_3_fail l hk_r0 hf) ⟨Nat.le_of_ble_eq_true rfl, Nat.le_of_ble_eq_true rfl⟩ (Nat.le_of_ble_eq_true rfl) d_3_readTrees_20 (fun v_12 σ_11 hf H locs hG => ?_)
    exact hR _ _ _ _ _ _ hG hf.1 hf.2 d_3_readTrees_23
theorem c_3_readTrees (l : Launch) {D : va_G} {ac : Nat → ClassId} {ad st : Nat → Nat} {A : Nat → Prop} {σ : St} {r0 : Nat} {r1 : Nat} {Q : Int32 → St → Prop} (hk_r0 : kd r0 = 3) (hk_r1 : kd r1 = 7) (hf : m_3_readTrees r0 r1 Q σ) : Met l y_3_readTrees (Cond.code y_3_readTrees prog_5_method_5_code 2 (some .boolean) :: wA) { frames := 2, cells := 0, slots := 0, locals := 43 } (va_Pc [.ref (ad r0), .ref (ad r1)] (GSt A D ac ad st σ)) (va_Qi Q (GSt A D ac ad st) A) 0 0 A :=
  mkZ l (by decide +kernel) rfl [.ref (ad r0), .ref (ad r1)] (Nat.le_of_ble_eq_true rfl) (fun p e s m args below meth c ls QW S hR hG hl => w_3_readTrees_0 S hR hk_r0 hk_r1 hG hl hf)
set_option maxHeartbeats 4000000 in
set_option maxRecDepth 100000 in
theorem w_9_placeOf_0 {x0 : Int32} {x1 : Int32} {Q : Int32 → St → Prop} {σ : St} {H : Heap} {locs : List Loc} {ls : Array Slot} (S : SC A D ac st p m c prog_1_method_32_code 2 s args "SweeperRounds" R cells slots 0 0) (hR : RtI A D ac ad p l e R s m args below meth c prog_1_method_32_code cells slots QW Q) (hG : DG A D ac ad s σ H locs) (hl : lv_has ls 2 [(0, .int x0), (1, .int x1)]) (hf : m_9_placeOf x0 x1 Q σ) : W p l e R s m args below meth c H locs cells slots QW (F0 m 0 ls []) := by
  have hx := S.1.1
  have hb := S.1.2.1
  unfold m_9_placeOf at hf
  refine lv_iload_n hx hb d_9_placeOf_0 rfl (lv_at hl 0 rfl) ?_
  refine lv_bipush (v := (20 : Int32)) hx hb d_9_placeOf_1 (by decide) ?_
  refine lv_imul hx hb d_9_placeOf_3 ?_
  refine lv_iload_n hx hb d_9_placeOf_4 rfl (lv_at hl 1 rfl) ?_
  refine lv_iadd hx hb d_9_placeOf_5 ?_
  exact hR _ _ _ _ _ _ hG hf d_9_placeOf_6
theorem c_9_placeOf (l : Launch) {D : va_G} {ac : Nat → ClassId} {ad st : Nat → Nat} {A : Nat → Prop} {σ : St} {x0 : Int32} {x1 : Int32} {Q : Int32 → St → Prop} (hf : m_9_placeOf x0 x1 Q σ) : Met l y_9_placeOf (Cond.code y_9_placeOf prog_1_method_32_code 2 (some .int) :: wA) { frames := 0, cells := 0, slots := 0, locals := 0 } (va_Pc [.int x0, .int x1] (GSt A D ac ad st σ)) (va_Qi Q (GSt A D ac ad st) A) 0 0 A :=
  mkI l (by decide +kernel) rfl [.int x0, .int x1] (Nat.le_of_ble_eq_true rfl) (fun p e s m args below meth c ls QW S hR hG hl => w_9_placeOf_0 S hR hG hl hf)
set_option maxHeartbeats 4000000 in
set_option maxRecDepth 100000 in
theorem w_3_readCell_73 {r0 : Nat} {x2 : Int32} {x4 : Int32} {Q : Int32 → St → Prop} {t0 : Int32} {t1 : Int32} {t2 : Int32} {t3 : Int32} {t4 : Nat} {σ : St} {H : Heap} {locs : List Loc} {ls : Array Slot} (S : SC A D ac st p m c prog_5_method_8_code 5 s args "SweeperRounds$Reader" R cells slots 1 22) (hR : RtZ A D ac ad p l e R s m args below meth c prog_5_method_8_code cells slots QW Q) (hk_r0 : kd r0 = 3) (hk_t4 : kd t4 = 20) (hG : DG A D ac ad s σ H locs) (hl : lv_has ls 5 [(0, .ref (ad r0)), (2, .int x2), (4, .int x4)]) (hf : m_3_readCell_73 r0 x2 x4 Q t0 t1 t2 t3 t4 σ) : W p l e R s m args below meth c H locs cells slots QW (F0 m 73 ls [.int t0, .int t1, .int t2, .int t3, .ref (ad t4)]) := by
  have hx := S.1.1
  have hb := S.1.2.1
  unfold m_3_readCell_73 at hf
  refine lv_isub hx hb d_3_readCell_73 ?_
  refine lv_imul hx hb d_3_readCell_74 ?_
  refine mis S hG 20 rfl rfl hk_t4 hf.1 d_3_readCell_75 (fun σ_1 eσ_1 H locs hG => ?_)
  have hf := hf.2 σ_1 eσ_1
  refine lv_aload_n hx hb d_3_readCell_76 rfl (lv_at hl 0 rfl) ?_
  refine gf_3_12 S hG hk_r0 d_3_readCell_77 ?_
  refine gf_3_82 S hG (kr_3_0 hk_r0) d_3_readCell_80 ?_
  refine lv_iload_n hx hb d_3_readCell_83 rfl (lv_at hl 1 rfl) ?_
  refine lv_iload hx hb d_3_readCell_84 (lv_at hl 2 rfl) ?_
  refine mzs S hG (kr_6_4 (kr_3_0 hk_r0)) hf.1 d_3_readCell_86 (fun σ_2 eσ_2 H locs hG => ?_)
  have hf := hf.2 σ_2 eσ_2
  refine lv_aload_n hx hb d_3_readCell_87 rfl (lv_at hl 0 rfl) ?_
  refine lv_dup hx hb d_3_readCell_88 rfl ?_
  refine gf_3_18 S hG hk_r0 d_3_readCell_89 ?_
  refine lv_iconst (v := (1 : Int32)) hx hb d_3_readCell_92 (by decide) ?_
  refine lv_iadd hx hb d_3_readCell_93 ?_
  refine pf_3_18 S hG hk_r0 d_3_readCell_94 (fun σ_3 eσ_3 H locs hG => ?_)
  have hf := hf σ_3 eσ_3
  refine lv_iconst (v := (1 : Int32)) hx hb d_3_readCell_97 (by decide) ?_
  exact hR _ _ _ _ _ _ hG (by unfold isB; decide) hf d_3_readCell_98
set_option maxHeartbeats 4000000 in
set_option maxRecDepth 100000 in
theorem w_3_readCell_50 {r0 : Nat} {x2 : Int32} {x3 : Int32} {x4 : Int32} {Q : Int32 → St → Prop} {σ : St} {H : Heap} {locs : List Loc} {ls : Array Slot} (S : SC A D ac st p m c prog_5_method_8_code 5 s args "SweeperRounds$Reader" R cells slots 1 22) (hR : RtZ A D ac ad p l e R s m args below meth c prog_5_method_8_code cells slots QW Q) (hk_r0 : kd r0 = 3) (hG : DG A D ac ad s σ H locs) (hl : lv_has ls 5 [(0, .ref (ad r0)), (2, .int x2), (3, .int x3), (4, .int x4)]) (hf : m_3_readCell_50 r0 x2 x3 x4 Q σ) : W p l e R s m args below meth c H locs cells slots QW (F0 m 50 ls []) := by
  have hx := S.1.1
  have hb := S.1.2.1
  unfold m_3_readCell_50 at hf
  refine lv_aload_n hx hb d_3_readCell_50 rfl (lv_at hl 0 rfl) ?_
  refine gf_3_12 S hG hk_r0 d_3_readCell_51 ?_
  refine gf_3_78 S hG (kr_3_0 hk_r0) d_3_readCell_54 ?_
  refine lv_iload_n hx hb d_3_readCell_57 rfl (lv_at hl 1 rfl) ?_
  refine lv_bipush (v := (10 : Int32)) hx hb d_3_readCell_58 (by decide) ?_
  refine lv_iload_n hx hb d_3_readCell_60 rfl (lv_at hl 2 rfl) ?_
  refine lv_iload hx hb d_3_readCell_61 (lv_at hl 3 rfl) ?_
  refine lv_if_eq (tgt := 71) hx hb d_3_readCell_63 (by decide) (fun hc => ?_) (fun hc => ?_)
  · have hf := hf.1 hc
    refine lv_bipush (v := (48 : Int32)) hx hb d_3_readCell_71 (by decide) ?_
    exact w_3_readCell_73 S hR hk_r0  (kr_6_3 (kr_3_0 hk_r0))  hG (lv_sub hl [0, 1, 3] rfl) hf
  · have hf := hf.2 hc
    refine lv_bipush (v := (97 : Int32)) hx hb d_3_readCell_66 (by decide) ?_
    refine lv_goto (tgt := 73) hx hb d_3_readCell_68 (by decide) ?_
    exact w_3_readCell_73 S hR hk_r0  (kr_6_3 (kr_3_0 hk_r0))  hG (lv_sub hl [0, 1, 3] rfl) hf
set_option maxHeartbeats 4000000 in
set_option maxRecDepth 100000 in
theorem w_3_readCell_26 {r0 : Nat} {x2 : Int32} {x3 : Int32} {Q : Int32 → St → Prop} {t0 : Int32} {σ : St} {H : Heap} {locs : List Loc} {ls : Array Slot} (S : SC A D ac st p m c prog_5_method_8_code 5 s args "SweeperRounds$Reader" R cells slots 1 22) (hR : RtZ A D ac ad p l e R s m args below meth c prog_5_method_8_code cells slots QW Q) (hk_r0 : kd r0 = 3) (hG : DG A D ac ad s σ H locs) (hl : lv_has ls 5 [(0, .ref (ad r0)), (2, .int x2), (3, .int x3)]) (hf : m_3_readCell_26 r0 x2 x3 Q t0 σ) : W p l e R s m args below meth c H locs cells slots QW (F0 m 26 ls [.int t0]) := by
  have hx := S.1.1
  have hb := S.1.2.1
  unfold m_3_readCell_26 at hf
  refine lv_istore (lv' := [(4, .int t0), (0, .ref (ad r0)), (2, .int x2), (3, .int x3)]) hx hb d_3_readCell_26 hl (by decide) rfl (fun ls hl => ?_)
  refine lv_iload hx hb d_3_readCell_28 (lv_at hl 0 rfl) ?_
  refine lv_if_ne (tgt := 50) hx hb d_3_readCell_30 (by decide) (fun hc => ?_) (fun hc => ?_)
  · have hf := hf.1 hc
    exact w_3_readCell_50 S hR hk_r0    hG (lv_sub hl [1, 2, 3, 0] rfl) hf
  · have hf := hf.2 hc
    refine lv_iload_n hx hb d_3_readCell_33 rfl (lv_at hl 3 rfl) ?_
    refine iv_3_50 S hl.1 hG  (c_3_isDigit l  hf) ⟨Nat.le_of_ble_eq_true rfl, Nat.le_of_ble_eq_true rfl⟩ (Nat.le_of_ble_eq_true rfl) d_3_readCell_34 (fun v_2 σ_1 hf H locs hG => ?_)
    refine lv_if_ne (tgt := 50) hx hb d_3_readCell_37 (by decide) (fun hc => ?_) (fun hc => ?_)
    · have hf := hf.1 hc
      exact w_3_readCell_50 S hR hk_r0    hG (lv_sub hl [1, 2, 3, 0] rfl) hf
    · have hf := hf.2 hc
      refine lv_aload_n hx hb d_3_readCell_40 rfl (lv_at hl 1 rfl) ?_
      refine lv_iconst (v := (1 : Int32)) hx hb d_3_readCell_41 (by decide) ?_
      refine lv_aload_n hx hb d_3_readCell_42 rfl (lv_at hl 1 rfl) ?_
      refine gf_3_18 S hG hk_r0 d_3_readCell_43 ?_
      refine iv_3_54 S hl.1 hG hk_r0 (c_3_fail l hk_r0 hf) ⟨Nat.le_of_ble_eq_true rfl, Nat.le_of_ble_eq_true rfl⟩ (Nat.le_of_ble_eq_true rfl) d_3_readCell_46 (fun v_4 σ_3 hf H locs hG => ?_)
      exact hR _ _ _ _ _ _ hG hf.1 hf.2 d_3_readCell_49
set_option maxHeartbeats 4000000 in
set_option maxRecDepth 100000 in
theorem w_3_readCell_0 {r0 : Nat} {r1 : Nat} {x2 : Int32} {Q : Int32 → St → Prop} {σ : St} {H : Heap} {locs : List Loc} {ls : Array Slot} (S : SC A D ac st p m c prog_5_method_8_code 5 s args "SweeperRounds$Reader" R cells slots 1 22) (hR : RtZ A D ac ad p l e R s m args below meth c prog_5_method_8_code cells slots QW Q) (hk_r0 : kd r0 = 3) (hk_r1 : kd r1 = 7) (hG : DG A D ac ad s σ H locs) (hl : lv_has ls 5 [(0, .ref (ad r0)), (1, .ref (ad r1)), (2, .int x2)]) (hf : m_3_readCell r0 r1 x2 Q σ) : W p l e R s m args below meth c H locs cells slots QW (F0 m 0 ls []) := by
  have hx := S.1.1
  have hb := S.1.2.1
  unfold m_3_readCell at hf
  refine lv_aload_n hx hb d_3_readCell_0 rfl (lv_at hl 1 rfl) ?_
  refine lv_aload_n hx hb d_3_readCell_1 rfl (lv_at hl 0 rfl) ?_
  refine gf_3_18 S hG hk_r0 d_3_readCell_2 ?_
  refine iv_3_44 S hl.1 hG hk_r1 (c_7_signAt l hk_r1 hf) ⟨Nat.le_of_ble_eq_true rfl, Nat.le_of_ble_eq_true rfl⟩ (Nat.le_of_ble_eq_true rfl) d_3_readCell_5 (fun v_2 σ_1 hf H locs hG => ?_)
  refine lv_istore_n (lv' := [(3, .int v_2), (0, .ref (ad r0)), (1, .ref (ad r1)), (2, .int x2)]) hx hb d_3_readCell_8 rfl hl (by decide) rfl (fun ls hl => ?_)
  refine lv_iload_n hx hb d_3_readCell_9 rfl (lv_at hl 0 rfl) ?_
  refine lv_bipush (v := (97 : Int32)) hx hb d_3_readCell_10 (by decide) ?_
  refine lv_icmp_lt (tgt := 25) hx hb d_3_readCell_12 (by decide) (fun hc => ?_) (fun hc => ?_)
  · have hf := hf.1 hc
    refine lv_iconst (v := (0 : Int32)) hx hb d_3_readCell_25 (by decide) ?_
    exact w_3_readCell_26 S hR hk_r0    hG (lv_sub hl [1, 3, 0] rfl) hf
  · have hf := hf.2 hc
    refine lv_iload_n hx hb d_3_readCell_15 rfl (lv_at hl 0 rfl) ?_
    refine lv_bipush (v := (106 : Int32)) hx hb d_3_readCell_16 (by decide) ?_
    refine lv_icmp_gt (tgt := 25) hx hb d_3_readCell_18 (by decide) (fun hc => ?_) (fun hc => ?_)
    · have hf := hf.1 hc
      refine lv_iconst (v := (0 : Int32)) hx hb d_3_readCell_25 (by decide) ?_
      exact w_3_readCell_26 S hR hk_r0    hG (lv_sub hl [1, 3, 0] rfl) hf
    · have hf := hf.2 hc
      refine lv_iconst (v := (1 : Int32)) hx hb d_3_readCell_21 (by decide) ?_
      refine lv_goto (tgt := 26) hx hb d_3_readCell_22 (by decide) ?_
      exact w_3_readCell_26 S hR hk_r0    hG (lv_sub hl [1, 3, 0] rfl) hf
theorem c_3_readCell (l : Launch) {D : va_G} {ac : Nat → ClassId} {ad st : Nat → Nat} {A : Nat → Prop} {σ : St} {r0 : Nat} {r1 : Nat} {x2 : Int32} {Q : Int32 → St → Prop} (hk_r0 : kd r0 = 3) (hk_r1 : kd r1 = 7) (hf : m_3_readCell r0 r1 x2 Q σ) : Met l y_3_readCell (Cond.code y_3_readCell prog_5_method_8_code 5 (some .boolean) :: wA) { frames := 1, cells := 0, slots := 0, locals := 22 } (va_Pc [.ref (ad r0), .ref (ad r1), .int x2] (GSt A D ac ad st σ)) (va_Qi Q (GSt A D ac ad st) A) 0 0 A :=
  mkZ l (by decide +kernel) rfl [.ref (ad r0), .ref (ad r1), .int x2] (Nat.le_of_ble_eq_true rfl) (fun p e s m args below meth c ls QW S hR hG hl => w_3_readCell_0 S hR hk_r0 hk_r1 hG hl hf)
set_option maxHeartbeats 4000000 in
set_option maxRecDepth 100000 in
theorem w_3_readLeftSide_59 {r0 : Nat} {r1 : Nat} {Q : Int32 → St → Prop} {σ : St} {H : Heap} {locs : List Loc} {ls : Array Slot} (S : SC A D ac st p m c prog_5_method_6_code 3 s args "SweeperRounds$Reader" R cells slots 2 46) (hR : RtZ A D ac ad p l e R s m args below meth c prog_5_method_6_code cells slots QW Q) (hk_r0 : kd r0 = 3) (hk_r1 : kd r1 = 7) (hG : DG A D ac ad s σ H locs) (hl : lv_has ls 3 [(0, .ref (ad r0)), (1, .ref (ad r1))]) (hf : m_3_readLeftSide_59 r0 r1 Q σ) : W p l e R s m args below meth c H locs cells slots QW (F0 m 59 ls []) := by
  have hx := S.1.1
  have hb := S.1.2.1
  unfold m_3_readLeftSide_59 at hf
  refine lv_aload_n hx hb d_3_readLeftSide_59 rfl (lv_at hl 0 rfl) ?_
  refine lv_aload_n hx hb d_3_readLeftSide_60 rfl (lv_at hl 1 rfl) ?_
  refine iv_3_61 S hl.1 hG hk_r0 (c_3_readSlash l hk_r0 hk_r1 hf) ⟨Nat.le_of_ble_eq_true rfl, Nat.le_of_ble_eq_true rfl⟩ (Nat.le_of_ble_eq_true rfl) d_3_readLeftSide_61 (fun v_2 σ_1 hf H locs hG => ?_)
  exact hR _ _ _ _ _ _ hG hf.1 hf.2 d_3_readLeftSide_64
set_option maxHeartbeats 4000000 in
set_option maxRecDepth 100000 in
theorem w_3_readLeftSide_28 {r0 : Nat} {r1 : Nat} {x2 : Int32} {B2 : Int32 → St → Prop} {Q : Int32 → St → Prop} {σ : St} {H : Heap} {locs : List Loc} {ls : Array Slot} (S : SC A D ac st p m c prog_5_method_6_code 3 s args "SweeperRounds$Reader" R cells slots 2 46) (hR : RtZ A D ac ad p l e R s m args below meth c prog_5_method_6_code cells slots QW Q) (hk_r0 : kd r0 = 3) (hk_r1 : kd r1 = 7) (hB2 : ∀ (x2 : Int32) (σ : St) (H : Heap) (locs : List Loc) (ls : Array Slot), DG A D ac ad s σ H locs → lv_has ls 3 [(0, .ref (ad r0)), (1, .ref (ad r1)), (2, .int x2)] → B2 x2 σ → W p l e R s m args below meth c H locs cells slots QW (F0 m 2 ls [])) (hG : DG A D ac ad s σ H locs) (hl : lv_has ls 3 [(0, .ref (ad r0)), (1, .ref (ad r1)), (2, .int x2)]) (hf : m_3_readLeftSide_28 r0 r1 x2 B2 Q σ) : W p l e R s m args below meth c H locs cells slots QW (F0 m 28 ls []) := by
  have hx := S.1.1
  have hb := S.1.2.1
  unfold m_3_readLeftSide_28 at hf
  refine lv_aload_n hx hb d_3_readLeftSide_28 rfl (lv_at hl 0 rfl) ?_
  refine lv_aload_n hx hb d_3_readLeftSide_29 rfl (lv_at hl 1 rfl) ?_
  refine lv_iconst (v := (0 : Int32)) hx hb d_3_readLeftSide_30 (by decide) ?_
  refine lv_iload_n hx hb d_3_readLeftSide_31 rfl (lv_at hl 2 rfl) ?_
  refine iv_3_67 S hl.1 hG  (c_9_placeOf l  hf) ⟨Nat.le_of_ble_eq_true rfl, Nat.le_of_ble_eq_true rfl⟩ (Nat.le_of_ble_eq_true rfl) d_3_readLeftSide_32 (fun v_2 σ_1 hf H locs hG => ?_)
  refine iv_3_71 S hl.1 hG hk_r0 (c_3_readCell l hk_r0 hk_r1 hf) ⟨Nat.le_of_ble_eq_true rfl, Nat.le_of_ble_eq_true rfl⟩ (Nat.le_of_ble_eq_true rfl) d_3_readLeftSide_35 (fun v_4 σ_3 hf H locs hG => ?_)
  refine lv_if_ne (tgt := 43) hx hb d_3_readLeftSide_38 (by decide) (fun hc => ?_) (fun hc => ?_)
  · have hf := hf.1 hc
    refine lv_aload_n hx hb d_3_readLeftSide_43 rfl (lv_at hl 0 rfl) ?_
    refine gf_3_12 S hG hk_r0 d_3_readLeftSide_44 ?_
    refine lv_iload_n hx hb d_3_readLeftSide_47 rfl (lv_at hl 2 rfl) ?_
    refine lv_iconst (v := (1 : Int32)) hx hb d_3_readLeftSide_48 (by decide) ?_
    refine lv_iadd hx hb d_3_readLeftSide_49 ?_
    refine pf_3_75 S hG (kr_3_0 hk_r0) d_3_readLeftSide_50 (fun σ_5 eσ_5 H locs hG => ?_)
    have hf := hf σ_5 eσ_5
    obtain ⟨x2_6, ex2_6⟩ : ∃ y : Int32, y = x2 + 1 := ⟨_, rfl⟩
    have hf := hf x2_6 ex2_6
    refine lv_iinc (v := x2_6) (lv' := [(2, .int x2_6), (0, .ref (ad r0)), (1, .ref (ad r1))]) hx hb d_3_readLeftSide_53 hl (k := 2) rfl (by rw [ex2_6]; rfl) (by decide) rfl (fun ls hl => ?_)
    refine lv_goto (tgt := 2) hx hb d_3_readLeftSide_56 (by decide) ?_
    exact hB2 _ _ _ _ _  hG (lv_sub hl [1, 2, 0] rfl) hf
  · have hf := hf.2 hc
    refine lv_iconst (v := (0 : Int32)) hx hb d_3_readLeftSide_41 (by decide) ?_
    exact hR _ _ _ _ _ _ hG (by unfold isB; decide) hf d_3_readLeftSide_42
set_option maxHeartbeats 4000000 in
set_option maxRecDepth 100000 in
theorem w_3_readLeftSide_2 {r0 : Nat} {r1 : Nat} {Q : Int32 → St → Prop} {B2 : Int32 → St → Prop} {x2 : Int32} {σ : St} {H : Heap} {locs : List Loc} {ls : Array Slot} (S : SC A D ac st p m c prog_5_method_6_code 3 s args "SweeperRounds$Reader" R cells slots 2 46) (hR : RtZ A D ac ad p l e R s m args below meth c prog_5_method_6_code cells slots QW Q) (hk_r0 : kd r0 = 3) (hk_r1 : kd r1 = 7) (hB2 : ∀ (x2 : Int32) (σ : St) (H : Heap) (locs : List Loc) (ls : Array Slot), DG A D ac ad s σ H locs → lv_has ls 3 [(0, .ref (ad r0)), (1, .ref (ad r1)), (2, .int x2)] → B2 x2 σ → W p l e R s m args below meth c H locs cells slots QW (F0 m 2 ls [])) (hG : DG A D ac ad s σ H locs) (hl : lv_has ls 3 [(0, .ref (ad r0)), (1, .ref (ad r1)), (2, .int x2)]) (hf : m_3_readLeftSide_2 r0 r1 Q B2 x2 σ) : W p l e R s m args below meth c H locs cells slots QW (F0 m 2 ls []) := by
  have hx := S.1.1
  have hb := S.1.2.1
  unfold m_3_readLeftSide_2 at hf
  refine lv_iload_n hx hb d_3_readLeftSide_2 rfl (lv_at hl 2 rfl) ?_
  refine lv_bipush (v := (20 : Int32)) hx hb d_3_readLeftSide_3 (by decide) ?_
  refine lv_icmp_ge (tgt := 59) hx hb d_3_readLeftSide_5 (by decide) (fun hc => ?_) (fun hc => ?_)
  · have hf := hf.1 hc
    exact w_3_readLeftSide_59 S hR hk_r0 hk_r1    hG (lv_sub hl [0, 1] rfl) hf
  · have hf := hf.2 hc
    refine lv_iload_n hx hb d_3_readLeftSide_8 rfl (lv_at hl 2 rfl) ?_
    refine lv_if_le (tgt := 28) hx hb d_3_readLeftSide_9 (by decide) (fun hc => ?_) (fun hc => ?_)
    · have hf := hf.1 hc
      exact w_3_readLeftSide_28 S hR hk_r0 hk_r1   hB2 hG (lv_sub hl [0, 1, 2] rfl) hf
    · have hf := hf.2 hc
      refine lv_aload_n hx hb d_3_readLeftSide_12 rfl (lv_at hl 1 rfl) ?_
      refine lv_aload_n hx hb d_3_readLeftSide_13 rfl (lv_at hl 0 rfl) ?_
      refine gf_3_18 S hG hk_r0 d_3_readLeftSide_14 ?_
      refine iv_3_44 S hl.1 hG hk_r1 (c_7_signAt l hk_r1 hf) ⟨Nat.le_of_ble_eq_true rfl, Nat.le_of_ble_eq_true rfl⟩ (Nat.le_of_ble_eq_true rfl) d_3_readLeftSide_17 (fun v_2 σ_1 hf H locs hG => ?_)
      refine lv_bipush (v := (47 : Int32)) hx hb d_3_readLeftSide_20 (by decide) ?_
      refine lv_icmp_ne (tgt := 28) hx hb d_3_readLeftSide_22 (by decide) (fun hc => ?_) (fun hc => ?_)
      · have hf := hf.1 hc
        exact w_3_readLeftSide_28 S hR hk_r0 hk_r1   hB2 hG (lv_sub hl [0, 1, 2] rfl) hf
      · have hf := hf.2 hc
        refine lv_goto (tgt := 59) hx hb d_3_readLeftSide_25 (by decide) ?_
        exact w_3_readLeftSide_59 S hR hk_r0 hk_r1    hG (lv_sub hl [0, 1] rfl) hf
set_option maxHeartbeats 4000000 in
set_option maxRecDepth 100000 in
theorem lp_3_readLeftSide_2 {r0 : Nat} {r1 : Nat} {Q : Int32 → St → Prop} (S : SC A D ac st p m c prog_5_method_6_code 3 s args "SweeperRounds$Reader" R cells slots 2 46) (hR : RtZ A D ac ad p l e R s m args below meth c prog_5_method_6_code cells slots QW Q) (hk_r0 : kd r0 = 3) (hk_r1 : kd r1 = 7) : ∀ (n : Nat) (x2 : Int32) (σ : St) (H : Heap) (locs : List Loc) (ls : Array Slot), DG A D ac ad s σ H locs → lv_has ls 3 [(0, .ref (ad r0)), (1, .ref (ad r1)), (2, .int x2)] → itN (m_3_readLeftSide_2 r0 r1 Q) (fun _ _ => False) n x2 σ → W p l e R s m args below meth c H locs cells slots QW (F0 m 2 ls []) := by
  intro n
  induction n with
  | zero =>
    intro x2 σ H locs ls  hG hl hf
    exact hf.elim
  | succ n ih =>
    intro x2 σ H locs ls  hG hl hf
    exact w_3_readLeftSide_2 S hR hk_r0 hk_r1  ih hG hl hf
set_option maxHeartbeats 4000000 in
set_option maxRecDepth 100000 in
theorem w_3_readLeftSide_0 {r0 : Nat} {r1 : Nat} {Q : Int32 → St → Prop} {σ : St} {H : Heap} {locs : List Loc} {ls : Array Slot} (S : SC A D ac st p m c prog_5_method_6_code 3 s args "SweeperRounds$Reader" R cells slots 2 46) (hR : RtZ A D ac ad p l e R s m args below meth c prog_5_method_6_code cells slots QW Q) (hk_r0 : kd r0 = 3) (hk_r1 : kd r1 = 7) (hG : DG A D ac ad s σ H locs) (hl : lv_has ls 3 [(0, .ref (ad r0)), (1, .ref (ad r1))]) (hf : m_3_readLeftSide r0 r1 Q σ) : W p l e R s m args below meth c H locs cells slots QW (F0 m 0 ls []) := by
  have hx := S.1.1
  have hb := S.1.2.1
  unfold m_3_readLeftSide at hf
  refine lv_iconst (v := (0 : Int32)) hx hb d_3_readLeftSide_0 (by decide) ?_
  refine lv_istore_n (lv' := [(2, .int (0 : Int32)), (0, .ref (ad r0)), (1, .ref (ad r1))]) hx hb d_3_readLeftSide_1 rfl hl (by decide) rfl (fun ls hl => ?_)
  exact lp_3_readLeftSide_2 S hR hk_r0 hk_r1  FU _ _ _ _ _  hG (lv_sub hl [1, 2, 0] rfl) hf
theorem c_3_readLeftSide (l : Launch) {D : va_G} {ac : Nat → ClassId} {ad st : Nat → Nat} {A : Nat → Prop} {σ : St} {r0 : Nat} {r1 : Nat} {Q : Int32 → St → Prop} (hk_r0 : kd r0 = 3) (hk_r1 : kd r1 = 7) (hf : m_3_readLeftSide r0 r1 Q σ) : Met l y_3_readLeftSide (Cond.code y_3_readLeftSide prog_5_method_6_code 3 (some .boolean) :: wA) { frames := 2, cells := 0, slots := 0, locals := 46 } (va_Pc [.ref (ad r0), .ref (ad r1)] (GSt A D ac ad st σ)) (va_Qi Q (GSt A D ac ad st) A) 0 0 A :=
  mkZ l (by decide +kernel) rfl [.ref (ad r0), .ref (ad r1)] (Nat.le_of_ble_eq_true rfl) (fun p e s m args below meth c ls QW S hR hG hl => w_3_readLeftSide_0 S hR hk_r0 hk_r1 hG hl hf)
set_option maxHeartbeats 4000000 in
set_option maxRecDepth 100000 in
theorem w_3_readRightSide_2 {r0 : Nat} {r1 : Nat} {Q : Int32 → St → Prop} {B2 : Int32 → St → Prop} {x2 : Int32} {σ : St} {H : Heap} {locs : List Loc} {ls : Array Slot} (S : SC A D ac st p m c prog_5_method_7_code 3 s args "SweeperRounds$Reader" R cells slots 2 46) (hR : RtZ A D ac ad p l e R s m args below meth c prog_5_method_7_code cells slots QW Q) (hk_r0 : kd r0 = 3) (hk_r1 : kd r1 = 7) (hB2 : ∀ (x2 : Int32) (σ : St) (H : Heap) (locs : List Loc) (ls : Array Slot), DG A D ac ad s σ H locs → lv_has ls 3 [(0, .ref (ad r0)), (1, .ref (ad r1)), (2, .int x2)] → B2 x2 σ → W p l e R s m args below meth c H locs cells slots QW (F0 m 2 ls [])) (hG : DG A D ac ad s σ H locs) (hl : lv_has ls 3 [(0, .ref (ad r0)), (1, .ref (ad r1)), (2, .int x2)]) (hf : m_3_readRightSide_2 r0 r1 Q B2 x2 σ) : W p l e R s m args below meth c H locs cells slots QW (F0 m 2 ls []) := by
  have hx := S.1.1
  have hb := S.1.2.1
  unfold m_3_readRightSide_2 at hf
  refine lv_iload_n hx hb d_3_readRightSide_2 rfl (lv_at hl 2 rfl) ?_
  refine lv_aload_n hx hb d_3_readRightSide_3 rfl (lv_at hl 0 rfl) ?_
  refine gf_3_12 S hG hk_r0 d_3_readRightSide_4 ?_
  refine gf_3_75 S hG (kr_3_0 hk_r0) d_3_readRightSide_7 ?_
  refine lv_icmp_ge (tgt := 34) hx hb d_3_readRightSide_10 (by decide) (fun hc => ?_) (fun hc => ?_)
  · have hf := hf.1 hc
    refine lv_aload_n hx hb d_3_readRightSide_34 rfl (lv_at hl 1 rfl) ?_
    refine lv_aload_n hx hb d_3_readRightSide_35 rfl (lv_at hl 0 rfl) ?_
    refine gf_3_18 S hG hk_r0 d_3_readRightSide_36 ?_
    refine iv_3_44 S hl.1 hG hk_r1 (c_7_signAt l hk_r1 hf) ⟨Nat.le_of_ble_eq_true rfl, Nat.le_of_ble_eq_true rfl⟩ (Nat.le_of_ble_eq_true rfl) d_3_readRightSide_39 (fun v_2 σ_1 hf H locs hG => ?_)
    refine lv_iconst (v := (-1 : Int32)) hx hb d_3_readRightSide_42 (by decide) ?_
    refine lv_icmp_eq (tgt := 58) hx hb d_3_readRightSide_43 (by decide) (fun hc => ?_) (fun hc => ?_)
    · have hf := hf.1 hc
      refine lv_iconst (v := (1 : Int32)) hx hb d_3_readRightSide_58 (by decide) ?_
      refine lv_goto (tgt := 63) hx hb d_3_readRightSide_59 (by decide) ?_
      exact hR _ _ _ _ _ _ hG (by unfold isB; decide) hf d_3_readRightSide_63
    · have hf := hf.2 hc
      refine lv_aload_n hx hb d_3_readRightSide_46 rfl (lv_at hl 0 rfl) ?_
      refine lv_iconst (v := (1 : Int32)) hx hb d_3_readRightSide_47 (by decide) ?_
      refine lv_aload_n hx hb d_3_readRightSide_48 rfl (lv_at hl 0 rfl) ?_
      refine gf_3_18 S hG hk_r0 d_3_readRightSide_49 ?_
      refine iv_3_54 S hl.1 hG hk_r0 (c_3_fail l hk_r0 hf) ⟨Nat.le_of_ble_eq_true rfl, Nat.le_of_ble_eq_true rfl⟩ (Nat.le_of_ble_eq_true rfl) d_3_readRightSide_52 (fun v_4 σ_3 hf H locs hG => ?_)
      refine lv_if_eq (tgt := 62) hx hb d_3_readRightSide_55 (by decide) (fun hc => ?_) (fun hc => ?_)
      · have hf := hf.1 hc
        refine lv_iconst (v := (0 : Int32)) hx hb d_3_readRightSide_62 (by decide) ?_
        exact hR _ _ _ _ _ _ hG (by unfold isB; decide) hf d_3_readRightSide_63
      · have hf := hf.2 hc
        refine lv_iconst (v := (1 : Int32)) hx hb d_3_readRightSide_58 (by decide) ?_
        refine lv_goto (tgt := 63) hx hb d_3_readRightSide_59 (by decide) ?_
        exact hR _ _ _ _ _ _ hG (by unfold isB; decide) hf d_3_readRightSide_63
  · have hf := hf.2 hc
    refine lv_aload_n hx hb d_3_readRightSide_13 rfl (lv_at hl 0 rfl) ?_
    refine lv_aload_n hx hb d_3_readRightSide_14 rfl (lv_at hl 1 rfl) ?_
    refine lv_iconst (v := (1 : Int32)) hx hb d_3_readRightSide_15 (by decide) ?_
    refine lv_iload_n hx hb d_3_readRightSide_16 rfl (lv_at hl 2 rfl) ?_
    refine iv_3_67 S hl.1 hG  (c_9_placeOf l  hf) ⟨Nat.le_of_ble_eq_true rfl, Nat.le_of_ble_eq_true rfl⟩ (Nat.le_of_ble_eq_true rfl) d_3_readRightSide_17 (fun v_6 σ_5 hf H locs hG => ?_)
    refine iv_3_71 S hl.1 hG hk_r0 (c_3_readCell l hk_r0 hk_r1 hf) ⟨Nat.le_of_ble_eq_true rfl, Nat.le_of_ble_eq_true rfl⟩ (Nat.le_of_ble_eq_true rfl) d_3_readRightSide_20 (fun v_8 σ_7 hf H locs hG => ?_)
    refine lv_if_ne (tgt := 28) hx hb d_3_readRightSide_23 (by decide) (fun hc => ?_) (fun hc => ?_)
    · have hf := hf.1 hc
      obtain ⟨x2_9, ex2_9⟩ : ∃ y : Int32, y = x2 + 1 := ⟨_, rfl⟩
      have hf := hf x2_9 ex2_9
      refine lv_iinc (v := x2_9) (lv' := [(2, .int x2_9), (0, .ref (ad r0)), (1, .ref (ad r1))]) hx hb d_3_readRightSide_28 hl (k := 2) rfl (by rw [ex2_9]; rfl) (by decide) rfl (fun ls hl => ?_)
      refine lv_goto (tgt := 2) hx hb d_3_readRightSide_31 (by decide) ?_
      exact hB2 _ _ _ _ _  hG (lv_sub hl [1, 2, 0] rfl) hf
    · have hf := hf.2 hc
      refine lv_iconst (v := (0 : Int32)) hx hb d_3_readRightSide_26 (by decide) ?_
      exact hR _ _ _ _ _ _ hG (by unfold isB; decide) hf d_3_readRightSide_27
set_option maxHeartbeats 4000000 in
set_option maxRecDepth 100000 in
theorem lp_3_readRightSide_2 {r0 : Nat} {r1 : Nat} {Q : Int32 → St → Prop} (S : SC A D ac st p m c prog_5_method_7_code 3 s args "SweeperRounds$Reader" R cells slots 2 46) (hR : RtZ A D ac ad p l e R s m args below meth c prog_5_method_7_code cells slots QW Q) (hk_r0 : kd r0 = 3) (hk_r1 : kd r1 = 7) : ∀ (n : Nat) (x2 : Int32) (σ : St) (H : Heap) (locs : List Loc) (ls : Array Slot), DG A D ac ad s σ H locs → lv_has ls 3 [(0, .ref (ad r0)), (1, .ref (ad r1)), (2, .int x2)] → itN (m_3_readRightSide_2 r0 r1 Q) (fun _ _ => False) n x2 σ → W p l e R s m args below meth c H locs cells slots QW (F0 m 2 ls []) := by
  intro n
  induction n with
  | zero =>
    intro x2 σ H locs ls  hG hl hf
    exact hf.elim
  | succ n ih =>
    intro x2 σ H locs ls  hG hl hf
    exact w_3_readRightSide_2 S hR hk_r0 hk_r1  ih hG hl hf
set_option maxHeartbeats 4000000 in
set_option maxRecDepth 100000 in
theorem w_3_readRightSide_0 {r0 : Nat} {r1 : Nat} {Q : Int32 → St → Prop} {σ : St} {H : Heap} {locs : List Loc} {ls : Array Slot} (S : SC A D ac st p m c prog_5_method_7_code 3 s args "SweeperRounds$Reader" R cells slots 2 46) (hR : RtZ A D ac ad p l e R s m args below meth c prog_5_method_7_code cells slots QW Q) (hk_r0 : kd r0 = 3) (hk_r1 : kd r1 = 7) (hG : DG A D ac ad s σ H locs) (hl : lv_has ls 3 [(0, .ref (ad r0)), (1, .ref (ad r1))]) (hf : m_3_readRightSide r0 r1 Q σ) : W p l e R s m args below meth c H locs cells slots QW (F0 m 0 ls []) := by
  have hx := S.1.1
  have hb := S.1.2.1
  unfold m_3_readRightSide at hf
  refine lv_iconst (v := (0 : Int32)) hx hb d_3_readRightSide_0 (by decide) ?_
  refine lv_istore_n (lv' := [(2, .int (0 : Int32)), (0, .ref (ad r0)), (1, .ref (ad r1))]) hx hb d_3_readRightSide_1 rfl hl (by decide) rfl (fun ls hl => ?_)
  exact lp_3_readRightSide_2 S hR hk_r0 hk_r1  FU _ _ _ _ _  hG (lv_sub hl [1, 2, 0] rfl) hf
theorem c_3_readRightSide (l : Launch) {D : va_G} {ac : Nat → ClassId} {ad st : Nat → Nat} {A : Nat → Prop} {σ : St} {r0 : Nat} {r1 : Nat} {Q : Int32 → St → Prop} (hk_r0 : kd r0 = 3) (hk_r1 : kd r1 = 7) (hf : m_3_readRightSide r0 r1 Q σ) : Met l y_3_readRightSide (Cond.code y_3_readRightSide prog_5_method_7_code 3 (some .boolean) :: wA) { frames := 2, cells := 0, slots := 0, locals := 46 } (va_Pc [.ref (ad r0), .ref (ad r1)] (GSt A D ac ad st σ)) (va_Qi Q (GSt A D ac ad st) A) 0 0 A :=
  mkZ l (by decide +kernel) rfl [.ref (ad r0), .ref (ad r1)] (Nat.le_of_ble_eq_true rfl) (fun p e s m args below meth c ls QW S hR hG hl => w_3_readRightSide_0 S hR hk_r0 hk_r1 hG hl hf)
set_option maxHeartbeats 4000000 in
set_option maxRecDepth 100000 in
theorem w_3_read_0 {r0 : Nat} {r1 : Nat} {Q : Int32 → St → Prop} {σ : St} {H : Heap} {locs : List Loc} {ls : Array Slot} (S : SC A D ac st p m c prog_5_method_2_code 2 s args "SweeperRounds$Reader" R cells slots 3 68) (hR : RtI A D ac ad p l e R s m args below meth c prog_5_method_2_code cells slots QW Q) (hk_r0 : kd r0 = 3) (hk_r1 : kd r1 = 7) (hG : DG A D ac ad s σ H locs) (hl : lv_has ls 2 [(0, .ref (ad r0)), (1, .ref (ad r1))]) (hf : m_3_read r0 r1 Q σ) : W p l e R s m args below meth c H locs cells slots QW (F0 m 0 ls []) := by
  have hx := S.1.1
  have hb := S.1.2.1
  unfold m_3_read at hf
  refine lv_aload_n hx hb d_3_read_0 rfl (lv_at hl 0 rfl) ?_
  refine lv_iconst (v := (0 : Int32)) hx hb d_3_read_1 (by decide) ?_
  refine pf_3_18 S hG hk_r0 d_3_read_2 (fun σ_1 eσ_1 H locs hG => ?_)
  have hf := hf σ_1 eσ_1
  refine lv_aload_n hx hb d_3_read_5 rfl (lv_at hl 0 rfl) ?_
  refine lv_iconst (v := (0 : Int32)) hx hb d_3_read_6 (by decide) ?_
  refine pf_3_22 S hG hk_r0 d_3_read_7 (fun σ_2 eσ_2 H locs hG => ?_)
  have hf := hf σ_2 eσ_2
  refine lv_aload_n hx hb d_3_read_10 rfl (lv_at hl 0 rfl) ?_
  refine lv_iconst (v := (0 : Int32)) hx hb d_3_read_11 (by decide) ?_
  refine pf_3_25 S hG hk_r0 d_3_read_12 (fun σ_3 eσ_3 H locs hG => ?_)
  have hf := hf σ_3 eσ_3
  refine lv_aload_n hx hb d_3_read_15 rfl (lv_at hl 0 rfl) ?_
  refine gf_3_12 S hG hk_r0 d_3_read_16 ?_
  refine iv_3_28 S hl.1 hG (kr_3_0 hk_r0) (c_6_clear l (kr_3_0 hk_r0) hf) ⟨Nat.le_of_ble_eq_true rfl, Nat.le_of_ble_eq_true rfl⟩ (Nat.le_of_ble_eq_true rfl) d_3_read_19 (fun σ_4 hf H locs hG => ?_)
  refine lv_aload_n hx hb d_3_read_22 rfl (lv_at hl 0 rfl) ?_
  refine lv_aload_n hx hb d_3_read_23 rfl (lv_at hl 1 rfl) ?_
  refine iv_3_31 S hl.1 hG hk_r0 (c_3_readDistance l hk_r0 hk_r1 hf) ⟨Nat.le_of_ble_eq_true rfl, Nat.le_of_ble_eq_true rfl⟩ (Nat.le_of_ble_eq_true rfl) d_3_read_24 (fun v_7 σ_6 hf H locs hG => ?_)
  refine lv_if_eq (tgt := 52) hx hb d_3_read_27 (by decide) (fun hc => ?_) (fun hc => ?_)
  · have hf := hf.1 hc
    refine lv_aload_n hx hb d_3_read_52 rfl (lv_at hl 0 rfl) ?_
    refine gf_3_22 S hG hk_r0 d_3_read_53 ?_
    exact hR _ _ _ _ _ _ hG hf d_3_read_56
  · have hf := hf.2 hc
    refine lv_aload_n hx hb d_3_read_30 rfl (lv_at hl 0 rfl) ?_
    refine lv_aload_n hx hb d_3_read_31 rfl (lv_at hl 1 rfl) ?_
    refine iv_3_35 S hl.1 hG hk_r0 (c_3_readTrees l hk_r0 hk_r1 hf) ⟨Nat.le_of_ble_eq_true rfl, Nat.le_of_ble_eq_true rfl⟩ (Nat.le_of_ble_eq_true rfl) d_3_read_32 (fun v_9 σ_8 hf H locs hG => ?_)
    refine lv_if_eq (tgt := 52) hx hb d_3_read_35 (by decide) (fun hc => ?_) (fun hc => ?_)
    · have hf := hf.1 hc
      refine lv_aload_n hx hb d_3_read_52 rfl (lv_at hl 0 rfl) ?_
      refine gf_3_22 S hG hk_r0 d_3_read_53 ?_
      exact hR _ _ _ _ _ _ hG hf d_3_read_56
    · have hf := hf.2 hc
      refine lv_aload_n hx hb d_3_read_38 rfl (lv_at hl 0 rfl) ?_
      refine lv_aload_n hx hb d_3_read_39 rfl (lv_at hl 1 rfl) ?_
      refine iv_3_38 S hl.1 hG hk_r0 (c_3_readLeftSide l hk_r0 hk_r1 hf) ⟨Nat.le_of_ble_eq_true rfl, Nat.le_of_ble_eq_true rfl⟩ (Nat.le_of_ble_eq_true rfl) d_3_read_40 (fun v_11 σ_10 hf H locs hG => ?_)
      refine lv_if_eq (tgt := 52) hx hb d_3_read_43 (by decide) (fun hc => ?_) (fun hc => ?_)
      · have hf := hf.1 hc
        refine lv_aload_n hx hb d_3_read_52 rfl (lv_at hl 0 rfl) ?_
        refine gf_3_22 S hG hk_r0 d_3_read_53 ?_
        exact hR _ _ _ _ _ _ hG hf d_3_read_56
      · have hf := hf.2 hc
        refine lv_aload_n hx hb d_3_read_46 rfl (lv_at hl 0 rfl) ?_
        refine lv_aload_n hx hb d_3_read_47 rfl (lv_at hl 1 rfl) ?_
        refine iv_3_41 S hl.1 hG hk_r0 (c_3_readRightSide l hk_r0 hk_r1 hf) ⟨Nat.le_of_ble_eq_true rfl, Nat.le_of_ble_eq_true rfl⟩ (Nat.le_of_ble_eq_true rfl) d_3_read_48 (fun v_13 σ_12 hf H locs hG => ?_)
        refine lv_pop hx hb d_3_read_51 rfl ?_
        refine lv_aload_n hx hb d_3_read_52 rfl (lv_at hl 0 rfl) ?_
        refine gf_3_22 S hG hk_r0 d_3_read_53 ?_
        exact hR _ _ _ _ _ _ hG hf d_3_read_56
theorem c_3_read (l : Launch) {D : va_G} {ac : Nat → ClassId} {ad st : Nat → Nat} {A : Nat → Prop} {σ : St} {r0 : Nat} {r1 : Nat} {Q : Int32 → St → Prop} (hk_r0 : kd r0 = 3) (hk_r1 : kd r1 = 7) (hf : m_3_read r0 r1 Q σ) : Met l y_3_read (Cond.code y_3_read prog_5_method_2_code 2 (some .int) :: wA) { frames := 3, cells := 0, slots := 0, locals := 68 } (va_Pc [.ref (ad r0), .ref (ad r1)] (GSt A D ac ad st σ)) (va_Qi Q (GSt A D ac ad st) A) 0 0 A :=
  mkI l (by decide +kernel) rfl [.ref (ad r0), .ref (ad r1)] (Nat.le_of_ble_eq_true rfl) (fun p e s m args below meth c ls QW S hR hG hl => w_3_read_0 S hR hk_r0 hk_r1 hG hl hf)
set_option maxHeartbeats 4000000 in
set_option maxRecDepth 100000 in
theorem w_6_copyFrom_26 {r0 : Nat} {r1 : Nat} {Q : St → Prop} {B26 : Int32 → St → Prop} {x2 : Int32} {σ : St} {H : Heap} {locs : List Loc} {ls : Array Slot} (S : SC A D ac st p m c prog_8_method_3_code 3 s args "SweeperRounds$Street" R cells slots 0 0) (hR : RtV A D ac ad p l e R s m args below meth c prog_8_method_3_code cells slots QW Q) (hk_r0 : kd r0 = 6) (hk_r1 : kd r1 = 6) (hB26 : ∀ (x2 : Int32) (σ : St) (H : Heap) (locs : List Loc) (ls : Array Slot), DG A D ac ad s σ H locs → lv_has ls 3 [(0, .ref (ad r0)), (1, .ref (ad r1)), (2, .int x2)] → B26 x2 σ → W p l e R s m args below meth c H locs cells slots QW (F0 m 26 ls [])) (hG : DG A D ac ad s σ H locs) (hl : lv_has ls 3 [(0, .ref (ad r0)), (1, .ref (ad r1)), (2, .int x2)]) (hf : m_6_copyFrom_26 r0 r1 Q B26 x2 σ) : W p l e R s m args below meth c H locs cells slots QW (F0 m 26 ls []) := by
  have hx := S.1.1
  have hb := S.1.2.1
  unfold m_6_copyFrom_26 at hf
  refine lv_iload_n hx hb d_6_copyFrom_26 rfl (lv_at hl 2 rfl) ?_
  refine lv_bipush (v := (40 : Int32)) hx hb d_6_copyFrom_27 (by decide) ?_
  refine lv_icmp_ge (tgt := 62) hx hb d_6_copyFrom_29 (by decide) (fun hc => ?_) (fun hc => ?_)
  · have hf := hf.1 hc
    exact hR _ _ _ _ _ hG hf d_6_copyFrom_62
  · have hf := hf.2 hc
    refine lv_aload_n hx hb d_6_copyFrom_32 rfl (lv_at hl 0 rfl) ?_
    refine gf_6_9 S hG hk_r0 d_6_copyFrom_33 ?_
    refine lv_iload_n hx hb d_6_copyFrom_36 rfl (lv_at hl 2 rfl) ?_
    refine lv_aload_n hx hb d_6_copyFrom_37 rfl (lv_at hl 1 rfl) ?_
    refine gf_6_9 S hG hk_r1 d_6_copyFrom_38 ?_
    refine lv_iload_n hx hb d_6_copyFrom_41 rfl (lv_at hl 2 rfl) ?_
    refine mia S hG 20 rfl rfl (kr_6_3 hk_r1) hf.1 d_6_copyFrom_42 ?_
    have hf := hf.2
    refine mis S hG 20 rfl rfl (kr_6_3 hk_r0) hf.1 d_6_copyFrom_43 (fun σ_1 eσ_1 H locs hG => ?_)
    have hf := hf.2 σ_1 eσ_1
    refine lv_aload_n hx hb d_6_copyFrom_44 rfl (lv_at hl 0 rfl) ?_
    refine gf_6_15 S hG hk_r0 d_6_copyFrom_45 ?_
    refine lv_iload_n hx hb d_6_copyFrom_48 rfl (lv_at hl 2 rfl) ?_
    refine lv_aload_n hx hb d_6_copyFrom_49 rfl (lv_at hl 1 rfl) ?_
    refine gf_6_15 S hG hk_r1 d_6_copyFrom_50 ?_
    refine lv_iload_n hx hb d_6_copyFrom_53 rfl (lv_at hl 2 rfl) ?_
    refine mza S hG (kr_6_4 hk_r1) hf.1 d_6_copyFrom_54 ?_
    have hf := hf.2
    refine mzs S hG (kr_6_4 hk_r0) hf.1 d_6_copyFrom_55 (fun σ_2 eσ_2 H locs hG => ?_)
    have hf := hf.2 σ_2 eσ_2
    obtain ⟨x2_3, ex2_3⟩ : ∃ y : Int32, y = x2 + 1 := ⟨_, rfl⟩
    have hf := hf x2_3 ex2_3
    refine lv_iinc (v := x2_3) (lv' := [(2, .int x2_3), (0, .ref (ad r0)), (1, .ref (ad r1))]) hx hb d_6_copyFrom_56 hl (k := 2) rfl (by rw [ex2_3]; rfl) (by decide) rfl (fun ls hl => ?_)
    refine lv_goto (tgt := 26) hx hb d_6_copyFrom_59 (by decide) ?_
    exact hB26 _ _ _ _ _  hG (lv_sub hl [1, 2, 0] rfl) hf
set_option maxHeartbeats 4000000 in
set_option maxRecDepth 100000 in
theorem lp_6_copyFrom_26 {r0 : Nat} {r1 : Nat} {Q : St → Prop} (S : SC A D ac st p m c prog_8_method_3_code 3 s args "SweeperRounds$Street" R cells slots 0 0) (hR : RtV A D ac ad p l e R s m args below meth c prog_8_method_3_code cells slots QW Q) (hk_r0 : kd r0 = 6) (hk_r1 : kd r1 = 6) : ∀ (n : Nat) (x2 : Int32) (σ : St) (H : Heap) (locs : List Loc) (ls : Array Slot), DG A D ac ad s σ H locs → lv_has ls 3 [(0, .ref (ad r0)), (1, .ref (ad r1)), (2, .int x2)] → itN (m_6_copyFrom_26 r0 r1 Q) (fun _ _ => False) n x2 σ → W p l e R s m args below meth c H locs cells slots QW (F0 m 26 ls []) := by
  intro n
  induction n with
  | zero =>
    intro x2 σ H locs ls  hG hl hf
    exact hf.elim
  | succ n ih =>
    intro x2 σ H locs ls  hG hl hf
    exact w_6_copyFrom_26 S hR hk_r0 hk_r1  ih hG hl hf
set_option maxHeartbeats 4000000 in
set_option maxRecDepth 100000 in
theorem w_6_copyFrom_0 {r0 : Nat} {r1 : Nat} {Q : St → Prop} {σ : St} {H : Heap} {locs : List Loc} {ls : Array Slot} (S : SC A D ac st p m c prog_8_method_3_code 3 s args "SweeperRounds$Street" R cells slots 0 0) (hR : RtV A D ac ad p l e R s m args below meth c prog_8_method_3_code cells slots QW Q) (hk_r0 : kd r0 = 6) (hk_r1 : kd r1 = 6) (hG : DG A D ac ad s σ H locs) (hl : lv_has ls 3 [(0, .ref (ad r0)), (1, .ref (ad r1))]) (hf : m_6_copyFrom r0 r1 Q σ) : W p l e R s m args below meth c H locs cells slots QW (F0 m 0 ls []) := by
  have hx := S.1.1
  have hb := S.1.2.1
  unfold m_6_copyFrom at hf
  refine lv_aload_n hx hb d_6_copyFrom_0 rfl (lv_at hl 0 rfl) ?_
  refine lv_aload_n hx hb d_6_copyFrom_1 rfl (lv_at hl 1 rfl) ?_
  refine gf_6_19 S hG hk_r1 d_6_copyFrom_2 ?_
  refine pf_6_19 S hG hk_r0 d_6_copyFrom_5 (fun σ_1 eσ_1 H locs hG => ?_)
  have hf := hf σ_1 eσ_1
  refine lv_aload_n hx hb d_6_copyFrom_8 rfl (lv_at hl 0 rfl) ?_
  refine lv_aload_n hx hb d_6_copyFrom_9 rfl (lv_at hl 1 rfl) ?_
  refine gf_6_23 S hG hk_r1 d_6_copyFrom_10 ?_
  refine pf_6_23 S hG hk_r0 d_6_copyFrom_13 (fun σ_2 eσ_2 H locs hG => ?_)
  have hf := hf σ_2 eσ_2
  refine lv_aload_n hx hb d_6_copyFrom_16 rfl (lv_at hl 0 rfl) ?_
  refine lv_aload_n hx hb d_6_copyFrom_17 rfl (lv_at hl 1 rfl) ?_
  refine gf_6_26 S hG hk_r1 d_6_copyFrom_18 ?_
  refine pf_6_26 S hG hk_r0 d_6_copyFrom_21 (fun σ_3 eσ_3 H locs hG => ?_)
  have hf := hf σ_3 eσ_3
  refine lv_iconst (v := (0 : Int32)) hx hb d_6_copyFrom_24 (by decide) ?_
  refine lv_istore_n (lv' := [(2, .int (0 : Int32)), (0, .ref (ad r0)), (1, .ref (ad r1))]) hx hb d_6_copyFrom_25 rfl hl (by decide) rfl (fun ls hl => ?_)
  exact lp_6_copyFrom_26 S hR hk_r0 hk_r1  FU _ _ _ _ _  hG (lv_sub hl [1, 2, 0] rfl) hf
theorem c_6_copyFrom (l : Launch) {D : va_G} {ac : Nat → ClassId} {ad st : Nat → Nat} {A : Nat → Prop} {σ : St} {r0 : Nat} {r1 : Nat} {Q : St → Prop} (hk_r0 : kd r0 = 6) (hk_r1 : kd r1 = 6) (hf : m_6_copyFrom r0 r1 Q σ) : Met l y_6_copyFrom (Cond.code y_6_copyFrom prog_8_method_3_code 3 none :: wA) { frames := 0, cells := 0, slots := 0, locals := 0 } (va_Pc [.ref (ad r0), .ref (ad r1)] (GSt A D ac ad st σ)) (va_Qv Q (GSt A D ac ad st) A) 0 0 A :=
  mkV l (by decide +kernel) rfl [.ref (ad r0), .ref (ad r1)] (Nat.le_of_ble_eq_true rfl) (fun p e s m args below meth c ls QW S hR hG hl => w_6_copyFrom_0 S hR hk_r0 hk_r1 hG hl hf)
set_option maxHeartbeats 4000000 in
set_option maxRecDepth 100000 in
theorem w_1_copyFrom_0 {r0 : Nat} {r1 : Nat} {Q : St → Prop} {σ : St} {H : Heap} {locs : List Loc} {ls : Array Slot} (S : SC A D ac st p m c prog_3_method_2_code 2 s args "SweeperRounds$Leg" R cells slots 0 0) (hR : RtV A D ac ad p l e R s m args below meth c prog_3_method_2_code cells slots QW Q) (hk_r0 : kd r0 = 1) (hk_r1 : kd r1 = 1) (hG : DG A D ac ad s σ H locs) (hl : lv_has ls 2 [(0, .ref (ad r0)), (1, .ref (ad r1))]) (hf : m_1_copyFrom r0 r1 Q σ) : W p l e R s m args below meth c H locs cells slots QW (F0 m 0 ls []) := by
  have hx := S.1.1
  have hb := S.1.2.1
  unfold m_1_copyFrom at hf
  refine lv_aload_n hx hb d_1_copyFrom_0 rfl (lv_at hl 0 rfl) ?_
  refine lv_aload_n hx hb d_1_copyFrom_1 rfl (lv_at hl 1 rfl) ?_
  refine gf_1_7 S hG hk_r1 d_1_copyFrom_2 ?_
  refine pf_1_7 S hG hk_r0 d_1_copyFrom_5 (fun σ_1 eσ_1 H locs hG => ?_)
  have hf := hf σ_1 eσ_1
  refine lv_aload_n hx hb d_1_copyFrom_8 rfl (lv_at hl 0 rfl) ?_
  refine lv_aload_n hx hb d_1_copyFrom_9 rfl (lv_at hl 1 rfl) ?_
  refine gf_1_13 S hG hk_r1 d_1_copyFrom_10 ?_
  refine pf_1_13 S hG hk_r0 d_1_copyFrom_13 (fun σ_2 eσ_2 H locs hG => ?_)
  have hf := hf σ_2 eσ_2
  refine lv_aload_n hx hb d_1_copyFrom_16 rfl (lv_at hl 0 rfl) ?_
  refine lv_aload_n hx hb d_1_copyFrom_17 rfl (lv_at hl 1 rfl) ?_
  refine gf_1_16 S hG hk_r1 d_1_copyFrom_18 ?_
  refine pf_1_16 S hG hk_r0 d_1_copyFrom_21 (fun σ_3 eσ_3 H locs hG => ?_)
  have hf := hf σ_3 eσ_3
  refine lv_aload_n hx hb d_1_copyFrom_24 rfl (lv_at hl 0 rfl) ?_
  refine lv_aload_n hx hb d_1_copyFrom_25 rfl (lv_at hl 1 rfl) ?_
  refine gf_1_19 S hG hk_r1 d_1_copyFrom_26 ?_
  refine pf_1_19 S hG hk_r0 d_1_copyFrom_29 (fun σ_4 eσ_4 H locs hG => ?_)
  have hf := hf σ_4 eσ_4
  exact hR _ _ _ _ _ hG hf d_1_copyFrom_32
theorem c_1_copyFrom (l : Launch) {D : va_G} {ac : Nat → ClassId} {ad st : Nat → Nat} {A : Nat → Prop} {σ : St} {r0 : Nat} {r1 : Nat} {Q : St → Prop} (hk_r0 : kd r0 = 1) (hk_r1 : kd r1 = 1) (hf : m_1_copyFrom r0 r1 Q σ) : Met l y_1_copyFrom (Cond.code y_1_copyFrom prog_3_method_2_code 2 none :: wA) { frames := 0, cells := 0, slots := 0, locals := 0 } (va_Pc [.ref (ad r0), .ref (ad r1)] (GSt A D ac ad st σ)) (va_Qv Q (GSt A D ac ad st) A) 0 0 A :=
  mkV l (by decide +kernel) rfl [.ref (ad r0), .ref (ad r1)] (Nat.le_of_ble_eq_true rfl) (fun p e s m args below meth c ls QW S hR hG hl => w_1_copyFrom_0 S hR hk_r0 hk_r1 hG hl hf)
set_option maxHeartbeats 4000000 in
set_option maxRecDepth 100000 in
theorem w_4_copyFrom_0 {r0 : Nat} {r1 : Nat} {Q : St → Prop} {σ : St} {H : Heap} {locs : List Loc} {ls : Array Slot} (S : SC A D ac st p m c prog_6_method_3_code 2 s args "SweeperRounds$Report" R cells slots 0 0) (hR : RtV A D ac ad p l e R s m args below meth c prog_6_method_3_code cells slots QW Q) (hk_r0 : kd r0 = 4) (hk_r1 : kd r1 = 4) (hG : DG A D ac ad s σ H locs) (hl : lv_has ls 2 [(0, .ref (ad r0)), (1, .ref (ad r1))]) (hf : m_4_copyFrom r0 r1 Q σ) : W p l e R s m args below meth c H locs cells slots QW (F0 m 0 ls []) := by
  have hx := S.1.1
  have hb := S.1.2.1
  unfold m_4_copyFrom at hf
  refine lv_aload_n hx hb d_4_copyFrom_0 rfl (lv_at hl 0 rfl) ?_
  refine lv_aload_n hx hb d_4_copyFrom_1 rfl (lv_at hl 1 rfl) ?_
  refine gf_4_9 S hG hk_r1 d_4_copyFrom_2 ?_
  refine pf_4_9 S hG hk_r0 d_4_copyFrom_5 (fun σ_1 eσ_1 H locs hG => ?_)
  have hf := hf σ_1 eσ_1
  refine lv_aload_n hx hb d_4_copyFrom_8 rfl (lv_at hl 0 rfl) ?_
  refine lv_aload_n hx hb d_4_copyFrom_9 rfl (lv_at hl 1 rfl) ?_
  refine gf_4_15 S hG hk_r1 d_4_copyFrom_10 ?_
  refine pf_4_15 S hG hk_r0 d_4_copyFrom_13 (fun σ_2 eσ_2 H locs hG => ?_)
  have hf := hf σ_2 eσ_2
  refine lv_aload_n hx hb d_4_copyFrom_16 rfl (lv_at hl 0 rfl) ?_
  refine lv_aload_n hx hb d_4_copyFrom_17 rfl (lv_at hl 1 rfl) ?_
  refine gf_4_18 S hG hk_r1 d_4_copyFrom_18 ?_
  refine pf_4_18 S hG hk_r0 d_4_copyFrom_21 (fun σ_3 eσ_3 H locs hG => ?_)
  have hf := hf σ_3 eσ_3
  refine lv_aload_n hx hb d_4_copyFrom_24 rfl (lv_at hl 0 rfl) ?_
  refine lv_aload_n hx hb d_4_copyFrom_25 rfl (lv_at hl 1 rfl) ?_
  refine gf_4_21 S hG hk_r1 d_4_copyFrom_26 ?_
  refine pf_4_21 S hG hk_r0 d_4_copyFrom_29 (fun σ_4 eσ_4 H locs hG => ?_)
  have hf := hf σ_4 eσ_4
  refine lv_aload_n hx hb d_4_copyFrom_32 rfl (lv_at hl 0 rfl) ?_
  refine lv_aload_n hx hb d_4_copyFrom_33 rfl (lv_at hl 1 rfl) ?_
  refine gf_4_24 S hG hk_r1 d_4_copyFrom_34 ?_
  refine pf_4_24 S hG hk_r0 d_4_copyFrom_37 (fun σ_5 eσ_5 H locs hG => ?_)
  have hf := hf σ_5 eσ_5
  refine lv_aload_n hx hb d_4_copyFrom_40 rfl (lv_at hl 0 rfl) ?_
  refine lv_aload_n hx hb d_4_copyFrom_41 rfl (lv_at hl 1 rfl) ?_
  refine gf_4_27 S hG hk_r1 d_4_copyFrom_42 ?_
  refine pf_4_27 S hG hk_r0 d_4_copyFrom_45 (fun σ_6 eσ_6 H locs hG => ?_)
  have hf := hf σ_6 eσ_6
  exact hR _ _ _ _ _ hG hf d_4_copyFrom_48
theorem c_4_copyFrom (l : Launch) {D : va_G} {ac : Nat → ClassId} {ad st : Nat → Nat} {A : Nat → Prop} {σ : St} {r0 : Nat} {r1 : Nat} {Q : St → Prop} (hk_r0 : kd r0 = 4) (hk_r1 : kd r1 = 4) (hf : m_4_copyFrom r0 r1 Q σ) : Met l y_4_copyFrom (Cond.code y_4_copyFrom prog_6_method_3_code 2 none :: wA) { frames := 0, cells := 0, slots := 0, locals := 0 } (va_Pc [.ref (ad r0), .ref (ad r1)] (GSt A D ac ad st σ)) (va_Qv Q (GSt A D ac ad st) A) 0 0 A :=
  mkV l (by decide +kernel) rfl [.ref (ad r0), .ref (ad r1)] (Nat.le_of_ble_eq_true rfl) (fun p e s m args below meth c ls QW S hR hG hl => w_4_copyFrom_0 S hR hk_r0 hk_r1 hG hl hf)
set_option maxHeartbeats 4000000 in
set_option maxRecDepth 100000 in
theorem w_8_copyFrom_49 {r0 : Nat} {r1 : Nat} {Q : St → Prop} {B49 : Int32 → St → Prop} {x2 : Int32} {σ : St} {H : Heap} {locs : List Loc} {ls : Array Slot} (S : SC A D ac st p m c prog_10_method_2_code 3 s args "SweeperRounds$World" R cells slots 1 22) (hR : RtV A D ac ad p l e R s m args below meth c prog_10_method_2_code cells slots QW Q) (hk_r0 : kd r0 = 8) (hk_r1 : kd r1 = 8) (hB49 : ∀ (x2 : Int32) (σ : St) (H : Heap) (locs : List Loc) (ls : Array Slot), DG A D ac ad s σ H locs → lv_has ls 3 [(0, .ref (ad r0)), (1, .ref (ad r1)), (2, .int x2)] → B49 x2 σ → W p l e R s m args below meth c H locs cells slots QW (F0 m 49 ls [])) (hG : DG A D ac ad s σ H locs) (hl : lv_has ls 3 [(0, .ref (ad r0)), (1, .ref (ad r1)), (2, .int x2)]) (hf : m_8_copyFrom_49 r0 r1 Q B49 x2 σ) : W p l e R s m args below meth c H locs cells slots QW (F0 m 49 ls []) := by
  have hx := S.1.1
  have hb := S.1.2.1
  unfold m_8_copyFrom_49 at hf
  refine lv_iload_n hx hb d_8_copyFrom_49 rfl (lv_at hl 2 rfl) ?_
  refine lv_aload_n hx hb d_8_copyFrom_50 rfl (lv_at hl 0 rfl) ?_
  refine gf_8_59 S hG hk_r0 d_8_copyFrom_51 ?_
  refine lv_icmp_ge (tgt := 78) hx hb d_8_copyFrom_54 (by decide) (fun hc => ?_) (fun hc => ?_)
  · have hf := hf.1 hc
    refine lv_aload_n hx hb d_8_copyFrom_78 rfl (lv_at hl 0 rfl) ?_
    refine lv_aload_n hx hb d_8_copyFrom_79 rfl (lv_at hl 1 rfl) ?_
    refine gf_8_65 S hG hk_r1 d_8_copyFrom_80 ?_
    refine pf_8_65 S hG hk_r0 hf.1 d_8_copyFrom_83 (fun σ_1 eσ_1 H locs hG => ?_)
    have hf := hf.2
    have hf := hf σ_1 eσ_1
    refine lv_aload_n hx hb d_8_copyFrom_86 rfl (lv_at hl 1 rfl) ?_
    refine gf_8_23 S hG hk_r1 d_8_copyFrom_87 ?_
    refine lv_iconst (v := (0 : Int32)) hx hb d_8_copyFrom_90 (by decide) ?_
    refine lv_aload_n hx hb d_8_copyFrom_91 rfl (lv_at hl 0 rfl) ?_
    refine gf_8_23 S hG hk_r0 d_8_copyFrom_92 ?_
    refine lv_iconst (v := (0 : Int32)) hx hb d_8_copyFrom_95 (by decide) ?_
    refine lv_bipush (v := (6 : Int32)) hx hb d_8_copyFrom_96 (by decide) ?_
    refine mcp S hl.1 hG wm_243 wm_245 wm_244 wm_73 26 26 rfl rfl rfl rfl (kr_8_5 hk_r1) (kr_8_5 hk_r0) hf.1 hf.2.1 hf.2.2.1 (by decide) (Nat.le_of_ble_eq_true rfl) d_8_copyFrom_98 (fun σ_2 eσ_2 H locs hG => ?_)
    have hf := hf.2.2.2 σ_2 eσ_2
    refine lv_aload_n hx hb d_8_copyFrom_101 rfl (lv_at hl 0 rfl) ?_
    refine lv_aload_n hx hb d_8_copyFrom_102 rfl (lv_at hl 1 rfl) ?_
    refine gf_8_48 S hG hk_r1 d_8_copyFrom_103 ?_
    refine pf_8_48 S hG hk_r0 d_8_copyFrom_106 (fun σ_3 eσ_3 H locs hG => ?_)
    have hf := hf σ_3 eσ_3
    refine lv_aload_n hx hb d_8_copyFrom_109 rfl (lv_at hl 0 rfl) ?_
    refine lv_aload_n hx hb d_8_copyFrom_110 rfl (lv_at hl 1 rfl) ?_
    refine gf_8_69 S hG hk_r1 d_8_copyFrom_111 ?_
    refine pf_8_69 S hG hk_r0 d_8_copyFrom_114 (fun σ_4 eσ_4 H locs hG => ?_)
    have hf := hf σ_4 eσ_4
    refine lv_aload_n hx hb d_8_copyFrom_117 rfl (lv_at hl 1 rfl) ?_
    refine gf_8_27 S hG hk_r1 d_8_copyFrom_118 ?_
    refine lv_iconst (v := (0 : Int32)) hx hb d_8_copyFrom_121 (by decide) ?_
    refine lv_aload_n hx hb d_8_copyFrom_122 rfl (lv_at hl 0 rfl) ?_
    refine gf_8_27 S hG hk_r0 d_8_copyFrom_123 ?_
    refine lv_iconst (v := (0 : Int32)) hx hb d_8_copyFrom_126 (by decide) ?_
    refine lv_bipush (v := (6 : Int32)) hx hb d_8_copyFrom_127 (by decide) ?_
    refine mcp S hl.1 hG wm_243 wm_245 wm_244 wm_73 27 27 rfl rfl rfl rfl (kr_8_8 hk_r1) (kr_8_8 hk_r0) hf.1 hf.2.1 hf.2.2.1 (by decide) (Nat.le_of_ble_eq_true rfl) d_8_copyFrom_129 (fun σ_5 eσ_5 H locs hG => ?_)
    have hf := hf.2.2.2 σ_5 eσ_5
    refine lv_aload_n hx hb d_8_copyFrom_132 rfl (lv_at hl 0 rfl) ?_
    refine gf_8_33 S hG hk_r0 d_8_copyFrom_133 ?_
    refine lv_aload_n hx hb d_8_copyFrom_136 rfl (lv_at hl 1 rfl) ?_
    refine gf_8_33 S hG hk_r1 d_8_copyFrom_137 ?_
    refine iv_8_72 S hl.1 hG (kr_8_9 hk_r0) (c_4_copyFrom l (kr_8_9 hk_r0) (kr_8_9 hk_r1) hf) ⟨Nat.le_of_ble_eq_true rfl, Nat.le_of_ble_eq_true rfl⟩ (Nat.le_of_ble_eq_true rfl) d_8_copyFrom_140 (fun σ_6 hf H locs hG => ?_)
    refine lv_aload_n hx hb d_8_copyFrom_143 rfl (lv_at hl 0 rfl) ?_
    refine lv_aload_n hx hb d_8_copyFrom_144 rfl (lv_at hl 1 rfl) ?_
    refine gf_8_75 S hG hk_r1 d_8_copyFrom_145 ?_
    refine pf_8_75 S hG hk_r0 d_8_copyFrom_148 (fun σ_8 eσ_8 H locs hG => ?_)
    have hf := hf σ_8 eσ_8
    refine lv_aload_n hx hb d_8_copyFrom_151 rfl (lv_at hl 0 rfl) ?_
    refine lv_aload_n hx hb d_8_copyFrom_152 rfl (lv_at hl 1 rfl) ?_
    refine gf_8_78 S hG hk_r1 d_8_copyFrom_153 ?_
    refine pf_8_78 S hG hk_r0 d_8_copyFrom_156 (fun σ_9 eσ_9 H locs hG => ?_)
    have hf := hf σ_9 eσ_9
    exact hR _ _ _ _ _ hG hf d_8_copyFrom_159
  · have hf := hf.2 hc
    refine lv_aload_n hx hb d_8_copyFrom_57 rfl (lv_at hl 0 rfl) ?_
    refine gf_8_19 S hG hk_r0 d_8_copyFrom_58 ?_
    refine lv_iload_n hx hb d_8_copyFrom_61 rfl (lv_at hl 2 rfl) ?_
    refine mq4 S hG (kr_8_2 hk_r0) hf.1 d_8_copyFrom_62 ?_
    have hi_10 := vin_lt hf.1
    have hf := hf.2
    refine lv_aload_n hx hb d_8_copyFrom_63 rfl (lv_at hl 1 rfl) ?_
    refine gf_8_19 S hG hk_r1 d_8_copyFrom_64 ?_
    refine lv_iload_n hx hb d_8_copyFrom_67 rfl (lv_at hl 2 rfl) ?_
    refine mq4 S hG (kr_8_2 hk_r1) hf.1 d_8_copyFrom_68 ?_
    have hi_11 := vin_lt hf.1
    have hf := hf.2
    refine iv_8_62 S hl.1 hG (ke_24 (kr_8_2 hk_r0) hi_10) (c_1_copyFrom l (ke_24 (kr_8_2 hk_r0) hi_10) (ke_24 (kr_8_2 hk_r1) hi_11) hf) ⟨Nat.le_of_ble_eq_true rfl, Nat.le_of_ble_eq_true rfl⟩ (Nat.le_of_ble_eq_true rfl) d_8_copyFrom_69 (fun σ_12 hf H locs hG => ?_)
    obtain ⟨x2_14, ex2_14⟩ : ∃ y : Int32, y = x2 + 1 := ⟨_, rfl⟩
    have hf := hf x2_14 ex2_14
    refine lv_iinc (v := x2_14) (lv' := [(2, .int x2_14), (0, .ref (ad r0)), (1, .ref (ad r1))]) hx hb d_8_copyFrom_72 hl (k := 2) rfl (by rw [ex2_14]; rfl) (by decide) rfl (fun ls hl => ?_)
    refine lv_goto (tgt := 49) hx hb d_8_copyFrom_75 (by decide) ?_
    exact hB49 _ _ _ _ _  hG (lv_sub hl [1, 2, 0] rfl) hf
set_option maxHeartbeats 4000000 in
set_option maxRecDepth 100000 in
theorem lp_8_copyFrom_49 {r0 : Nat} {r1 : Nat} {Q : St → Prop} (S : SC A D ac st p m c prog_10_method_2_code 3 s args "SweeperRounds$World" R cells slots 1 22) (hR : RtV A D ac ad p l e R s m args below meth c prog_10_method_2_code cells slots QW Q) (hk_r0 : kd r0 = 8) (hk_r1 : kd r1 = 8) : ∀ (n : Nat) (x2 : Int32) (σ : St) (H : Heap) (locs : List Loc) (ls : Array Slot), DG A D ac ad s σ H locs → lv_has ls 3 [(0, .ref (ad r0)), (1, .ref (ad r1)), (2, .int x2)] → itN (m_8_copyFrom_49 r0 r1 Q) (fun _ _ => False) n x2 σ → W p l e R s m args below meth c H locs cells slots QW (F0 m 49 ls []) := by
  intro n
  induction n with
  | zero =>
    intro x2 σ H locs ls  hG hl hf
    exact hf.elim
  | succ n ih =>
    intro x2 σ H locs ls  hG hl hf
    exact w_8_copyFrom_49 S hR hk_r0 hk_r1  ih hG hl hf
set_option maxHeartbeats 4000000 in
set_option maxRecDepth 100000 in
theorem w_8_copyFrom_10 {r0 : Nat} {r1 : Nat} {Q : St → Prop} {B10 : Int32 → St → Prop} {x2 : Int32} {σ : St} {H : Heap} {locs : List Loc} {ls : Array Slot} (S : SC A D ac st p m c prog_10_method_2_code 3 s args "SweeperRounds$World" R cells slots 1 22) (hR : RtV A D ac ad p l e R s m args below meth c prog_10_method_2_code cells slots QW Q) (hk_r0 : kd r0 = 8) (hk_r1 : kd r1 = 8) (hB10 : ∀ (x2 : Int32) (σ : St) (H : Heap) (locs : List Loc) (ls : Array Slot), DG A D ac ad s σ H locs → lv_has ls 3 [(0, .ref (ad r0)), (1, .ref (ad r1)), (2, .int x2)] → B10 x2 σ → W p l e R s m args below meth c H locs cells slots QW (F0 m 10 ls [])) (hG : DG A D ac ad s σ H locs) (hl : lv_has ls 3 [(0, .ref (ad r0)), (1, .ref (ad r1)), (2, .int x2)]) (hf : m_8_copyFrom_10 r0 r1 Q B10 x2 σ) : W p l e R s m args below meth c H locs cells slots QW (F0 m 10 ls []) := by
  have hx := S.1.1
  have hb := S.1.2.1
  unfold m_8_copyFrom_10 at hf
  refine lv_iload_n hx hb d_8_copyFrom_10 rfl (lv_at hl 2 rfl) ?_
  refine lv_aload_n hx hb d_8_copyFrom_11 rfl (lv_at hl 0 rfl) ?_
  refine gf_8_52 S hG hk_r0 d_8_copyFrom_12 ?_
  refine lv_icmp_ge (tgt := 39) hx hb d_8_copyFrom_15 (by decide) (fun hc => ?_) (fun hc => ?_)
  · have hf := hf.1 hc
    refine lv_aload_n hx hb d_8_copyFrom_39 rfl (lv_at hl 0 rfl) ?_
    refine lv_aload_n hx hb d_8_copyFrom_40 rfl (lv_at hl 1 rfl) ?_
    refine gf_8_59 S hG hk_r1 d_8_copyFrom_41 ?_
    refine pf_8_59 S hG hk_r0 d_8_copyFrom_44 (fun σ_1 eσ_1 H locs hG => ?_)
    have hf := hf σ_1 eσ_1
    refine lv_iconst (v := (0 : Int32)) hx hb d_8_copyFrom_47 (by decide) ?_
    refine lv_istore_n (lv' := [(2, .int (0 : Int32)), (0, .ref (ad r0)), (1, .ref (ad r1))]) hx hb d_8_copyFrom_48 rfl hl (by decide) rfl (fun ls hl => ?_)
    exact lp_8_copyFrom_49 S hR hk_r0 hk_r1  FU _ _ _ _ _  hG (lv_sub hl [1, 2, 0] rfl) hf
  · have hf := hf.2 hc
    refine lv_aload_n hx hb d_8_copyFrom_18 rfl (lv_at hl 0 rfl) ?_
    refine gf_8_11 S hG hk_r0 d_8_copyFrom_19 ?_
    refine lv_iload_n hx hb d_8_copyFrom_22 rfl (lv_at hl 2 rfl) ?_
    refine mq3 S hG (kr_8_0 hk_r0) hf.1 d_8_copyFrom_23 ?_
    have hi_2 := vin_lt hf.1
    have hf := hf.2
    refine lv_aload_n hx hb d_8_copyFrom_24 rfl (lv_at hl 1 rfl) ?_
    refine gf_8_11 S hG hk_r1 d_8_copyFrom_25 ?_
    refine lv_iload_n hx hb d_8_copyFrom_28 rfl (lv_at hl 2 rfl) ?_
    refine mq3 S hG (kr_8_0 hk_r1) hf.1 d_8_copyFrom_29 ?_
    have hi_3 := vin_lt hf.1
    have hf := hf.2
    refine iv_8_55 S hl.1 hG (ke_23 (kr_8_0 hk_r0) hi_2) (c_6_copyFrom l (ke_23 (kr_8_0 hk_r0) hi_2) (ke_23 (kr_8_0 hk_r1) hi_3) hf) ⟨Nat.le_of_ble_eq_true rfl, Nat.le_of_ble_eq_true rfl⟩ (Nat.le_of_ble_eq_true rfl) d_8_copyFrom_30 (fun σ_4 hf H locs hG => ?_)
    obtain ⟨x2_6, ex2_6⟩ : ∃ y : Int32, y = x2 + 1 := ⟨_, rfl⟩
    have hf := hf x2_6 ex2_6
    refine lv_iinc (v := x2_6) (lv' := [(2, .int x2_6), (0, .ref (ad r0)), (1, .ref (ad r1))]) hx hb d_8_copyFrom_33 hl (k := 2) rfl (by rw [ex2_6]; rfl) (by decide) rfl (fun ls hl => ?_)
    refine lv_goto (tgt := 10) hx hb d_8_copyFrom_36 (by decide) ?_
    exact hB10 _ _ _ _ _  hG (lv_sub hl [1, 2, 0] rfl) hf
set_option maxHeartbeats 4000000 in
set_option maxRecDepth 100000 in
theorem lp_8_copyFrom_10 {r0 : Nat} {r1 : Nat} {Q : St → Prop} (S : SC A D ac st p m c prog_10_method_2_code 3 s args "SweeperRounds$World" R cells slots 1 22) (hR : RtV A D ac ad p l e R s m args below meth c prog_10_method_2_code cells slots QW Q) (hk_r0 : kd r0 = 8) (hk_r1 : kd r1 = 8) : ∀ (n : Nat) (x2 : Int32) (σ : St) (H : Heap) (locs : List Loc) (ls : Array Slot), DG A D ac ad s σ H locs → lv_has ls 3 [(0, .ref (ad r0)), (1, .ref (ad r1)), (2, .int x2)] → itN (m_8_copyFrom_10 r0 r1 Q) (fun _ _ => False) n x2 σ → W p l e R s m args below meth c H locs cells slots QW (F0 m 10 ls []) := by
  intro n
  induction n with
  | zero =>
    intro x2 σ H locs ls  hG hl hf
    exact hf.elim
  | succ n ih =>
    intro x2 σ H locs ls  hG hl hf
    exact w_8_copyFrom_10 S hR hk_r0 hk_r1  ih hG hl hf
set_option maxHeartbeats 4000000 in
set_option maxRecDepth 100000 in
theorem w_8_copyFrom_0 {r0 : Nat} {r1 : Nat} {Q : St → Prop} {σ : St} {H : Heap} {locs : List Loc} {ls : Array Slot} (S : SC A D ac st p m c prog_10_method_2_code 3 s args "SweeperRounds$World" R cells slots 1 22) (hR : RtV A D ac ad p l e R s m args below meth c prog_10_method_2_code cells slots QW Q) (hk_r0 : kd r0 = 8) (hk_r1 : kd r1 = 8) (hG : DG A D ac ad s σ H locs) (hl : lv_has ls 3 [(0, .ref (ad r0)), (1, .ref (ad r1))]) (hf : m_8_copyFrom r0 r1 Q σ) : W p l e R s m args below meth c H locs cells slots QW (F0 m 0 ls []) := by
  have hx := S.1.1
  have hb := S.1.2.1
  unfold m_8_copyFrom at hf
  refine lv_aload_n hx hb d_8_copyFrom_0 rfl (lv_at hl 0 rfl) ?_
  refine lv_aload_n hx hb d_8_copyFrom_1 rfl (lv_at hl 1 rfl) ?_
  refine gf_8_52 S hG hk_r1 d_8_copyFrom_2 ?_
  refine pf_8_52 S hG hk_r0 d_8_copyFrom_5 (fun σ_1 eσ_1 H locs hG => ?_)
  have hf := hf σ_1 eσ_1
  refine lv_iconst (v := (0 : Int32)) hx hb d_8_copyFrom_8 (by decide) ?_
  refine lv_istore_n (lv' := [(2, .int (0 : Int32)), (0, .ref (ad r0)), (1, .ref (ad r1))]) hx hb d_8_copyFrom_9 rfl hl (by decide) rfl (fun ls hl => ?_)
  exact lp_8_copyFrom_10 S hR hk_r0 hk_r1  FU _ _ _ _ _  hG (lv_sub hl [1, 2, 0] rfl) hf
theorem c_8_copyFrom (l : Launch) {D : va_G} {ac : Nat → ClassId} {ad st : Nat → Nat} {A : Nat → Prop} {σ : St} {r0 : Nat} {r1 : Nat} {Q : St → Prop} (hk_r0 : kd r0 = 8) (hk_r1 : kd r1 = 8) (hf : m_8_copyFrom r0 r1 Q σ) : Met l y_8_copyFrom (Cond.code y_8_copyFrom prog_10_method_2_code 3 none :: wA) { frames := 1, cells := 0, slots := 0, locals := 22 } (va_Pc [.ref (ad r0), .ref (ad r1)] (GSt A D ac ad st σ)) (va_Qv Q (GSt A D ac ad st) A) 0 0 A :=
  mkV l (by decide +kernel) rfl [.ref (ad r0), .ref (ad r1)] (Nat.le_of_ble_eq_true rfl) (fun p e s m args below meth c ls QW S hR hG hl => w_8_copyFrom_0 S hR hk_r0 hk_r1 hG hl hf)
set_option maxHeartbeats 4000000 in
set_option maxRecDepth 100000 in
theorem w_0_remember_0 {r0 : Nat} {r1 : Nat} {Q : St → Prop} {σ : St} {H : Heap} {locs : List Loc} {ls : Array Slot} (S : SC A D ac st p m c prog_2_method_2_code 2 s args "SweeperRounds$History" R cells slots 2 44) (hR : RtV A D ac ad p l e R s m args below meth c prog_2_method_2_code cells slots QW Q) (hk_r0 : kd r0 = 0) (hk_r1 : kd r1 = 8) (hG : DG A D ac ad s σ H locs) (hl : lv_has ls 2 [(0, .ref (ad r0)), (1, .ref (ad r1))]) (hf : m_0_remember r0 r1 Q σ) : W p l e R s m args below meth c H locs cells slots QW (F0 m 0 ls []) := by
  have hx := S.1.1
  have hb := S.1.2.1
  unfold m_0_remember at hf
  refine lv_aload_n hx hb d_0_remember_0 rfl (lv_at hl 0 rfl) ?_
  refine gf_0_11 S hG hk_r0 d_0_remember_1 ?_
  refine lv_aload_n hx hb d_0_remember_4 rfl (lv_at hl 0 rfl) ?_
  refine gf_0_18 S hG hk_r0 d_0_remember_5 ?_
  refine mq5 S hG (kr_0_0 hk_r0) hf.1 d_0_remember_8 ?_
  have hi_1 := vin_lt hf.1
  have hf := hf.2
  refine lv_aload_n hx hb d_0_remember_9 rfl (lv_at hl 1 rfl) ?_
  refine iv_0_22 S hl.1 hG (ke_25 (kr_0_0 hk_r0) hi_1) (c_8_copyFrom l (ke_25 (kr_0_0 hk_r0) hi_1) hk_r1 hf) ⟨Nat.le_of_ble_eq_true rfl, Nat.le_of_ble_eq_true rfl⟩ (Nat.le_of_ble_eq_true rfl) d_0_remember_10 (fun σ_2 hf H locs hG => ?_)
  refine lv_aload_n hx hb d_0_remember_13 rfl (lv_at hl 0 rfl) ?_
  refine lv_aload_n hx hb d_0_remember_14 rfl (lv_at hl 0 rfl) ?_
  refine gf_0_18 S hG hk_r0 d_0_remember_15 ?_
  refine lv_iconst (v := (1 : Int32)) hx hb d_0_remember_18 (by decide) ?_
  refine lv_iadd hx hb d_0_remember_19 ?_
  refine lv_bipush (v := (8 : Int32)) hx hb d_0_remember_20 (by decide) ?_
  refine lv_irem hx hb d_0_remember_22 (by decide) ?_
  refine pf_0_18 S hG hk_r0 d_0_remember_23 (fun σ_4 eσ_4 H locs hG => ?_)
  have hf := hf σ_4 eσ_4
  refine lv_aload_n hx hb d_0_remember_26 rfl (lv_at hl 0 rfl) ?_
  refine lv_aload_n hx hb d_0_remember_27 rfl (lv_at hl 0 rfl) ?_
  refine gf_0_26 S hG hk_r0 d_0_remember_28 ?_
  refine lv_iconst (v := (1 : Int32)) hx hb d_0_remember_31 (by decide) ?_
  refine lv_iadd hx hb d_0_remember_32 ?_
  refine lv_bipush (v := (8 : Int32)) hx hb d_0_remember_33 (by decide) ?_
  refine mmn S hl.1 wm_471 wm_472 wm_78 wm_473 (by decide) (Nat.le_of_ble_eq_true rfl) d_0_remember_35 ?_
  refine pf_0_26 S hG hk_r0 d_0_remember_38 (fun σ_5 eσ_5 H locs hG => ?_)
  have hf := hf σ_5 eσ_5
  exact hR _ _ _ _ _ hG hf d_0_remember_41
theorem c_0_remember (l : Launch) {D : va_G} {ac : Nat → ClassId} {ad st : Nat → Nat} {A : Nat → Prop} {σ : St} {r0 : Nat} {r1 : Nat} {Q : St → Prop} (hk_r0 : kd r0 = 0) (hk_r1 : kd r1 = 8) (hf : m_0_remember r0 r1 Q σ) : Met l y_0_remember (Cond.code y_0_remember prog_2_method_2_code 2 none :: wA) { frames := 2, cells := 0, slots := 0, locals := 44 } (va_Pc [.ref (ad r0), .ref (ad r1)] (GSt A D ac ad st σ)) (va_Qv Q (GSt A D ac ad st) A) 0 0 A :=
  mkV l (by decide +kernel) rfl [.ref (ad r0), .ref (ad r1)] (Nat.le_of_ble_eq_true rfl) (fun p e s m args below meth c ls QW S hR hG hl => w_0_remember_0 S hR hk_r0 hk_r1 hG hl hf)
set_option maxHeartbeats 4000000 in
set_option maxRecDepth 100000 in
theorem w_6_dirtOfSide_4 {r0 : Nat} {x1 : Int32} {Q : Int32 → St → Prop} {B4 : Int32 → Int32 → St → Prop} {x2 : Int32} {x3 : Int32} {σ : St} {H : Heap} {locs : List Loc} {ls : Array Slot} (S : SC A D ac st p m c prog_8_method_4_code 4 s args "SweeperRounds$Street" R cells slots 1 21) (hR : RtI A D ac ad p l e R s m args below meth c prog_8_method_4_code cells slots QW Q) (hk_r0 : kd r0 = 6) (hB4 : ∀ (x2 : Int32) (x3 : Int32) (σ : St) (H : Heap) (locs : List Loc) (ls : Array Slot), DG A D ac ad s σ H locs → lv_has ls 4 [(0, .ref (ad r0)), (1, .int x1), (2, .int x2), (3, .int x3)] → B4 x2 x3 σ → W p l e R s m args below meth c H locs cells slots QW (F0 m 4 ls [])) (hG : DG A D ac ad s σ H locs) (hl : lv_has ls 4 [(0, .ref (ad r0)), (1, .int x1), (2, .int x2), (3, .int x3)]) (hf : m_6_dirtOfSide_4 r0 x1 Q B4 x2 x3 σ) : W p l e R s m args below meth c H locs cells slots QW (F0 m 4 ls []) := by
  have hx := S.1.1
  have hb := S.1.2.1
  unfold m_6_dirtOfSide_4 at hf
  refine lv_iload_n hx hb d_6_dirtOfSide_4 rfl (lv_at hl 3 rfl) ?_
  refine lv_aload_n hx hb d_6_dirtOfSide_5 rfl (lv_at hl 0 rfl) ?_
  refine gf_6_19 S hG hk_r0 d_6_dirtOfSide_6 ?_
  refine lv_icmp_ge (tgt := 31) hx hb d_6_dirtOfSide_9 (by decide) (fun hc => ?_) (fun hc => ?_)
  · have hf := hf.1 hc
    refine lv_iload_n hx hb d_6_dirtOfSide_31 rfl (lv_at hl 2 rfl) ?_
    exact hR _ _ _ _ _ _ hG hf d_6_dirtOfSide_32
  · have hf := hf.2 hc
    refine lv_iload_n hx hb d_6_dirtOfSide_12 rfl (lv_at hl 2 rfl) ?_
    refine lv_aload_n hx hb d_6_dirtOfSide_13 rfl (lv_at hl 0 rfl) ?_
    refine gf_6_9 S hG hk_r0 d_6_dirtOfSide_14 ?_
    refine lv_iload_n hx hb d_6_dirtOfSide_17 rfl (lv_at hl 1 rfl) ?_
    refine lv_iload_n hx hb d_6_dirtOfSide_18 rfl (lv_at hl 3 rfl) ?_
    refine iv_6_29 S hl.1 hG  (c_9_placeOf l  hf) ⟨Nat.le_of_ble_eq_true rfl, Nat.le_of_ble_eq_true rfl⟩ (Nat.le_of_ble_eq_true rfl) d_6_dirtOfSide_19 (fun v_2 σ_1 hf H locs hG => ?_)
    refine mia S hG 20 rfl rfl (kr_6_3 hk_r0) hf.1 d_6_dirtOfSide_22 ?_
    have hf := hf.2
    refine lv_iadd hx hb d_6_dirtOfSide_23 ?_
    refine lv_topi (fun x2_3 ex2_3 => ?_)
    have hf := hf x2_3 ex2_3
    refine lv_istore_n (lv' := [(2, .int x2_3), (0, .ref (ad r0)), (1, .int x1), (3, .int x3)]) hx hb d_6_dirtOfSide_24 rfl hl (by decide) rfl (fun ls hl => ?_)
    obtain ⟨x3_4, ex3_4⟩ : ∃ y : Int32, y = x3 + 1 := ⟨_, rfl⟩
    have hf := hf x3_4 ex3_4
    refine lv_iinc (v := x3_4) (lv' := [(3, .int x3_4), (2, .int x2_3), (0, .ref (ad r0)), (1, .int x1)]) hx hb d_6_dirtOfSide_25 hl (k := 3) rfl (by rw [ex3_4]; rfl) (by decide) rfl (fun ls hl => ?_)
    refine lv_goto (tgt := 4) hx hb d_6_dirtOfSide_28 (by decide) ?_
    exact hB4 _ _ _ _ _ _  hG (lv_sub hl [2, 3, 1, 0] rfl) hf
set_option maxHeartbeats 4000000 in
set_option maxRecDepth 100000 in
theorem lp_6_dirtOfSide_4 {r0 : Nat} {x1 : Int32} {Q : Int32 → St → Prop} (S : SC A D ac st p m c prog_8_method_4_code 4 s args "SweeperRounds$Street" R cells slots 1 21) (hR : RtI A D ac ad p l e R s m args below meth c prog_8_method_4_code cells slots QW Q) (hk_r0 : kd r0 = 6) : ∀ (n : Nat) (x2 : Int32) (x3 : Int32) (σ : St) (H : Heap) (locs : List Loc) (ls : Array Slot), DG A D ac ad s σ H locs → lv_has ls 4 [(0, .ref (ad r0)), (1, .int x1), (2, .int x2), (3, .int x3)] → itN (m_6_dirtOfSide_4 r0 x1 Q) (fun _ _ _ => False) n x2 x3 σ → W p l e R s m args below meth c H locs cells slots QW (F0 m 4 ls []) := by
  intro n
  induction n with
  | zero =>
    intro x2 x3 σ H locs ls  hG hl hf
    exact hf.elim
  | succ n ih =>
    intro x2 x3 σ H locs ls  hG hl hf
    exact w_6_dirtOfSide_4 S hR hk_r0  ih hG hl hf
set_option maxHeartbeats 4000000 in
set_option maxRecDepth 100000 in
theorem w_6_dirtOfSide_0 {r0 : Nat} {x1 : Int32} {Q : Int32 → St → Prop} {σ : St} {H : Heap} {locs : List Loc} {ls : Array Slot} (S : SC A D ac st p m c prog_8_method_4_code 4 s args "SweeperRounds$Street" R cells slots 1 21) (hR : RtI A D ac ad p l e R s m args below meth c prog_8_method_4_code cells slots QW Q) (hk_r0 : kd r0 = 6) (hG : DG A D ac ad s σ H locs) (hl : lv_has ls 4 [(0, .ref (ad r0)), (1, .int x1)]) (hf : m_6_dirtOfSide r0 x1 Q σ) : W p l e R s m args below meth c H locs cells slots QW (F0 m 0 ls []) := by
  have hx := S.1.1
  have hb := S.1.2.1
  unfold m_6_dirtOfSide at hf
  refine lv_iconst (v := (0 : Int32)) hx hb d_6_dirtOfSide_0 (by decide) ?_
  refine lv_istore_n (lv' := [(2, .int (0 : Int32)), (0, .ref (ad r0)), (1, .int x1)]) hx hb d_6_dirtOfSide_1 rfl hl (by decide) rfl (fun ls hl => ?_)
  refine lv_iconst (v := (0 : Int32)) hx hb d_6_dirtOfSide_2 (by decide) ?_
  refine lv_istore_n (lv' := [(3, .int (0 : Int32)), (2, .int (0 : Int32)), (0, .ref (ad r0)), (1, .int x1)]) hx hb d_6_dirtOfSide_3 rfl hl (by decide) rfl (fun ls hl => ?_)
  exact lp_6_dirtOfSide_4 S hR hk_r0  FU _ _ _ _ _ _  hG (lv_sub hl [2, 3, 1, 0] rfl) hf
theorem c_6_dirtOfSide (l : Launch) {D : va_G} {ac : Nat → ClassId} {ad st : Nat → Nat} {A : Nat → Prop} {σ : St} {r0 : Nat} {x1 : Int32} {Q : Int32 → St → Prop} (hk_r0 : kd r0 = 6) (hf : m_6_dirtOfSide r0 x1 Q σ) : Met l y_6_dirtOfSide (Cond.code y_6_dirtOfSide prog_8_method_4_code 4 (some .int) :: wA) { frames := 1, cells := 0, slots := 0, locals := 21 } (va_Pc [.ref (ad r0), .int x1] (GSt A D ac ad st σ)) (va_Qi Q (GSt A D ac ad st) A) 0 0 A :=
  mkI l (by decide +kernel) rfl [.ref (ad r0), .int x1] (Nat.le_of_ble_eq_true rfl) (fun p e s m args below meth c ls QW S hR hG hl => w_6_dirtOfSide_0 S hR hk_r0 hG hl hf)
set_option maxHeartbeats 4000000 in
set_option maxRecDepth 100000 in
theorem w_6_allDirt_0 {r0 : Nat} {Q : Int32 → St → Prop} {σ : St} {H : Heap} {locs : List Loc} {ls : Array Slot} (S : SC A D ac st p m c prog_8_method_5_code 1 s args "SweeperRounds$Street" R cells slots 2 44) (hR : RtI A D ac ad p l e R s m args below meth c prog_8_method_5_code cells slots QW Q) (hk_r0 : kd r0 = 6) (hG : DG A D ac ad s σ H locs) (hl : lv_has ls 1 [(0, .ref (ad r0))]) (hf : m_6_allDirt r0 Q σ) : W p l e R s m args below meth c H locs cells slots QW (F0 m 0 ls []) := by
  have hx := S.1.1
  have hb := S.1.2.1
  unfold m_6_allDirt at hf
  refine lv_aload_n hx hb d_6_allDirt_0 rfl (lv_at hl 0 rfl) ?_
  refine lv_iconst (v := (0 : Int32)) hx hb d_6_allDirt_1 (by decide) ?_
  refine iv_6_33 S hl.1 hG hk_r0 (c_6_dirtOfSide l hk_r0 hf) ⟨Nat.le_of_ble_eq_true rfl, Nat.le_of_ble_eq_true rfl⟩ (Nat.le_of_ble_eq_true rfl) d_6_allDirt_2 (fun v_2 σ_1 hf H locs hG => ?_)
  refine lv_aload_n hx hb d_6_allDirt_5 rfl (lv_at hl 0 rfl) ?_
  refine lv_iconst (v := (1 : Int32)) hx hb d_6_allDirt_6 (by decide) ?_
  refine iv_6_33 S hl.1 hG hk_r0 (c_6_dirtOfSide l hk_r0 hf) ⟨Nat.le_of_ble_eq_true rfl, Nat.le_of_ble_eq_true rfl⟩ (Nat.le_of_ble_eq_true rfl) d_6_allDirt_7 (fun v_4 σ_3 hf H locs hG => ?_)
  refine lv_iadd hx hb d_6_allDirt_10 ?_
  exact hR _ _ _ _ _ _ hG hf d_6_allDirt_11
theorem c_6_allDirt (l : Launch) {D : va_G} {ac : Nat → ClassId} {ad st : Nat → Nat} {A : Nat → Prop} {σ : St} {r0 : Nat} {Q : Int32 → St → Prop} (hk_r0 : kd r0 = 6) (hf : m_6_allDirt r0 Q σ) : Met l y_6_allDirt (Cond.code y_6_allDirt prog_8_method_5_code 1 (some .int) :: wA) { frames := 2, cells := 0, slots := 0, locals := 44 } (va_Pc [.ref (ad r0)] (GSt A D ac ad st σ)) (va_Qi Q (GSt A D ac ad st) A) 0 0 A :=
  mkI l (by decide +kernel) rfl [.ref (ad r0)] (Nat.le_of_ble_eq_true rfl) (fun p e s m args below meth c ls QW S hR hG hl => w_6_allDirt_0 S hR hk_r0 hG hl hf)
set_option maxHeartbeats 4000000 in
set_option maxRecDepth 100000 in
theorem w_8_putStreet_39 {r0 : Nat} {x1 : Int32} {r2 : Nat} {Q : St → Prop} {σ : St} {H : Heap} {locs : List Loc} {ls : Array Slot} (S : SC A D ac st p m c prog_10_method_8_code 3 s args "SweeperRounds$World" R cells slots 3 64) (hR : RtV A D ac ad p l e R s m args below meth c prog_10_method_8_code cells slots QW Q) (hk_r0 : kd r0 = 8) (hk_r2 : kd r2 = 6) (hG : DG A D ac ad s σ H locs) (hl : lv_has ls 3 [(0, .ref (ad r0)), (1, .int x1), (2, .ref (ad r2))]) (hf : m_8_putStreet_39 r0 x1 r2 Q σ) : W p l e R s m args below meth c H locs cells slots QW (F0 m 39 ls []) := by
  have hx := S.1.1
  have hb := S.1.2.1
  unfold m_8_putStreet_39 at hf
  refine lv_aload_n hx hb d_8_putStreet_39 rfl (lv_at hl 0 rfl) ?_
  refine gf_8_11 S hG hk_r0 d_8_putStreet_40 ?_
  refine lv_iload_n hx hb d_8_putStreet_43 rfl (lv_at hl 1 rfl) ?_
  refine mq3 S hG (kr_8_0 hk_r0) hf.1 d_8_putStreet_44 ?_
  have hi_1 := vin_lt hf.1
  have hf := hf.2
  refine lv_aload_n hx hb d_8_putStreet_45 rfl (lv_at hl 2 rfl) ?_
  refine iv_8_55 S hl.1 hG (ke_23 (kr_8_0 hk_r0) hi_1) (c_6_copyFrom l (ke_23 (kr_8_0 hk_r0) hi_1) hk_r2 hf) ⟨Nat.le_of_ble_eq_true rfl, Nat.le_of_ble_eq_true rfl⟩ (Nat.le_of_ble_eq_true rfl) d_8_putStreet_46 (fun σ_2 hf H locs hG => ?_)
  refine lv_aload_n hx hb d_8_putStreet_49 rfl (lv_at hl 0 rfl) ?_
  refine gf_8_27 S hG hk_r0 d_8_putStreet_50 ?_
  refine lv_iconst (v := (0 : Int32)) hx hb d_8_putStreet_53 (by decide) ?_
  refine lv_dup2_11 hx hb d_8_putStreet_54 rfl rfl ?_
  refine mia S hG 27 rfl rfl (kr_8_8 hk_r0) hf.1 d_8_putStreet_55 ?_
  have hf := hf.2
  refine lv_aload_n hx hb d_8_putStreet_56 rfl (lv_at hl 2 rfl) ?_
  refine iv_8_88 S hl.1 hG hk_r2 (c_6_allDirt l hk_r2 hf) ⟨Nat.le_of_ble_eq_true rfl, Nat.le_of_ble_eq_true rfl⟩ (Nat.le_of_ble_eq_true rfl) d_8_putStreet_57 (fun v_5 σ_4 hf H locs hG => ?_)
  refine lv_iadd hx hb d_8_putStreet_60 ?_
  refine mis S hG 27 rfl rfl (kr_8_8 hk_r0) hf.1 d_8_putStreet_61 (fun σ_6 eσ_6 H locs hG => ?_)
  have hf := hf.2 σ_6 eσ_6
  refine lv_aload_n hx hb d_8_putStreet_62 rfl (lv_at hl 0 rfl) ?_
  refine lv_iconst (v := (0 : Int32)) hx hb d_8_putStreet_63 (by decide) ?_
  refine pf_8_65 S hG hk_r0 (by unfold isB; decide) d_8_putStreet_64 (fun σ_7 eσ_7 H locs hG => ?_)
  have hf := hf σ_7 eσ_7
  exact hR _ _ _ _ _ hG hf d_8_putStreet_67
set_option maxHeartbeats 4000000 in
set_option maxRecDepth 100000 in
theorem w_8_putStreet_0 {r0 : Nat} {x1 : Int32} {r2 : Nat} {Q : St → Prop} {σ : St} {H : Heap} {locs : List Loc} {ls : Array Slot} (S : SC A D ac st p m c prog_10_method_8_code 3 s args "SweeperRounds$World" R cells slots 3 64) (hR : RtV A D ac ad p l e R s m args below meth c prog_10_method_8_code cells slots QW Q) (hk_r0 : kd r0 = 8) (hk_r2 : kd r2 = 6) (hG : DG A D ac ad s σ H locs) (hl : lv_has ls 3 [(0, .ref (ad r0)), (1, .int x1), (2, .ref (ad r2))]) (hf : m_8_putStreet r0 x1 r2 Q σ) : W p l e R s m args below meth c H locs cells slots QW (F0 m 0 ls []) := by
  have hx := S.1.1
  have hb := S.1.2.1
  unfold m_8_putStreet at hf
  refine lv_iload_n hx hb d_8_putStreet_0 rfl (lv_at hl 1 rfl) ?_
  refine lv_aload_n hx hb d_8_putStreet_1 rfl (lv_at hl 0 rfl) ?_
  refine gf_8_52 S hG hk_r0 d_8_putStreet_2 ?_
  refine lv_icmp_ge (tgt := 29) hx hb d_8_putStreet_5 (by decide) (fun hc => ?_) (fun hc => ?_)
  · have hf := hf.1 hc
    refine lv_aload_n hx hb d_8_putStreet_29 rfl (lv_at hl 0 rfl) ?_
    refine lv_dup hx hb d_8_putStreet_30 rfl ?_
    refine gf_8_52 S hG hk_r0 d_8_putStreet_31 ?_
    refine lv_iconst (v := (1 : Int32)) hx hb d_8_putStreet_34 (by decide) ?_
    refine lv_iadd hx hb d_8_putStreet_35 ?_
    refine pf_8_52 S hG hk_r0 d_8_putStreet_36 (fun σ_1 eσ_1 H locs hG => ?_)
    have hf := hf σ_1 eσ_1
    exact w_8_putStreet_39 S hR hk_r0 hk_r2    hG (lv_sub hl [0, 1, 2] rfl) hf
  · have hf := hf.2 hc
    refine lv_aload_n hx hb d_8_putStreet_8 rfl (lv_at hl 0 rfl) ?_
    refine gf_8_27 S hG hk_r0 d_8_putStreet_9 ?_
    refine lv_iconst (v := (2 : Int32)) hx hb d_8_putStreet_12 (by decide) ?_
    refine lv_dup2_11 hx hb d_8_putStreet_13 rfl rfl ?_
    refine mia S hG 27 rfl rfl (kr_8_8 hk_r0) hf.1 d_8_putStreet_14 ?_
    have hf := hf.2
    refine lv_aload_n hx hb d_8_putStreet_15 rfl (lv_at hl 0 rfl) ?_
    refine gf_8_11 S hG hk_r0 d_8_putStreet_16 ?_
    refine lv_iload_n hx hb d_8_putStreet_19 rfl (lv_at hl 1 rfl) ?_
    refine mq3 S hG (kr_8_0 hk_r0) hf.1 d_8_putStreet_20 ?_
    have hi_2 := vin_lt hf.1
    have hf := hf.2
    refine iv_8_88 S hl.1 hG (ke_23 (kr_8_0 hk_r0) hi_2) (c_6_allDirt l (ke_23 (kr_8_0 hk_r0) hi_2) hf) ⟨Nat.le_of_ble_eq_true rfl, Nat.le_of_ble_eq_true rfl⟩ (Nat.le_of_ble_eq_true rfl) d_8_putStreet_21 (fun v_4 σ_3 hf H locs hG => ?_)
    refine lv_iadd hx hb d_8_putStreet_24 ?_
    refine mis S hG 27 rfl rfl (kr_8_8 hk_r0) hf.1 d_8_putStreet_25 (fun σ_5 eσ_5 H locs hG => ?_)
    have hf := hf.2 σ_5 eσ_5
    refine lv_goto (tgt := 39) hx hb d_8_putStreet_26 (by decide) ?_
    exact w_8_putStreet_39 S hR hk_r0 hk_r2    hG (lv_sub hl [0, 1, 2] rfl) hf
theorem c_8_putStreet (l : Launch) {D : va_G} {ac : Nat → ClassId} {ad st : Nat → Nat} {A : Nat → Prop} {σ : St} {r0 : Nat} {x1 : Int32} {r2 : Nat} {Q : St → Prop} (hk_r0 : kd r0 = 8) (hk_r2 : kd r2 = 6) (hf : m_8_putStreet r0 x1 r2 Q σ) : Met l y_8_putStreet (Cond.code y_8_putStreet prog_10_method_8_code 3 none :: wA) { frames := 3, cells := 0, slots := 0, locals := 64 } (va_Pc [.ref (ad r0), .int x1, .ref (ad r2)] (GSt A D ac ad st σ)) (va_Qv Q (GSt A D ac ad st) A) 0 0 A :=
  mkV l (by decide +kernel) rfl [.ref (ad r0), .int x1, .ref (ad r2)] (Nat.le_of_ble_eq_true rfl) (fun p e s m args below meth c ls QW S hR hG hl => w_8_putStreet_0 S hR hk_r0 hk_r2 hG hl hf)
set_option maxHeartbeats 4000000 in
set_option maxRecDepth 100000 in
theorem w_9_load_0 {r0 : Nat} {x1 : Int32} {Q : Int32 → St → Prop} {σ : St} {H : Heap} {locs : List Loc} {ls : Array Slot} (S : SC A D ac st p m c prog_1_method_4_code 2 s args "SweeperRounds" R cells slots 4 89) (hR : RtI A D ac ad p l e R s m args below meth c prog_1_method_4_code cells slots QW Q) (hk_r0 : kd r0 = 9) (hG : DG A D ac ad s σ H locs) (hl : lv_has ls 2 [(0, .ref (ad r0)), (1, .int x1)]) (hf : m_9_load r0 x1 Q σ) : W p l e R s m args below meth c H locs cells slots QW (F0 m 0 ls []) := by
  have hx := S.1.1
  have hb := S.1.2.1
  unfold m_9_load at hf
  refine lv_iload_n hx hb d_9_load_0 rfl (lv_at hl 1 rfl) ?_
  refine lv_if_lt (tgt := 15) hx hb d_9_load_1 (by decide) (fun hc => ?_) (fun hc => ?_)
  · have hf := hf.1 hc
    refine lv_iconst (v := (-1 : Int32)) hx hb d_9_load_15 (by decide) ?_
    exact hR _ _ _ _ _ _ hG hf d_9_load_16
  · have hf := hf.2 hc
    refine lv_iload_n hx hb d_9_load_4 rfl (lv_at hl 1 rfl) ?_
    refine lv_aload_n hx hb d_9_load_5 rfl (lv_at hl 0 rfl) ?_
    refine gf_9_26 S hG hk_r0 d_9_load_6 ?_
    refine gf_9_70 S hG (kr_9_2 hk_r0) d_9_load_9 ?_
    refine lv_icmp_le (tgt := 17) hx hb d_9_load_12 (by decide) (fun hc => ?_) (fun hc => ?_)
    · have hf := hf.1 hc
      refine lv_iload_n hx hb d_9_load_17 rfl (lv_at hl 1 rfl) ?_
      refine lv_bipush (v := (6 : Int32)) hx hb d_9_load_18 (by decide) ?_
      refine lv_icmp_lt (tgt := 26) hx hb d_9_load_20 (by decide) (fun hc => ?_) (fun hc => ?_)
      · have hf := hf.1 hc
        refine lv_aload_n hx hb d_9_load_26 rfl (lv_at hl 0 rfl) ?_
        refine lv_aload_n hx hb d_9_load_27 rfl (lv_at hl 0 rfl) ?_
        refine gf_9_19 S hG hk_r0 d_9_load_28 ?_
        refine lv_aload_n hx hb d_9_load_31 rfl (lv_at hl 0 rfl) ?_
        refine gf_9_10 S hG hk_r0 d_9_load_32 ?_
        refine iv_9_73 S hl.1 hG (kr_9_1 hk_r0) (c_3_read l (kr_9_1 hk_r0) (kr_9_0 hk_r0) hf) ⟨Nat.le_of_ble_eq_true rfl, Nat.le_of_ble_eq_true rfl⟩ (Nat.le_of_ble_eq_true rfl) d_9_load_35 (fun v_2 σ_1 hf H locs hG => ?_)
        refine pf_9_59 S hG hk_r0 d_9_load_38 (fun σ_3 eσ_3 H locs hG => ?_)
        have hf := hf σ_3 eσ_3
        refine lv_aload_n hx hb d_9_load_41 rfl (lv_at hl 0 rfl) ?_
        refine gf_9_59 S hG hk_r0 d_9_load_42 ?_
        refine lv_if_eq (tgt := 59) hx hb d_9_load_45 (by decide) (fun hc => ?_) (fun hc => ?_)
        · have hf := hf.1 hc
          refine lv_aload_n hx hb d_9_load_59 rfl (lv_at hl 0 rfl) ?_
          refine gf_9_42 S hG hk_r0 d_9_load_60 ?_
          refine lv_aload_n hx hb d_9_load_63 rfl (lv_at hl 0 rfl) ?_
          refine gf_9_26 S hG hk_r0 d_9_load_64 ?_
          refine iv_9_80 S hl.1 hG (kr_9_4 hk_r0) (c_0_remember l (kr_9_4 hk_r0) (kr_9_2 hk_r0) hf) ⟨Nat.le_of_ble_eq_true rfl, Nat.le_of_ble_eq_true rfl⟩ (Nat.le_of_ble_eq_true rfl) d_9_load_67 (fun σ_4 hf H locs hG => ?_)
          refine lv_aload_n hx hb d_9_load_70 rfl (lv_at hl 0 rfl) ?_
          refine gf_9_26 S hG hk_r0 d_9_load_71 ?_
          refine lv_iload_n hx hb d_9_load_74 rfl (lv_at hl 1 rfl) ?_
          refine lv_aload_n hx hb d_9_load_75 rfl (lv_at hl 0 rfl) ?_
          refine gf_9_19 S hG hk_r0 d_9_load_76 ?_
          refine gf_9_83 S hG (kr_9_1 hk_r0) d_9_load_79 ?_
          refine iv_9_87 S hl.1 hG (kr_9_2 hk_r0) (c_8_putStreet l (kr_9_2 hk_r0) (kr_3_0 (kr_9_1 hk_r0)) hf) ⟨Nat.le_of_ble_eq_true rfl, Nat.le_of_ble_eq_true rfl⟩ (Nat.le_of_ble_eq_true rfl) d_9_load_82 (fun σ_6 hf H locs hG => ?_)
          refine lv_aload_n hx hb d_9_load_85 rfl (lv_at hl 0 rfl) ?_
          refine gf_9_19 S hG hk_r0 d_9_load_86 ?_
          refine gf_9_83 S hG (kr_9_1 hk_r0) d_9_load_89 ?_
          refine gf_9_91 S hG (kr_3_0 (kr_9_1 hk_r0)) d_9_load_92 ?_
          exact hR _ _ _ _ _ _ hG hf d_9_load_95
        · have hf := hf.2 hc
          refine lv_bipush (v := (-10 : Int32)) hx hb d_9_load_48 (by decide) ?_
          refine lv_aload_n hx hb d_9_load_50 rfl (lv_at hl 0 rfl) ?_
          refine gf_9_19 S hG hk_r0 d_9_load_51 ?_
          refine gf_9_77 S hG (kr_9_1 hk_r0) d_9_load_54 ?_
          refine lv_isub hx hb d_9_load_57 ?_
          exact hR _ _ _ _ _ _ hG hf d_9_load_58
      · have hf := hf.2 hc
        refine lv_bipush (v := (-3 : Int32)) hx hb d_9_load_23 (by decide) ?_
        exact hR _ _ _ _ _ _ hG hf d_9_load_25
    · have hf := hf.2 hc
      refine lv_iconst (v := (-1 : Int32)) hx hb d_9_load_15 (by decide) ?_
      exact hR _ _ _ _ _ _ hG hf d_9_load_16
theorem c_9_load (l : Launch) {D : va_G} {ac : Nat → ClassId} {ad st : Nat → Nat} {A : Nat → Prop} {σ : St} {r0 : Nat} {x1 : Int32} {Q : Int32 → St → Prop} (hk_r0 : kd r0 = 9) (hf : m_9_load r0 x1 Q σ) : Met l y_9_load (Cond.code y_9_load prog_1_method_4_code 2 (some .int) :: wA) { frames := 4, cells := 0, slots := 0, locals := 89 } (va_Pc [.ref (ad r0), .int x1] (GSt A D ac ad st σ)) (va_Qi Q (GSt A D ac ad st) A) 0 0 A :=
  mkI l (by decide +kernel) rfl [.ref (ad r0), .int x1] (Nat.le_of_ble_eq_true rfl) (fun p e s m args below meth c ls QW S hR hG hl => w_9_load_0 S hR hk_r0 hG hl hf)
end MB
