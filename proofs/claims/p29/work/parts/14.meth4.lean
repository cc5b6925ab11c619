theorem d_L_cell_0 : decode method_2_code 0 = .ok (.iload_n 1, 1) := by decide +kernel
theorem d_L_cell_1 : decode method_2_code 1 = .ok (.aload_n 0, 1) := by decide +kernel
theorem d_L_cell_2 : decode method_2_code 2 = .ok (.arraylength, 1) := by decide +kernel
theorem d_L_cell_3 : decode method_2_code 3 = .ok (.if_icmp .ge 9, 3) := by decide +kernel
theorem d_L_cell_6 : decode method_2_code 6 = .ok (.aload_n 0, 1) := by decide +kernel
theorem d_L_cell_7 : decode method_2_code 7 = .ok (.iload_n 1, 1) := by decide +kernel
theorem d_L_cell_8 : decode method_2_code 8 = .ok (.iaload, 1) := by decide +kernel
theorem d_L_cell_9 : decode method_2_code 9 = .ok (.goto 10, 3) := by decide +kernel
theorem d_L_cell_12 : decode method_2_code 12 = .ok (.ldc 7, 2) := by decide +kernel
theorem d_L_cell_14 : decode method_2_code 14 = .ok (.iload_n 1, 1) := by decide +kernel
theorem d_L_cell_15 : decode method_2_code 15 = .ok (.imul, 1) := by decide +kernel
theorem d_L_cell_16 : decode method_2_code 16 = .ok (.ldc 8, 2) := by decide +kernel
theorem d_L_cell_18 : decode method_2_code 18 = .ok (.iadd, 1) := by decide +kernel
theorem d_L_cell_19 : decode method_2_code 19 = .ok (.ireturn, 1) := by decide +kernel
def m_L_cell (x1 : Int32) (L : Nat) (xs : Nat → Int32) (Q : Int32 → St → Prop) (σ : St) : Prop :=
  (((Int32.ofNat L) ≤ x1 → Q (((86028157 : Int32) * x1) + (32452867 : Int32)) σ) ∧ (¬ (Int32.ofNat L) ≤ x1 → vp_in x1 L ∧ Q (xs (x1).toNatClampNeg) σ))
theorem d_L_low_0 : decode method_3_code 0 = .ok (.iload_n 0, 1) := by decide +kernel
theorem d_L_low_1 : decode method_3_code 1 = .ok (.ldc 9, 2) := by decide +kernel
theorem d_L_low_3 : decode method_3_code 3 = .ok (.iand, 1) := by decide +kernel
theorem d_L_low_4 : decode method_3_code 4 = .ok (.iload_n 1, 1) := by decide +kernel
theorem d_L_low_5 : decode method_3_code 5 = .ok (.irem, 1) := by decide +kernel
theorem d_L_low_6 : decode method_3_code 6 = .ok (.ireturn, 1) := by decide +kernel
def m_L_low (x0 : Int32) (x1 : Int32) (Q : Int32 → St → Prop) (σ : St) : Prop :=
  ¬ x1 = 0 ∧ Q ((x0 &&& (2147483647 : Int32)) - (x0 &&& (2147483647 : Int32)) / x1 * x1) σ
def m_L_town_368 (r0 : Nat) (x6 : Int32) (L : Nat) (xs : Nat → Int32) (Q : Int32 → St → Prop) (t0 : Int32) (t1 : Int32) (t2 : Int32) (t3 : Int32) (t4 : Nat) (σ : St) : Prop :=
  m_L_low t1 t0 (fun (v_2 : Int32) (σ_1 : St) => m_9_set t4 t3 (t2 + v_2) (fun (v_4 : Int32) (σ_3 : St) => ((¬ v_4 = (2400 : Int32) → Q (0 : Int32) σ_3) ∧ (v_4 = (2400 : Int32) → m_L_low (x6 >>> ((12 : Int32) &&& 31)) (1001 : Int32) (fun (v_6 : Int32) (σ_5 : St) => m_9_set r0 (4 : Int32) v_6 (fun (v_8 : Int32) (σ_7 : St) => ((¬ v_8 = (200 : Int32) → Q (0 : Int32) σ_7) ∧ (v_8 = (200 : Int32) → m_L_low (x6 >>> ((16 : Int32) &&& 31)) (3 : Int32) (fun (v_10 : Int32) (σ_9 : St) => m_9_set r0 (2 : Int32) v_10 (fun (v_12 : Int32) (σ_11 : St) => ((¬ v_12 = (1 : Int32) → Q (0 : Int32) σ_11) ∧ (v_12 = (1 : Int32) → Q (1 : Int32) σ_11))) σ_9) σ_7))) σ_5) σ_3))) σ_1) σ
def m_L_town_325 (r0 : Nat) (x6 : Int32) (L : Nat) (xs : Nat → Int32) (Q : Int32 → St → Prop) (t0 : Int32) (t1 : Int32) (t2 : Int32) (t3 : Int32) (t4 : Nat) (σ : St) : Prop :=
  m_L_low t1 t0 (fun (v_2 : Int32) (σ_1 : St) => m_9_set t4 t3 (t2 + v_2) (fun (v_4 : Int32) (σ_3 : St) => ((¬ v_4 = (300 : Int32) → Q (0 : Int32) σ_3) ∧ (v_4 = (300 : Int32) → m_L_low (x6 >>> ((21 : Int32) &&& 31)) (2 : Int32) (fun (v_6 : Int32) (σ_5 : St) => ((¬ v_6 = 0 → m_L_town_368 r0 x6 L xs Q  (3000 : Int32) (x6 >>> ((8 : Int32) &&& 31)) (100 : Int32) (3 : Int32) r0 σ_5) ∧ (v_6 = 0 → m_L_town_368 r0 x6 L xs Q  (900 : Int32) (x6 >>> ((8 : Int32) &&& 31)) (100 : Int32) (3 : Int32) r0 σ_5))) σ_3))) σ_1) σ
def m_L_town_223 (r0 : Nat) (x2 : Int32) (x3 : Int32) (x4 : Int32) (x5 : Int32) (L : Nat) (xs : Nat → Int32) (Q : Int32 → St → Prop) (B223 : Int32 → St → Prop) (x6 : Int32) (σ : St) : Prop :=
  ((x4 ≤ x6 → m_L_cell (x2 + (10 : Int32)) L xs (fun (v_2 : Int32) (σ_1 : St) => m_L_low v_2 (4 : Int32) (fun (v_4 : Int32) (σ_3 : St) => m_9_set r0 (0 : Int32) ((1 : Int32) + v_4) (fun (v_6 : Int32) (σ_5 : St) => ((¬ v_6 = (2 : Int32) → Q (0 : Int32) σ_5) ∧ (v_6 = (2 : Int32) → m_L_low (v_2 >>> ((20 : Int32) &&& 31)) (2 : Int32) (fun (v_8 : Int32) (σ_7 : St) => ((¬ v_8 = 0 → m_L_town_325 r0 v_2 L xs Q  (400 : Int32) (v_2 >>> ((2 : Int32) &&& 31)) (20 : Int32) (1 : Int32) r0 σ_7) ∧ (v_8 = 0 → m_L_town_325 r0 v_2 L xs Q  (60 : Int32) (v_2 >>> ((2 : Int32) &&& 31)) (20 : Int32) (1 : Int32) r0 σ_7))) σ_5))) σ_3) σ_1) σ) ∧ (¬ x4 ≤ x6 → m_L_low (x5 >>> (((3 : Int32) * x6) &&& 31)) x3 (fun (v_10 : Int32) (σ_9 : St) => m_L_low (x5 >>> (((16 : Int32) + x6) &&& 31)) (2 : Int32) (fun (v_12 : Int32) (σ_11 : St) => m_9_addLeg r0 v_10 v_12 (fun (v_14 : Int32) (σ_13 : St) => ((v_14 = x6 → ∀ x6_15 : Int32, x6_15 = x6 + 1 → B223 x6_15 σ_13) ∧ (¬ v_14 = x6 → Q (0 : Int32) σ_13))) σ_11) σ_9) σ))
def m_L_town_138 (r0 : Nat) (x2 : Int32) (x3 : Int32) (x4 : Int32) (x5 : Int32) (x7 : Int32) (x8 : Int32) (x9 : Int32) (B3 : Int32 → St → Prop) (B82 : Int32 → St → Prop) (L : Nat) (xs : Nat → Int32) (Q : Int32 → St → Prop) (t0 : Int32) (t1 : Int32) (σ : St) : Prop :=
  m_L_low t1 t0 (fun (v_2 : Int32) (σ_1 : St) => ¬ x7 = 0 ∧ ¬ x7 = 0 ∧ m_9_lay r0 x5 (x8 / x7) (x8 - x8 / x7 * x7) v_2 (fun (v_4 : Int32) (σ_3 : St) => ((¬ v_4 = 0 → Q (0 : Int32) σ_3) ∧ (v_4 = 0 → m_L_low (x9 >>> ((12 : Int32) &&& 31)) (5 : Int32) (fun (v_6 : Int32) (σ_5 : St) => ((¬ v_6 = 0 → ∀ x8_7 : Int32, x8_7 = x8 + 1 → B82 x8_7 σ_5) ∧ (v_6 = 0 → ¬ x7 = 0 ∧ ¬ x7 = 0 ∧ m_9_park r0 x5 (x8 / x7) (x8 - x8 / x7 * x7) (1 : Int32) (fun (v_9 : Int32) (σ_8 : St) => ((v_9 = 0 → ∀ x8_10 : Int32, x8_10 = x8 + 1 → B82 x8_10 σ_8) ∧ (¬ v_9 = 0 → Q (0 : Int32) σ_8))) σ_5))) σ_3))) σ_1) σ
def m_L_town_82 (r0 : Nat) (x2 : Int32) (x3 : Int32) (x4 : Int32) (x5 : Int32) (x7 : Int32) (B3 : Int32 → St → Prop) (L : Nat) (xs : Nat → Int32) (Q : Int32 → St → Prop) (B82 : Int32 → St → Prop) (x8 : Int32) (σ : St) : Prop :=
  ((((2 : Int32) * x7) ≤ x8 → ∀ x5_1 : Int32, x5_1 = x5 + 1 → B3 x5_1 σ) ∧ (¬ ((2 : Int32) * x7) ≤ x8 → m_L_cell ((x2 + (3 : Int32)) + (x8 - x8 / (6 : Int32) * (6 : Int32))) L xs (fun (v_3 : Int32) (σ_2 : St) => ∀ x9_4 : Int32, x9_4 = (v_3 >>> ((((3 : Int32) * x5) + (x8 / (6 : Int32))) &&& 31)) → m_L_low (x9_4 >>> ((9 : Int32) &&& 31)) (3 : Int32) (fun (v_6 : Int32) (σ_5 : St) => ((¬ v_6 = 0 → m_L_town_138 r0 x2 x3 x4 x5 x7 x8 x9_4 B3 B82 L xs Q  (40 : Int32) x9_4 σ_5) ∧ (v_6 = 0 → m_L_town_138 r0 x2 x3 x4 x5 x7 x8 x9_4 B3 B82 L xs Q  (100 : Int32) x9_4 σ_5))) σ_2) σ))
def m_L_town_56 (r0 : Nat) (x2 : Int32) (x3 : Int32) (x4 : Int32) (x5 : Int32) (x6 : Int32) (x7 : Int32) (B3 : Int32 → St → Prop) (L : Nat) (xs : Nat → Int32) (Q : Int32 → St → Prop) (t0 : Int32) (t1 : Int32) (t2 : Int32) (t3 : Nat) (σ : St) : Prop :=
  m_L_low t1 t0 (fun (v_2 : Int32) (σ_1 : St) => m_L_low (x6 >>> ((11 : Int32) &&& 31)) (10 : Int32) (fun (v_4 : Int32) (σ_3 : St) => m_9_addStreet t3 t2 v_2 v_4 (fun (v_6 : Int32) (σ_5 : St) => ((v_6 = x5 → itN (m_L_town_82 r0 x2 x3 x4 x5 x7 B3 L xs Q) (fun _ _ => False) FU (0 : Int32) σ_5) ∧ (¬ v_6 = x5 → Q (0 : Int32) σ_5))) σ_3) σ_1) σ
def m_L_town_3 (r0 : Nat) (x2 : Int32) (x3 : Int32) (x4 : Int32) (L : Nat) (xs : Nat → Int32) (Q : Int32 → St → Prop) (B3 : Int32 → St → Prop) (x5 : Int32) (σ : St) : Prop :=
  ((x3 ≤ x5 → m_L_cell (x2 + (9 : Int32)) L xs (fun (v_2 : Int32) (σ_1 : St) => itN (m_L_town_223 r0 x2 x3 x4 v_2 L xs Q) (fun _ _ => False) FU (0 : Int32) σ_1) σ) ∧ (¬ x3 ≤ x5 → m_L_cell (x2 + x5) L xs (fun (v_4 : Int32) (σ_3 : St) => m_L_low v_4 (6 : Int32) (fun (v_6 : Int32) (σ_5 : St) => ∀ x7_7 : Int32, x7_7 = ((1 : Int32) + v_6) → m_L_low (v_4 >>> ((9 : Int32) &&& 31)) (3 : Int32) (fun (v_9 : Int32) (σ_8 : St) => ((¬ v_9 = 0 → m_L_town_56 r0 x2 x3 x4 x5 v_4 x7_7 B3 L xs Q  (10 : Int32) (v_4 >>> ((3 : Int32) &&& 31)) x7_7 r0 σ_8) ∧ (v_9 = 0 → m_L_town_56 r0 x2 x3 x4 x5 v_4 x7_7 B3 L xs Q  (61 : Int32) (v_4 >>> ((3 : Int32) &&& 31)) x7_7 r0 σ_8))) σ_5) σ_3) σ))
def m_L_town (r0 : Nat) (x2 : Int32) (x3 : Int32) (x4 : Int32) (L : Nat) (xs : Nat → Int32) (Q : Int32 → St → Prop) (σ : St) : Prop :=
  itN (m_L_town_3 r0 x2 x3 x4 L xs Q) (fun _ _ => False) FU (0 : Int32) σ
theorem d_L_balanced_0 : decode method_5_code 0 = .ok (.aload_n 0, 1) := by decide +kernel
theorem d_L_balanced_1 : decode method_5_code 1 = .ok (.bipush 6, 2) := by decide +kernel
theorem d_L_balanced_3 : decode method_5_code 3 = .ok (.invokevirtual 40, 3) := by decide +kernel
theorem d_L_balanced_6 : decode method_5_code 6 = .ok (.aload_n 0, 1) := by decide +kernel
theorem d_L_balanced_7 : decode method_5_code 7 = .ok (.iconst 4, 1) := by decide +kernel
theorem d_L_balanced_8 : decode method_5_code 8 = .ok (.invokevirtual 44, 3) := by decide +kernel
theorem d_L_balanced_11 : decode method_5_code 11 = .ok (.iadd, 1) := by decide +kernel
theorem d_L_balanced_12 : decode method_5_code 12 = .ok (.aload_n 0, 1) := by decide +kernel
theorem d_L_balanced_13 : decode method_5_code 13 = .ok (.iconst 0, 1) := by decide +kernel
theorem d_L_balanced_14 : decode method_5_code 14 = .ok (.invokevirtual 40, 3) := by decide +kernel
theorem d_L_balanced_17 : decode method_5_code 17 = .ok (.aload_n 0, 1) := by decide +kernel
theorem d_L_balanced_18 : decode method_5_code 18 = .ok (.iconst 1, 1) := by decide +kernel
theorem d_L_balanced_19 : decode method_5_code 19 = .ok (.invokevirtual 40, 3) := by decide +kernel
theorem d_L_balanced_22 : decode method_5_code 22 = .ok (.iadd, 1) := by decide +kernel
theorem d_L_balanced_23 : decode method_5_code 23 = .ok (.aload_n 0, 1) := by decide +kernel
theorem d_L_balanced_24 : decode method_5_code 24 = .ok (.iconst 2, 1) := by decide +kernel
theorem d_L_balanced_25 : decode method_5_code 25 = .ok (.invokevirtual 40, 3) := by decide +kernel
theorem d_L_balanced_28 : decode method_5_code 28 = .ok (.isub, 1) := by decide +kernel
theorem d_L_balanced_29 : decode method_5_code 29 = .ok (.aload_n 0, 1) := by decide +kernel
theorem d_L_balanced_30 : decode method_5_code 30 = .ok (.iconst 3, 1) := by decide +kernel
theorem d_L_balanced_31 : decode method_5_code 31 = .ok (.invokevirtual 40, 3) := by decide +kernel
theorem d_L_balanced_34 : decode method_5_code 34 = .ok (.isub, 1) := by decide +kernel
theorem d_L_balanced_35 : decode method_5_code 35 = .ok (.aload_n 0, 1) := by decide +kernel
theorem d_L_balanced_36 : decode method_5_code 36 = .ok (.iconst 4, 1) := by decide +kernel
theorem d_L_balanced_37 : decode method_5_code 37 = .ok (.invokevirtual 40, 3) := by decide +kernel
theorem d_L_balanced_40 : decode method_5_code 40 = .ok (.isub, 1) := by decide +kernel
theorem d_L_balanced_41 : decode method_5_code 41 = .ok (.aload_n 0, 1) := by decide +kernel
theorem d_L_balanced_42 : decode method_5_code 42 = .ok (.iconst 5, 1) := by decide +kernel
theorem d_L_balanced_43 : decode method_5_code 43 = .ok (.invokevirtual 40, 3) := by decide +kernel
theorem d_L_balanced_46 : decode method_5_code 46 = .ok (.isub, 1) := by decide +kernel
theorem d_L_balanced_47 : decode method_5_code 47 = .ok (.if_icmp .ne 7, 3) := by decide +kernel
theorem d_L_balanced_50 : decode method_5_code 50 = .ok (.iconst 1, 1) := by decide +kernel
theorem d_L_balanced_51 : decode method_5_code 51 = .ok (.goto 4, 3) := by decide +kernel
theorem d_L_balanced_54 : decode method_5_code 54 = .ok (.iconst 0, 1) := by decide +kernel
theorem d_L_balanced_55 : decode method_5_code 55 = .ok (.ireturn, 1) := by decide +kernel
def m_L_balanced (r0 : Nat) (Q : Int32 → St → Prop) (σ : St) : Prop :=
  m_9_account r0 (6 : Int32) (fun (v_2 : Int32) (σ_1 : St) => m_9_count r0 (4 : Int32) (fun (v_4 : Int32) (σ_3 : St) => m_9_account r0 (0 : Int32) (fun (v_6 : Int32) (σ_5 : St) => m_9_account r0 (1 : Int32) (fun (v_8 : Int32) (σ_7 : St) => m_9_account r0 (2 : Int32) (fun (v_10 : Int32) (σ_9 : St) => m_9_account r0 (3 : Int32) (fun (v_12 : Int32) (σ_11 : St) => m_9_account r0 (4 : Int32) (fun (v_14 : Int32) (σ_13 : St) => m_9_account r0 (5 : Int32) (fun (v_16 : Int32) (σ_15 : St) => ((¬ (v_2 + v_4) = (((((v_6 + v_8) - v_10) - v_12) - v_14) - v_16) → Q (0 : Int32) σ_15) ∧ ((v_2 + v_4) = (((((v_6 + v_8) - v_10) - v_12) - v_14) - v_16) → Q (1 : Int32) σ_15))) σ_13) σ_11) σ_9) σ_7) σ_5) σ_3) σ_1) σ
section MB
variable {p : Program} {l : Launch} {e : Env} {R : Room} {s : State} {m : MethodId} {args : Array Value} {below : List Frame} {meth : Method} {c : Code} {cells slots : Nat} {QW : State → Prop}
variable {D : va_G} {ac : Nat → ClassId} {ad : Nat → Nat} {st : SS} {A : Nat → Prop}
set_option maxHeartbeats 4000000 in
set_option maxRecDepth 100000 in
theorem w_L_cell_0 {x1 : Int32} {Q : Int32 → St → Prop} {σ : St} {H : Heap} {locs : List Loc} {ls : Array Slot} (S : SC A D ac st p m c method_2_code 2 s args "SweeperRoundsLaw" R cells slots 0 0) (hR : RtI A D ac ad p l e R s m args below meth c method_2_code cells slots QW Q) (hG : DG A D ac ad s σ H locs) (hl : lv_has ls 2 [(0, .ref (st.1 3)), (1, .int x1)]) (hf : m_L_cell x1 st.2.1 st.2.2 Q σ) : W p l e R s m args below meth c H locs cells slots QW (F0 m 0 ls []) := by
  have hx := S.1.1
  have hb := S.1.2.1
  unfold m_L_cell at hf
  refine lv_iload_n hx hb d_L_cell_0 rfl (lv_at hl 1 rfl) ?_
  refine lv_aload_n hx hb d_L_cell_1 rfl (lv_at hl 0 rfl) ?_
  refine msl S hG d_L_cell_2 ?_
  refine lv_icmp_ge (tgt := 12) hx hb d_L_cell_3 (by decide) (fun hc => ?_) (fun hc => ?_)
  · have hf := hf.1 hc
    refine lv_ldc (v := 86028157) hx hb S.1.2.2.2.1 (S.1.2.2.2.2 _ wm_472) d_L_cell_12 ?_
    refine lv_iload_n hx hb d_L_cell_14 rfl (lv_at hl 1 rfl) ?_
    refine lv_imul hx hb d_L_cell_15 ?_
    refine lv_ldc (v := 32452867) hx hb S.1.2.2.2.1 (S.1.2.2.2.2 _ wm_473) d_L_cell_16 ?_
    refine lv_iadd hx hb d_L_cell_18 ?_
    exact hR _ _ _ _ _ _ hG hf d_L_cell_19
  · have hf := hf.2 hc
    refine lv_aload_n hx hb d_L_cell_6 rfl (lv_at hl 0 rfl) ?_
    refine lv_iload_n hx hb d_L_cell_7 rfl (lv_at hl 1 rfl) ?_
    refine mss S hG hf.1 d_L_cell_8 ?_
    have hf := hf.2
    refine lv_goto (tgt := 19) hx hb d_L_cell_9 (by decide) ?_
    exact hR _ _ _ _ _ _ hG hf d_L_cell_19
theorem c_L_cell (l : Launch) {D : va_G} {ac : Nat → ClassId} {ad : Nat → Nat} {st : SS} {A : Nat → Prop} {σ : St} {x1 : Int32} {Q : Int32 → St → Prop} (hf : m_L_cell x1 st.2.1 st.2.2 Q σ) : Met l y_L_cell (Cond.code y_L_cell method_2_code 2 (some .int) :: wA) { frames := 0, cells := 0, slots := 0, locals := 0 } (va_Pc [.ref (st.1 3), .int x1] (GSt A D ac ad st σ)) (va_Qi Q (GSt A D ac ad st) A) 0 0 A :=
  mkI l (by decide +kernel) rfl [.ref (st.1 3), .int x1] (Nat.le_of_ble_eq_true rfl) (fun p e s m args below meth c ls QW S hR hG hl => w_L_cell_0 S hR hG hl hf)
set_option maxHeartbeats 4000000 in
set_option maxRecDepth 100000 in
theorem w_L_low_0 {x0 : Int32} {x1 : Int32} {Q : Int32 → St → Prop} {σ : St} {H : Heap} {locs : List Loc} {ls : Array Slot} (S : SC A D ac st p m c method_3_code 2 s args "SweeperRoundsLaw" R cells slots 0 0) (hR : RtI A D ac ad p l e R s m args below meth c method_3_code cells slots QW Q) (hG : DG A D ac ad s σ H locs) (hl : lv_has ls 2 [(0, .int x0), (1, .int x1)]) (hf : m_L_low x0 x1 Q σ) : W p l e R s m args below meth c H locs cells slots QW (F0 m 0 ls []) := by
  have hx := S.1.1
  have hb := S.1.2.1
  unfold m_L_low at hf
  refine lv_iload_n hx hb d_L_low_0 rfl (lv_at hl 0 rfl) ?_
  refine lv_ldc (v := 2147483647) hx hb S.1.2.2.2.1 (S.1.2.2.2.2 _ wm_477) d_L_low_1 ?_
  refine lv_iand hx hb d_L_low_3 ?_
  refine lv_iload_n hx hb d_L_low_4 rfl (lv_at hl 1 rfl) ?_
  refine lv_irem hx hb d_L_low_5 hf.1 ?_
  have hf := hf.2
  exact hR _ _ _ _ _ _ hG hf d_L_low_6
theorem c_L_low (l : Launch) {D : va_G} {ac : Nat → ClassId} {ad : Nat → Nat} {st : SS} {A : Nat → Prop} {σ : St} {x0 : Int32} {x1 : Int32} {Q : Int32 → St → Prop} (hf : m_L_low x0 x1 Q σ) : Met l y_L_low (Cond.code y_L_low method_3_code 2 (some .int) :: wA) { frames := 0, cells := 0, slots := 0, locals := 0 } (va_Pc [.int x0, .int x1] (GSt A D ac ad st σ)) (va_Qi Q (GSt A D ac ad st) A) 0 0 A :=
  mkI l (by decide +kernel) rfl [.int x0, .int x1] (Nat.le_of_ble_eq_true rfl) (fun p e s m args below meth c ls QW S hR hG hl => w_L_low_0 S hR hG hl hf)
set_option maxHeartbeats 4000000 in
set_option maxRecDepth 100000 in
theorem w_L_town_368 {r0 : Nat} {x6 : Int32} {Q : Int32 → St → Prop} {t0 : Int32} {t1 : Int32} {t2 : Int32} {t3 : Int32} {t4 : Nat} {σ : St} {H : Heap} {locs : List Loc} {ls : Array Slot} (S : SC A D ac st p m c method_4_code 11 s args "SweeperRoundsLaw" R cells slots 4 92) (hR : RtZ A D ac ad p l e R s m args below meth c method_4_code cells slots QW Q) (hk_r0 : kd r0 = 9) (hk_t4 : kd t4 = 9) (hG : DG A D ac ad s σ H locs) (hl : lv_has ls 11 [(0, .ref (ad r0)), (6, .int x6)]) (hf : m_L_town_368 r0 x6 st.2.1 st.2.2 Q t0 t1 t2 t3 t4 σ) : W p l e R s m args below meth c H locs cells slots QW (F0 m 368 ls [.int t0, .int t1, .int t2, .int t3, .ref (ad t4)]) := by
  have hx := S.1.1
  have hb := S.1.2.1
  unfold m_L_town_368 at hf
  refine iv_L_16 S hl.1 hG  (c_L_low l  hf) ⟨Nat.le_of_ble_eq_true rfl, Nat.le_of_ble_eq_true rfl⟩ (Nat.le_of_ble_eq_true rfl) d_L_town_368 (fun v_2 σ_1 hf H locs hG => ?_)
  refine lv_iadd hx hb d_L_town_371 ?_
  refine iv_L_37 S hl.1 hG hk_t4 (c_9_set l hk_t4 hf) ⟨Nat.le_of_ble_eq_true rfl, Nat.le_of_ble_eq_true rfl⟩ (Nat.le_of_ble_eq_true rfl) d_L_town_372 (fun v_4 σ_3 hf H locs hG => ?_)
  refine lv_sipush (v := (2400 : Int32)) hx hb d_L_town_375 (by decide) ?_
  refine lv_icmp_ne (tgt := 425) hx hb d_L_town_378 (by decide) (fun hc => ?_) (fun hc => ?_)
  · have hf := hf.1 hc
    refine lv_iconst (v := (0 : Int32)) hx hb d_L_town_425 (by decide) ?_
    exact hR _ _ _ _ _ _ hG (by unfold isB; decide) hf d_L_town_426
  · have hf := hf.2 hc
    refine lv_aload_n hx hb d_L_town_381 rfl (lv_at hl 0 rfl) ?_
    refine lv_iconst (v := (4 : Int32)) hx hb d_L_town_382 (by decide) ?_
    refine lv_iload hx hb d_L_town_383 (lv_at hl 1 rfl) ?_
    refine lv_bipush (v := (12 : Int32)) hx hb d_L_town_385 (by decide) ?_
    refine lv_ishr hx hb d_L_town_387 ?_
    refine lv_sipush (v := (1001 : Int32)) hx hb d_L_town_388 (by decide) ?_
    refine iv_L_16 S hl.1 hG  (c_L_low l  hf) ⟨Nat.le_of_ble_eq_true rfl, Nat.le_of_ble_eq_true rfl⟩ (Nat.le_of_ble_eq_true rfl) d_L_town_391 (fun v_6 σ_5 hf H locs hG => ?_)
    refine iv_L_37 S hl.1 hG hk_r0 (c_9_set l hk_r0 hf) ⟨Nat.le_of_ble_eq_true rfl, Nat.le_of_ble_eq_true rfl⟩ (Nat.le_of_ble_eq_true rfl) d_L_town_394 (fun v_8 σ_7 hf H locs hG => ?_)
    refine lv_sipush (v := (200 : Int32)) hx hb d_L_town_397 (by decide) ?_
    refine lv_icmp_ne (tgt := 425) hx hb d_L_town_400 (by decide) (fun hc => ?_) (fun hc => ?_)
    · have hf := hf.1 hc
      refine lv_iconst (v := (0 : Int32)) hx hb d_L_town_425 (by decide) ?_
      exact hR _ _ _ _ _ _ hG (by unfold isB; decide) hf d_L_town_426
    · have hf := hf.2 hc
      refine lv_aload_n hx hb d_L_town_403 rfl (lv_at hl 0 rfl) ?_
      refine lv_iconst (v := (2 : Int32)) hx hb d_L_town_404 (by decide) ?_
      refine lv_iload hx hb d_L_town_405 (lv_at hl 1 rfl) ?_
      refine lv_bipush (v := (16 : Int32)) hx hb d_L_town_407 (by decide) ?_
      refine lv_ishr hx hb d_L_town_409 ?_
      refine lv_iconst (v := (3 : Int32)) hx hb d_L_town_410 (by decide) ?_
      refine iv_L_16 S hl.1 hG  (c_L_low l  hf) ⟨Nat.le_of_ble_eq_true rfl, Nat.le_of_ble_eq_true rfl⟩ (Nat.le_of_ble_eq_true rfl) d_L_town_411 (fun v_10 σ_9 hf H locs hG => ?_)
      refine iv_L_37 S hl.1 hG hk_r0 (c_9_set l hk_r0 hf) ⟨Nat.le_of_ble_eq_true rfl, Nat.le_of_ble_eq_true rfl⟩ (Nat.le_of_ble_eq_true rfl) d_L_town_414 (fun v_12 σ_11 hf H locs hG => ?_)
      refine lv_iconst (v := (1 : Int32)) hx hb d_L_town_417 (by decide) ?_
      refine lv_icmp_ne (tgt := 425) hx hb d_L_town_418 (by decide) (fun hc => ?_) (fun hc => ?_)
      · have hf := hf.1 hc
        refine lv_iconst (v := (0 : Int32)) hx hb d_L_town_425 (by decide) ?_
        exact hR _ _ _ _ _ _ hG (by unfold isB; decide) hf d_L_town_426
      · have hf := hf.2 hc
        refine lv_iconst (v := (1 : Int32)) hx hb d_L_town_421 (by decide) ?_
        refine lv_goto (tgt := 426) hx hb d_L_town_422 (by decide) ?_
        exact hR _ _ _ _ _ _ hG (by unfold isB; decide) hf d_L_town_426
set_option maxHeartbeats 4000000 in
set_option maxRecDepth 100000 in
theorem w_L_town_325 {r0 : Nat} {x6 : Int32} {Q : Int32 → St → Prop} {t0 : Int32} {t1 : Int32} {t2 : Int32} {t3 : Int32} {t4 : Nat} {σ : St} {H : Heap} {locs : List Loc} {ls : Array Slot} (S : SC A D ac st p m c method_4_code 11 s args "SweeperRoundsLaw" R cells slots 4 92) (hR : RtZ A D ac ad p l e R s m args below meth c method_4_code cells slots QW Q) (hk_r0 : kd r0 = 9) (hk_t4 : kd t4 = 9) (hG : DG A D ac ad s σ H locs) (hl : lv_has ls 11 [(0, .ref (ad r0)), (6, .int x6)]) (hf : m_L_town_325 r0 x6 st.2.1 st.2.2 Q t0 t1 t2 t3 t4 σ) : W p l e R s m args below meth c H locs cells slots QW (F0 m 325 ls [.int t0, .int t1, .int t2, .int t3, .ref (ad t4)]) := by
  have hx := S.1.1
  have hb := S.1.2.1
  unfold m_L_town_325 at hf
  refine iv_L_16 S hl.1 hG  (c_L_low l  hf) ⟨Nat.le_of_ble_eq_true rfl, Nat.le_of_ble_eq_true rfl⟩ (Nat.le_of_ble_eq_true rfl) d_L_town_325 (fun v_2 σ_1 hf H locs hG => ?_)
  refine lv_iadd hx hb d_L_town_328 ?_
  refine iv_L_37 S hl.1 hG hk_t4 (c_9_set l hk_t4 hf) ⟨Nat.le_of_ble_eq_true rfl, Nat.le_of_ble_eq_true rfl⟩ (Nat.le_of_ble_eq_true rfl) d_L_town_329 (fun v_4 σ_3 hf H locs hG => ?_)
  refine lv_sipush (v := (300 : Int32)) hx hb d_L_town_332 (by decide) ?_
  refine lv_icmp_ne (tgt := 425) hx hb d_L_town_335 (by decide) (fun hc => ?_) (fun hc => ?_)
  · have hf := hf.1 hc
    refine lv_iconst (v := (0 : Int32)) hx hb d_L_town_425 (by decide) ?_
    exact hR _ _ _ _ _ _ hG (by unfold isB; decide) hf d_L_town_426
  · have hf := hf.2 hc
    refine lv_aload_n hx hb d_L_town_338 rfl (lv_at hl 0 rfl) ?_
    refine lv_iconst (v := (3 : Int32)) hx hb d_L_town_339 (by decide) ?_
    refine lv_bipush (v := (100 : Int32)) hx hb d_L_town_340 (by decide) ?_
    refine lv_iload hx hb d_L_town_342 (lv_at hl 1 rfl) ?_
    refine lv_bipush (v := (8 : Int32)) hx hb d_L_town_344 (by decide) ?_
    refine lv_ishr hx hb d_L_town_346 ?_
    refine lv_iload hx hb d_L_town_347 (lv_at hl 1 rfl) ?_
    refine lv_bipush (v := (21 : Int32)) hx hb d_L_town_349 (by decide) ?_
    refine lv_ishr hx hb d_L_town_351 ?_
    refine lv_iconst (v := (2 : Int32)) hx hb d_L_town_352 (by decide) ?_
    refine iv_L_16 S hl.1 hG  (c_L_low l  hf) ⟨Nat.le_of_ble_eq_true rfl, Nat.le_of_ble_eq_true rfl⟩ (Nat.le_of_ble_eq_true rfl) d_L_town_353 (fun v_6 σ_5 hf H locs hG => ?_)
    refine lv_if_ne (tgt := 365) hx hb d_L_town_356 (by decide) (fun hc => ?_) (fun hc => ?_)
    · have hf := hf.1 hc
      refine lv_sipush (v := (3000 : Int32)) hx hb d_L_town_365 (by decide) ?_
      exact w_L_town_368 S hR hk_r0  hk_r0  hG (lv_sub hl [0, 1] rfl) hf
    · have hf := hf.2 hc
      refine lv_sipush (v := (900 : Int32)) hx hb d_L_town_359 (by decide) ?_
      refine lv_goto (tgt := 368) hx hb d_L_town_362 (by decide) ?_
      exact w_L_town_368 S hR hk_r0  hk_r0  hG (lv_sub hl [0, 1] rfl) hf
set_option maxHeartbeats 4000000 in
set_option maxRecDepth 100000 in
theorem w_L_town_223 {r0 : Nat} {x2 : Int32} {x3 : Int32} {x4 : Int32} {x5 : Int32} {Q : Int32 → St → Prop} {B223 : Int32 → St → Prop} {x6 : Int32} {σ : St} {H : Heap} {locs : List Loc} {ls : Array Slot} (S : SC A D ac st p m c method_4_code 11 s args "SweeperRoundsLaw" R cells slots 4 92) (hR : RtZ A D ac ad p l e R s m args below meth c method_4_code cells slots QW Q) (hk_r0 : kd r0 = 9) (hB223 : ∀ (x6 : Int32) (σ : St) (H : Heap) (locs : List Loc) (ls : Array Slot), DG A D ac ad s σ H locs → lv_has ls 11 [(0, .ref (ad r0)), (1, .ref (st.1 3)), (2, .int x2), (3, .int x3), (4, .int x4), (5, .int x5), (6, .int x6)] → B223 x6 σ → W p l e R s m args below meth c H locs cells slots QW (F0 m 223 ls [])) (hG : DG A D ac ad s σ H locs) (hl : lv_has ls 11 [(0, .ref (ad r0)), (1, .ref (st.1 3)), (2, .int x2), (3, .int x3), (4, .int x4), (5, .int x5), (6, .int x6)]) (hf : m_L_town_223 r0 x2 x3 x4 x5 st.2.1 st.2.2 Q B223 x6 σ) : W p l e R s m args below meth c H locs cells slots QW (F0 m 223 ls []) := by
  have hx := S.1.1
  have hb := S.1.2.1
  unfold m_L_town_223 at hf
  refine lv_iload hx hb d_L_town_223 (lv_at hl 6 rfl) ?_
  refine lv_iload hx hb d_L_town_225 (lv_at hl 4 rfl) ?_
  refine lv_icmp_ge (tgt := 270) hx hb d_L_town_227 (by decide) (fun hc => ?_) (fun hc => ?_)
  · have hf := hf.1 hc
    refine lv_aload_n hx hb d_L_town_270 rfl (lv_at hl 1 rfl) ?_
    refine lv_iload_n hx hb d_L_town_271 rfl (lv_at hl 2 rfl) ?_
    refine lv_bipush (v := (10 : Int32)) hx hb d_L_town_272 (by decide) ?_
    refine lv_iadd hx hb d_L_town_274 ?_
    refine iv_L_10 S hl.1 hG  (c_L_cell l  hf) ⟨Nat.le_of_ble_eq_true rfl, Nat.le_of_ble_eq_true rfl⟩ (Nat.le_of_ble_eq_true rfl) d_L_town_275 (fun v_2 σ_1 hf H locs hG => ?_)
    refine lv_istore (lv' := [(6, .int v_2), (0, .ref (ad r0)), (1, .ref (st.1 3)), (2, .int x2), (3, .int x3), (4, .int x4), (5, .int x5)]) hx hb d_L_town_278 hl (by decide) rfl (fun ls hl => ?_)
    refine lv_aload_n hx hb d_L_town_280 rfl (lv_at hl 1 rfl) ?_
    refine lv_iconst (v := (0 : Int32)) hx hb d_L_town_281 (by decide) ?_
    refine lv_iconst (v := (1 : Int32)) hx hb d_L_town_282 (by decide) ?_
    refine lv_iload hx hb d_L_town_283 (lv_at hl 0 rfl) ?_
    refine lv_iconst (v := (4 : Int32)) hx hb d_L_town_285 (by decide) ?_
    refine iv_L_16 S hl.1 hG  (c_L_low l  hf) ⟨Nat.le_of_ble_eq_true rfl, Nat.le_of_ble_eq_true rfl⟩ (Nat.le_of_ble_eq_true rfl) d_L_town_286 (fun v_4 σ_3 hf H locs hG => ?_)
    refine lv_iadd hx hb d_L_town_289 ?_
    refine iv_L_37 S hl.1 hG hk_r0 (c_9_set l hk_r0 hf) ⟨Nat.le_of_ble_eq_true rfl, Nat.le_of_ble_eq_true rfl⟩ (Nat.le_of_ble_eq_true rfl) d_L_town_290 (fun v_6 σ_5 hf H locs hG => ?_)
    refine lv_iconst (v := (2 : Int32)) hx hb d_L_town_293 (by decide) ?_
    refine lv_icmp_ne (tgt := 425) hx hb d_L_town_294 (by decide) (fun hc => ?_) (fun hc => ?_)
    · have hf := hf.1 hc
      refine lv_iconst (v := (0 : Int32)) hx hb d_L_town_425 (by decide) ?_
      exact hR _ _ _ _ _ _ hG (by unfold isB; decide) hf d_L_town_426
    · have hf := hf.2 hc
      refine lv_aload_n hx hb d_L_town_297 rfl (lv_at hl 1 rfl) ?_
      refine lv_iconst (v := (1 : Int32)) hx hb d_L_town_298 (by decide) ?_
      refine lv_bipush (v := (20 : Int32)) hx hb d_L_town_299 (by decide) ?_
      refine lv_iload hx hb d_L_town_301 (lv_at hl 0 rfl) ?_
      refine lv_iconst (v := (2 : Int32)) hx hb d_L_town_303 (by decide) ?_
      refine lv_ishr hx hb d_L_town_304 ?_
      refine lv_iload hx hb d_L_town_305 (lv_at hl 0 rfl) ?_
      refine lv_bipush (v := (20 : Int32)) hx hb d_L_town_307 (by decide) ?_
      refine lv_ishr hx hb d_L_town_309 ?_
      refine lv_iconst (v := (2 : Int32)) hx hb d_L_town_310 (by decide) ?_
      refine iv_L_16 S hl.1 hG  (c_L_low l  hf) ⟨Nat.le_of_ble_eq_true rfl, Nat.le_of_ble_eq_true rfl⟩ (Nat.le_of_ble_eq_true rfl) d_L_town_311 (fun v_8 σ_7 hf H locs hG => ?_)
      refine lv_if_ne (tgt := 322) hx hb d_L_town_314 (by decide) (fun hc => ?_) (fun hc => ?_)
      · have hf := hf.1 hc
        refine lv_sipush (v := (400 : Int32)) hx hb d_L_town_322 (by decide) ?_
        exact w_L_town_325 S hR hk_r0  hk_r0  hG (lv_sub hl [1, 0] rfl) hf
      · have hf := hf.2 hc
        refine lv_bipush (v := (60 : Int32)) hx hb d_L_town_317 (by decide) ?_
        refine lv_goto (tgt := 325) hx hb d_L_town_319 (by decide) ?_
        exact w_L_town_325 S hR hk_r0  hk_r0  hG (lv_sub hl [1, 0] rfl) hf
  · have hf := hf.2 hc
    refine lv_aload_n hx hb d_L_town_230 rfl (lv_at hl 0 rfl) ?_
    refine lv_iload hx hb d_L_town_231 (lv_at hl 5 rfl) ?_
    refine lv_iconst (v := (3 : Int32)) hx hb d_L_town_233 (by decide) ?_
    refine lv_iload hx hb d_L_town_234 (lv_at hl 6 rfl) ?_
    refine lv_imul hx hb d_L_town_236 ?_
    refine lv_ishr hx hb d_L_town_237 ?_
    refine lv_iload_n hx hb d_L_town_238 rfl (lv_at hl 3 rfl) ?_
    refine iv_L_16 S hl.1 hG  (c_L_low l  hf) ⟨Nat.le_of_ble_eq_true rfl, Nat.le_of_ble_eq_true rfl⟩ (Nat.le_of_ble_eq_true rfl) d_L_town_239 (fun v_10 σ_9 hf H locs hG => ?_)
    refine lv_iload hx hb d_L_town_242 (lv_at hl 5 rfl) ?_
    refine lv_bipush (v := (16 : Int32)) hx hb d_L_town_244 (by decide) ?_
    refine lv_iload hx hb d_L_town_246 (lv_at hl 6 rfl) ?_
    refine lv_iadd hx hb d_L_town_248 ?_
    refine lv_ishr hx hb d_L_town_249 ?_
    refine lv_iconst (v := (2 : Int32)) hx hb d_L_town_250 (by decide) ?_
    refine iv_L_16 S hl.1 hG  (c_L_low l  hf) ⟨Nat.le_of_ble_eq_true rfl, Nat.le_of_ble_eq_true rfl⟩ (Nat.le_of_ble_eq_true rfl) d_L_town_251 (fun v_12 σ_11 hf H locs hG => ?_)
    refine iv_L_34 S hl.1 hG hk_r0 (c_9_addLeg l hk_r0 hf) ⟨Nat.le_of_ble_eq_true rfl, Nat.le_of_ble_eq_true rfl⟩ (Nat.le_of_ble_eq_true rfl) d_L_town_254 (fun v_14 σ_13 hf H locs hG => ?_)
    refine lv_iload hx hb d_L_town_257 (lv_at hl 6 rfl) ?_
    refine lv_icmp_eq (tgt := 264) hx hb d_L_town_259 (by decide) (fun hc => ?_) (fun hc => ?_)
    · have hf := hf.1 hc
      obtain ⟨x6_15, ex6_15⟩ : ∃ y : Int32, y = x6 + 1 := ⟨_, rfl⟩
      have hf := hf x6_15 ex6_15
      refine lv_iinc (v := x6_15) (lv' := [(6, .int x6_15), (0, .ref (ad r0)), (1, .ref (st.1 3)), (2, .int x2), (3, .int x3), (4, .int x4), (5, .int x5)]) hx hb d_L_town_264 hl (k := 6) rfl (by rw [ex6_15]; rfl) (by decide) rfl (fun ls hl => ?_)
      refine lv_goto (tgt := 223) hx hb d_L_town_267 (by decide) ?_
      exact hB223 _ _ _ _ _   hG (lv_sub hl [1, 2, 3, 4, 5, 6, 0] rfl) hf
    · have hf := hf.2 hc
      refine lv_iconst (v := (0 : Int32)) hx hb d_L_town_262 (by decide) ?_
      exact hR _ _ _ _ _ _ hG (by unfold isB; decide) hf d_L_town_263
set_option maxHeartbeats 4000000 in
set_option maxRecDepth 100000 in
theorem lp_L_town_223 {r0 : Nat} {x2 : Int32} {x3 : Int32} {x4 : Int32} {x5 : Int32} {Q : Int32 → St → Prop} (S : SC A D ac st p m c method_4_code 11 s args "SweeperRoundsLaw" R cells slots 4 92) (hR : RtZ A D ac ad p l e R s m args below meth c method_4_code cells slots QW Q) (hk_r0 : kd r0 = 9) : ∀ (n : Nat) (x6 : Int32) (σ : St) (H : Heap) (locs : List Loc) (ls : Array Slot), DG A D ac ad s σ H locs → lv_has ls 11 [(0, .ref (ad r0)), (1, .ref (st.1 3)), (2, .int x2), (3, .int x3), (4, .int x4), (5, .int x5), (6, .int x6)] → itN (m_L_town_223 r0 x2 x3 x4 x5 st.2.1 st.2.2 Q) (fun _ _ => False) n x6 σ → W p l e R s m args below meth c H locs cells slots QW (F0 m 223 ls []) := by
  intro n
  induction n with
  | zero =>
    intro x6 σ H locs ls  hG hl hf
    exact hf.elim
  | succ n ih =>
    intro x6 σ H locs ls  hG hl hf
    exact w_L_town_223 S hR hk_r0  ih hG hl hf
set_option maxHeartbeats 4000000 in
set_option maxRecDepth 100000 in
theorem w_L_town_138 {r0 : Nat} {x2 : Int32} {x3 : Int32} {x4 : Int32} {x5 : Int32} {x7 : Int32} {x8 : Int32} {x9 : Int32} {B3 : Int32 → St → Prop} {B82 : Int32 → St → Prop} {Q : Int32 → St → Prop} {t0 : Int32} {t1 : Int32} {σ : St} {H : Heap} {locs : List Loc} {ls : Array Slot} (S : SC A D ac st p m c method_4_code 11 s args "SweeperRoundsLaw" R cells slots 4 92) (hR : RtZ A D ac ad p l e R s m args below meth c method_4_code cells slots QW Q) (hk_r0 : kd r0 = 9) (hB3 : ∀ (x5 : Int32) (σ : St) (H : Heap) (locs : List Loc) (ls : Array Slot), DG A D ac ad s σ H locs → lv_has ls 11 [(0, .ref (ad r0)), (1, .ref (st.1 3)), (2, .int x2), (3, .int x3), (4, .int x4), (5, .int x5)] → B3 x5 σ → W p l e R s m args below meth c H locs cells slots QW (F0 m 3 ls [])) (hB82 : ∀ (x8 : Int32) (σ : St) (H : Heap) (locs : List Loc) (ls : Array Slot), DG A D ac ad s σ H locs → lv_has ls 11 [(0, .ref (ad r0)), (1, .ref (st.1 3)), (2, .int x2), (3, .int x3), (4, .int x4), (5, .int x5), (7, .int x7), (8, .int x8)] → B82 x8 σ → W p l e R s m args below meth c H locs cells slots QW (F0 m 82 ls [])) (hG : DG A D ac ad s σ H locs) (hl : lv_has ls 11 [(0, .ref (ad r0)), (1, .ref (st.1 3)), (2, .int x2), (3, .int x3), (4, .int x4), (5, .int x5), (7, .int x7), (8, .int x8), (9, .int x9)]) (hf : m_L_town_138 r0 x2 x3 x4 x5 x7 x8 x9 B3 B82 st.2.1 st.2.2 Q t0 t1 σ) : W p l e R s m args below meth c H locs cells slots QW (F0 m 138 ls [.int t0, .int t1]) := by
  have hx := S.1.1
  have hb := S.1.2.1
  unfold m_L_town_138 at hf
  refine iv_L_16 S hl.1 hG  (c_L_low l  hf) ⟨Nat.le_of_ble_eq_true rfl, Nat.le_of_ble_eq_true rfl⟩ (Nat.le_of_ble_eq_true rfl) d_L_town_138 (fun v_2 σ_1 hf H locs hG => ?_)
  refine lv_istore (lv' := [(10, .int v_2), (0, .ref (ad r0)), (1, .ref (st.1 3)), (2, .int x2), (3, .int x3), (4, .int x4), (5, .int x5), (7, .int x7), (8, .int x8), (9, .int x9)]) hx hb d_L_town_141 hl (by decide) rfl (fun ls hl => ?_)
  refine lv_aload_n hx hb d_L_town_143 rfl (lv_at hl 1 rfl) ?_
  refine lv_iload hx hb d_L_town_144 (lv_at hl 6 rfl) ?_
  refine lv_iload hx hb d_L_town_146 (lv_at hl 8 rfl) ?_
  refine lv_iload hx hb d_L_town_148 (lv_at hl 7 rfl) ?_
  refine lv_idiv hx hb d_L_town_150 hf.1 ?_
  have hf := hf.2
  refine lv_iload hx hb d_L_town_151 (lv_at hl 8 rfl) ?_
  refine lv_iload hx hb d_L_town_153 (lv_at hl 7 rfl) ?_
  refine lv_irem hx hb d_L_town_155 hf.1 ?_
  have hf := hf.2
  refine lv_iload hx hb d_L_town_156 (lv_at hl 0 rfl) ?_
  refine iv_L_26 S hl.1 hG hk_r0 (c_9_lay l hk_r0 hf) ⟨Nat.le_of_ble_eq_true rfl, Nat.le_of_ble_eq_true rfl⟩ (Nat.le_of_ble_eq_true rfl) d_L_town_158 (fun v_4 σ_3 hf H locs hG => ?_)
  refine lv_if_ne (tgt := 196) hx hb d_L_town_161 (by decide) (fun hc => ?_) (fun hc => ?_)
  · have hf := hf.1 hc
    refine lv_iconst (v := (0 : Int32)) hx hb d_L_town_196 (by decide) ?_
    exact hR _ _ _ _ _ _ hG (by unfold isB; decide) hf d_L_town_197
  · have hf := hf.2 hc
    refine lv_iload hx hb d_L_town_164 (lv_at hl 9 rfl) ?_
    refine lv_bipush (v := (12 : Int32)) hx hb d_L_town_166 (by decide) ?_
    refine lv_ishr hx hb d_L_town_168 ?_
    refine lv_iconst (v := (5 : Int32)) hx hb d_L_town_169 (by decide) ?_
    refine iv_L_16 S hl.1 hG  (c_L_low l  hf) ⟨Nat.le_of_ble_eq_true rfl, Nat.le_of_ble_eq_true rfl⟩ (Nat.le_of_ble_eq_true rfl) d_L_town_170 (fun v_6 σ_5 hf H locs hG => ?_)
    refine lv_if_ne (tgt := 198) hx hb d_L_town_173 (by decide) (fun hc => ?_) (fun hc => ?_)
    · have hf := hf.1 hc
      obtain ⟨x8_7, ex8_7⟩ : ∃ y : Int32, y = x8 + 1 := ⟨_, rfl⟩
      have hf := hf x8_7 ex8_7
      refine lv_iinc (v := x8_7) (lv' := [(8, .int x8_7), (10, .int v_2), (0, .ref (ad r0)), (1, .ref (st.1 3)), (2, .int x2), (3, .int x3), (4, .int x4), (5, .int x5), (7, .int x7), (9, .int x9)]) hx hb d_L_town_198 hl (k := 8) rfl (by rw [ex8_7]; rfl) (by decide) rfl (fun ls hl => ?_)
      refine lv_goto (tgt := 82) hx hb d_L_town_201 (by decide) ?_
      exact hB82 _ _ _ _ _   hG (lv_sub hl [2, 3, 4, 5, 6, 7, 8, 0] rfl) hf
    · have hf := hf.2 hc
      refine lv_aload_n hx hb d_L_town_176 rfl (lv_at hl 1 rfl) ?_
      refine lv_iload hx hb d_L_town_177 (lv_at hl 6 rfl) ?_
      refine lv_iload hx hb d_L_town_179 (lv_at hl 8 rfl) ?_
      refine lv_iload hx hb d_L_town_181 (lv_at hl 7 rfl) ?_
      refine lv_idiv hx hb d_L_town_183 hf.1 ?_
      have hf := hf.2
      refine lv_iload hx hb d_L_town_184 (lv_at hl 8 rfl) ?_
      refine lv_iload hx hb d_L_town_186 (lv_at hl 7 rfl) ?_
      refine lv_irem hx hb d_L_town_188 hf.1 ?_
      have hf := hf.2
      refine lv_iconst (v := (1 : Int32)) hx hb d_L_town_189 (by decide) ?_
      refine iv_L_30 S hl.1 hG hk_r0 (c_9_park l hk_r0 hf) ⟨Nat.le_of_ble_eq_true rfl, Nat.le_of_ble_eq_true rfl⟩ (Nat.le_of_ble_eq_true rfl) d_L_town_190 (fun v_9 σ_8 hf H locs hG => ?_)
      refine lv_if_eq (tgt := 198) hx hb d_L_town_193 (by decide) (fun hc => ?_) (fun hc => ?_)
      · have hf := hf.1 hc
        obtain ⟨x8_10, ex8_10⟩ : ∃ y : Int32, y = x8 + 1 := ⟨_, rfl⟩
        have hf := hf x8_10 ex8_10
        refine lv_iinc (v := x8_10) (lv' := [(8, .int x8_10), (10, .int v_2), (0, .ref (ad r0)), (1, .ref (st.1 3)), (2, .int x2), (3, .int x3), (4, .int x4), (5, .int x5), (7, .int x7), (9, .int x9)]) hx hb d_L_town_198 hl (k := 8) rfl (by rw [ex8_10]; rfl) (by decide) rfl (fun ls hl => ?_)
        refine lv_goto (tgt := 82) hx hb d_L_town_201 (by decide) ?_
        exact hB82 _ _ _ _ _   hG (lv_sub hl [2, 3, 4, 5, 6, 7, 8, 0] rfl) hf
      · have hf := hf.2 hc
        refine lv_iconst (v := (0 : Int32)) hx hb d_L_town_196 (by decide) ?_
        exact hR _ _ _ _ _ _ hG (by unfold isB; decide) hf d_L_town_197
set_option maxHeartbeats 4000000 in
set_option maxRecDepth 100000 in
theorem w_L_town_82 {r0 : Nat} {x2 : Int32} {x3 : Int32} {x4 : Int32} {x5 : Int32} {x7 : Int32} {B3 : Int32 → St → Prop} {Q : Int32 → St → Prop} {B82 : Int32 → St → Prop} {x8 : Int32} {σ : St} {H : Heap} {locs : List Loc} {ls : Array Slot} (S : SC A D ac st p m c method_4_code 11 s args "SweeperRoundsLaw" R cells slots 4 92) (hR : RtZ A D ac ad p l e R s m args below meth c method_4_code cells slots QW Q) (hk_r0 : kd r0 = 9) (hB3 : ∀ (x5 : Int32) (σ : St) (H : Heap) (locs : List Loc) (ls : Array Slot), DG A D ac ad s σ H locs → lv_has ls 11 [(0, .ref (ad r0)), (1, .ref (st.1 3)), (2, .int x2), (3, .int x3), (4, .int x4), (5, .int x5)] → B3 x5 σ → W p l e R s m args below meth c H locs cells slots QW (F0 m 3 ls [])) (hB82 : ∀ (x8 : Int32) (σ : St) (H : Heap) (locs : List Loc) (ls : Array Slot), DG A D ac ad s σ H locs → lv_has ls 11 [(0, .ref (ad r0)), (1, .ref (st.1 3)), (2, .int x2), (3, .int x3), (4, .int x4), (5, .int x5), (7, .int x7), (8, .int x8)] → B82 x8 σ → W p l e R s m args below meth c H locs cells slots QW (F0 m 82 ls [])) (hG : DG A D ac ad s σ H locs) (hl : lv_has ls 11 [(0, .ref (ad r0)), (1, .ref (st.1 3)), (2, .int x2), (3, .int x3), (4, .int x4), (5, .int x5), (7, .int x7), (8, .int x8)]) (hf : m_L_town_82 r0 x2 x3 x4 x5 x7 B3 st.2.1 st.2.2 Q B82 x8 σ) : W p l e R s m args below meth c H locs cells slots QW (F0 m 82 ls []) := by
  have hx := S.1.1
  have hb := S.1.2.1
  unfold m_L_town_82 at hf
  refine lv_iload hx hb d_L_town_82 (lv_at hl 7 rfl) ?_
  refine lv_iconst (v := (2 : Int32)) hx hb d_L_town_84 (by decide) ?_
  refine lv_iload hx hb d_L_town_85 (lv_at hl 6 rfl) ?_
  refine lv_imul hx hb d_L_town_87 ?_
  refine lv_icmp_ge (tgt := 204) hx hb d_L_town_88 (by decide) (fun hc => ?_) (fun hc => ?_)
  · have hf := hf.1 hc
    obtain ⟨x5_1, ex5_1⟩ : ∃ y : Int32, y = x5 + 1 := ⟨_, rfl⟩
    have hf := hf x5_1 ex5_1
    refine lv_iinc (v := x5_1) (lv' := [(5, .int x5_1), (0, .ref (ad r0)), (1, .ref (st.1 3)), (2, .int x2), (3, .int x3), (4, .int x4), (7, .int x7), (8, .int x8)]) hx hb d_L_town_204 hl (k := 5) rfl (by rw [ex5_1]; rfl) (by decide) rfl (fun ls hl => ?_)
    refine lv_goto (tgt := 3) hx hb d_L_town_207 (by decide) ?_
    exact hB3 _ _ _ _ _   hG (lv_sub hl [1, 2, 3, 4, 5, 0] rfl) hf
  · have hf := hf.2 hc
    refine lv_aload_n hx hb d_L_town_91 rfl (lv_at hl 1 rfl) ?_
    refine lv_iload_n hx hb d_L_town_92 rfl (lv_at hl 2 rfl) ?_
    refine lv_iconst (v := (3 : Int32)) hx hb d_L_town_93 (by decide) ?_
    refine lv_iadd hx hb d_L_town_94 ?_
    refine lv_iload hx hb d_L_town_95 (lv_at hl 7 rfl) ?_
    refine lv_bipush (v := (6 : Int32)) hx hb d_L_town_97 (by decide) ?_
    refine lv_irem hx hb d_L_town_99 (by decide) ?_
    refine lv_iadd hx hb d_L_town_100 ?_
    refine iv_L_10 S hl.1 hG  (c_L_cell l  hf) ⟨Nat.le_of_ble_eq_true rfl, Nat.le_of_ble_eq_true rfl⟩ (Nat.le_of_ble_eq_true rfl) d_L_town_101 (fun v_3 σ_2 hf H locs hG => ?_)
    refine lv_iconst (v := (3 : Int32)) hx hb d_L_town_104 (by decide) ?_
    refine lv_iload hx hb d_L_town_105 (lv_at hl 5 rfl) ?_
    refine lv_imul hx hb d_L_town_107 ?_
    refine lv_iload hx hb d_L_town_108 (lv_at hl 7 rfl) ?_
    refine lv_bipush (v := (6 : Int32)) hx hb d_L_town_110 (by decide) ?_
    refine lv_idiv hx hb d_L_town_112 (by decide) ?_
    refine lv_iadd hx hb d_L_town_113 ?_
    refine lv_ishr hx hb d_L_town_114 ?_
    refine lv_topi (fun x9_4 ex9_4 => ?_)
    have hf := hf x9_4 ex9_4
    refine lv_istore (lv' := [(9, .int x9_4), (0, .ref (ad r0)), (1, .ref (st.1 3)), (2, .int x2), (3, .int x3), (4, .int x4), (5, .int x5), (7, .int x7), (8, .int x8)]) hx hb d_L_town_115 hl (by decide) rfl (fun ls hl => ?_)
    refine lv_iload hx hb d_L_town_117 (lv_at hl 0 rfl) ?_
    refine lv_iload hx hb d_L_town_119 (lv_at hl 0 rfl) ?_
    refine lv_bipush (v := (9 : Int32)) hx hb d_L_town_121 (by decide) ?_
    refine lv_ishr hx hb d_L_town_123 ?_
    refine lv_iconst (v := (3 : Int32)) hx hb d_L_town_124 (by decide) ?_
    refine iv_L_16 S hl.1 hG  (c_L_low l  hf) ⟨Nat.le_of_ble_eq_true rfl, Nat.le_of_ble_eq_true rfl⟩ (Nat.le_of_ble_eq_true rfl) d_L_town_125 (fun v_6 σ_5 hf H locs hG => ?_)
    refine lv_if_ne (tgt := 136) hx hb d_L_town_128 (by decide) (fun hc => ?_) (fun hc => ?_)
    · have hf := hf.1 hc
      refine lv_bipush (v := (40 : Int32)) hx hb d_L_town_136 (by decide) ?_
      exact w_L_town_138 S hR hk_r0   hB3 hB82 hG (lv_sub hl [1, 2, 3, 4, 5, 6, 7, 8, 0] rfl) hf
    · have hf := hf.2 hc
      refine lv_bipush (v := (100 : Int32)) hx hb d_L_town_131 (by decide) ?_
      refine lv_goto (tgt := 138) hx hb d_L_town_133 (by decide) ?_
      exact w_L_town_138 S hR hk_r0   hB3 hB82 hG (lv_sub hl [1, 2, 3, 4, 5, 6, 7, 8, 0] rfl) hf
set_option maxHeartbeats 4000000 in
set_option maxRecDepth 100000 in
theorem lp_L_town_82 {r0 : Nat} {x2 : Int32} {x3 : Int32} {x4 : Int32} {x5 : Int32} {x7 : Int32} {B3 : Int32 → St → Prop} {Q : Int32 → St → Prop} (S : SC A D ac st p m c method_4_code 11 s args "SweeperRoundsLaw" R cells slots 4 92) (hR : RtZ A D ac ad p l e R s m args below meth c method_4_code cells slots QW Q) (hk_r0 : kd r0 = 9) (hB3 : ∀ (x5 : Int32) (σ : St) (H : Heap) (locs : List Loc) (ls : Array Slot), DG A D ac ad s σ H locs → lv_has ls 11 [(0, .ref (ad r0)), (1, .ref (st.1 3)), (2, .int x2), (3, .int x3), (4, .int x4), (5, .int x5)] → B3 x5 σ → W p l e R s m args below meth c H locs cells slots QW (F0 m 3 ls [])) : ∀ (n : Nat) (x8 : Int32) (σ : St) (H : Heap) (locs : List Loc) (ls : Array Slot), DG A D ac ad s σ H locs → lv_has ls 11 [(0, .ref (ad r0)), (1, .ref (st.1 3)), (2, .int x2), (3, .int x3), (4, .int x4), (5, .int x5), (7, .int x7), (8, .int x8)] → itN (m_L_town_82 r0 x2 x3 x4 x5 x7 B3 st.2.1 st.2.2 Q) (fun _ _ => False) n x8 σ → W p l e R s m args below meth c H locs cells slots QW (F0 m 82 ls []) := by
  intro n
  induction n with
  | zero =>
    intro x8 σ H locs ls  hG hl hf
    exact hf.elim
  | succ n ih =>
    intro x8 σ H locs ls  hG hl hf
    exact w_L_town_82 S hR hk_r0 hB3 ih hG hl hf
set_option maxHeartbeats 4000000 in
set_option maxRecDepth 100000 in
theorem w_L_town_56 {r0 : Nat} {x2 : Int32} {x3 : Int32} {x4 : Int32} {x5 : Int32} {x6 : Int32} {x7 : Int32} {B3 : Int32 → St → Prop} {Q : Int32 → St → Prop} {t0 : Int32} {t1 : Int32} {t2 : Int32} {t3 : Nat} {σ : St} {H : Heap} {locs : List Loc} {ls : Array Slot} (S : SC A D ac st p m c method_4_code 11 s args "SweeperRoundsLaw" R cells slots 4 92) (hR : RtZ A D ac ad p l e R s m args below meth c method_4_code cells slots QW Q) (hk_r0 : kd r0 = 9) (hk_t3 : kd t3 = 9) (hB3 : ∀ (x5 : Int32) (σ : St) (H : Heap) (locs : List Loc) (ls : Array Slot), DG A D ac ad s σ H locs → lv_has ls 11 [(0, .ref (ad r0)), (1, .ref (st.1 3)), (2, .int x2), (3, .int x3), (4, .int x4), (5, .int x5)] → B3 x5 σ → W p l e R s m args below meth c H locs cells slots QW (F0 m 3 ls [])) (hG : DG A D ac ad s σ H locs) (hl : lv_has ls 11 [(0, .ref (ad r0)), (1, .ref (st.1 3)), (2, .int x2), (3, .int x3), (4, .int x4), (5, .int x5), (6, .int x6), (7, .int x7)]) (hf : m_L_town_56 r0 x2 x3 x4 x5 x6 x7 B3 st.2.1 st.2.2 Q t0 t1 t2 t3 σ) : W p l e R s m args below meth c H locs cells slots QW (F0 m 56 ls [.int t0, .int t1, .int t2, .ref (ad t3)]) := by
  have hx := S.1.1
  have hb := S.1.2.1
  unfold m_L_town_56 at hf
  refine iv_L_16 S hl.1 hG  (c_L_low l  hf) ⟨Nat.le_of_ble_eq_true rfl, Nat.le_of_ble_eq_true rfl⟩ (Nat.le_of_ble_eq_true rfl) d_L_town_56 (fun v_2 σ_1 hf H locs hG => ?_)
  refine lv_iload hx hb d_L_town_59 (lv_at hl 6 rfl) ?_
  refine lv_bipush (v := (11 : Int32)) hx hb d_L_town_61 (by decide) ?_
  refine lv_ishr hx hb d_L_town_63 ?_
  refine lv_bipush (v := (10 : Int32)) hx hb d_L_town_64 (by decide) ?_
  refine iv_L_16 S hl.1 hG  (c_L_low l  hf) ⟨Nat.le_of_ble_eq_true rfl, Nat.le_of_ble_eq_true rfl⟩ (Nat.le_of_ble_eq_true rfl) d_L_town_66 (fun v_4 σ_3 hf H locs hG => ?_)
  refine iv_L_20 S hl.1 hG hk_t3 (c_9_addStreet l hk_t3 hf) ⟨Nat.le_of_ble_eq_true rfl, Nat.le_of_ble_eq_true rfl⟩ (Nat.le_of_ble_eq_true rfl) d_L_town_69 (fun v_6 σ_5 hf H locs hG => ?_)
  refine lv_iload hx hb d_L_town_72 (lv_at hl 5 rfl) ?_
  refine lv_icmp_eq (tgt := 79) hx hb d_L_town_74 (by decide) (fun hc => ?_) (fun hc => ?_)
  · have hf := hf.1 hc
    refine lv_iconst (v := (0 : Int32)) hx hb d_L_town_79 (by decide) ?_
    refine lv_istore (lv' := [(8, .int (0 : Int32)), (0, .ref (ad r0)), (1, .ref (st.1 3)), (2, .int x2), (3, .int x3), (4, .int x4), (5, .int x5), (6, .int x6), (7, .int x7)]) hx hb d_L_town_80 hl (by decide) rfl (fun ls hl => ?_)
    exact lp_L_town_82 S hR hk_r0 hB3 FU _ _ _ _ _  hG (lv_sub hl [1, 2, 3, 4, 5, 6, 8, 0] rfl) hf
  · have hf := hf.2 hc
    refine lv_iconst (v := (0 : Int32)) hx hb d_L_town_77 (by decide) ?_
    exact hR _ _ _ _ _ _ hG (by unfold isB; decide) hf d_L_town_78
set_option maxHeartbeats 4000000 in
set_option maxRecDepth 100000 in
theorem w_L_town_3 {r0 : Nat} {x2 : Int32} {x3 : Int32} {x4 : Int32} {Q : Int32 → St → Prop} {B3 : Int32 → St → Prop} {x5 : Int32} {σ : St} {H : Heap} {locs : List Loc} {ls : Array Slot} (S : SC A D ac st p m c method_4_code 11 s args "SweeperRoundsLaw" R cells slots 4 92) (hR : RtZ A D ac ad p l e R s m args below meth c method_4_code cells slots QW Q) (hk_r0 : kd r0 = 9) (hB3 : ∀ (x5 : Int32) (σ : St) (H : Heap) (locs : List Loc) (ls : Array Slot), DG A D ac ad s σ H locs → lv_has ls 11 [(0, .ref (ad r0)), (1, .ref (st.1 3)), (2, .int x2), (3, .int x3), (4, .int x4), (5, .int x5)] → B3 x5 σ → W p l e R s m args below meth c H locs cells slots QW (F0 m 3 ls [])) (hG : DG A D ac ad s σ H locs) (hl : lv_has ls 11 [(0, .ref (ad r0)), (1, .ref (st.1 3)), (2, .int x2), (3, .int x3), (4, .int x4), (5, .int x5)]) (hf : m_L_town_3 r0 x2 x3 x4 st.2.1 st.2.2 Q B3 x5 σ) : W p l e R s m args below meth c H locs cells slots QW (F0 m 3 ls []) := by
  have hx := S.1.1
  have hb := S.1.2.1
  unfold m_L_town_3 at hf
  refine lv_iload hx hb d_L_town_3 (lv_at hl 5 rfl) ?_
  refine lv_iload_n hx hb d_L_town_5 rfl (lv_at hl 3 rfl) ?_
  refine lv_icmp_ge (tgt := 210) hx hb d_L_town_6 (by decide) (fun hc => ?_) (fun hc => ?_)
  · have hf := hf.1 hc
    refine lv_aload_n hx hb d_L_town_210 rfl (lv_at hl 1 rfl) ?_
    refine lv_iload_n hx hb d_L_town_211 rfl (lv_at hl 2 rfl) ?_
    refine lv_bipush (v := (9 : Int32)) hx hb d_L_town_212 (by decide) ?_
    refine lv_iadd hx hb d_L_town_214 ?_
    refine iv_L_10 S hl.1 hG  (c_L_cell l  hf) ⟨Nat.le_of_ble_eq_true rfl, Nat.le_of_ble_eq_true rfl⟩ (Nat.le_of_ble_eq_true rfl) d_L_town_215 (fun v_2 σ_1 hf H locs hG => ?_)
    refine lv_istore (lv' := [(5, .int v_2), (0, .ref (ad r0)), (1, .ref (st.1 3)), (2, .int x2), (3, .int x3), (4, .int x4)]) hx hb d_L_town_218 hl (by decide) rfl (fun ls hl => ?_)
    refine lv_iconst (v := (0 : Int32)) hx hb d_L_town_220 (by decide) ?_
    refine lv_istore (lv' := [(6, .int (0 : Int32)), (5, .int v_2), (0, .ref (ad r0)), (1, .ref (st.1 3)), (2, .int x2), (3, .int x3), (4, .int x4)]) hx hb d_L_town_221 hl (by decide) rfl (fun ls hl => ?_)
    exact lp_L_town_223 S hR hk_r0  FU _ _ _ _ _  hG (lv_sub hl [2, 3, 4, 5, 6, 1, 0] rfl) hf
  · have hf := hf.2 hc
    refine lv_aload_n hx hb d_L_town_9 rfl (lv_at hl 1 rfl) ?_
    refine lv_iload_n hx hb d_L_town_10 rfl (lv_at hl 2 rfl) ?_
    refine lv_iload hx hb d_L_town_11 (lv_at hl 5 rfl) ?_
    refine lv_iadd hx hb d_L_town_13 ?_
    refine iv_L_10 S hl.1 hG  (c_L_cell l  hf) ⟨Nat.le_of_ble_eq_true rfl, Nat.le_of_ble_eq_true rfl⟩ (Nat.le_of_ble_eq_true rfl) d_L_town_14 (fun v_4 σ_3 hf H locs hG => ?_)
    refine lv_istore (lv' := [(6, .int v_4), (0, .ref (ad r0)), (1, .ref (st.1 3)), (2, .int x2), (3, .int x3), (4, .int x4), (5, .int x5)]) hx hb d_L_town_17 hl (by decide) rfl (fun ls hl => ?_)
    refine lv_iconst (v := (1 : Int32)) hx hb d_L_town_19 (by decide) ?_
    refine lv_iload hx hb d_L_town_20 (lv_at hl 0 rfl) ?_
    refine lv_bipush (v := (6 : Int32)) hx hb d_L_town_22 (by decide) ?_
    refine iv_L_16 S hl.1 hG  (c_L_low l  hf) ⟨Nat.le_of_ble_eq_true rfl, Nat.le_of_ble_eq_true rfl⟩ (Nat.le_of_ble_eq_true rfl) d_L_town_24 (fun v_6 σ_5 hf H locs hG => ?_)
    refine lv_iadd hx hb d_L_town_27 ?_
    refine lv_topi (fun x7_7 ex7_7 => ?_)
    have hf := hf x7_7 ex7_7
    refine lv_istore (lv' := [(7, .int x7_7), (6, .int v_4), (0, .ref (ad r0)), (1, .ref (st.1 3)), (2, .int x2), (3, .int x3), (4, .int x4), (5, .int x5)]) hx hb d_L_town_28 hl (by decide) rfl (fun ls hl => ?_)
    refine lv_aload_n hx hb d_L_town_30 rfl (lv_at hl 2 rfl) ?_
    refine lv_iload hx hb d_L_town_31 (lv_at hl 0 rfl) ?_
    refine lv_iload hx hb d_L_town_33 (lv_at hl 1 rfl) ?_
    refine lv_iconst (v := (3 : Int32)) hx hb d_L_town_35 (by decide) ?_
    refine lv_ishr hx hb d_L_town_36 ?_
    refine lv_iload hx hb d_L_town_37 (lv_at hl 1 rfl) ?_
    refine lv_bipush (v := (9 : Int32)) hx hb d_L_town_39 (by decide) ?_
    refine lv_ishr hx hb d_L_town_41 ?_
    refine lv_iconst (v := (3 : Int32)) hx hb d_L_town_42 (by decide) ?_
    refine iv_L_16 S hl.1 hG  (c_L_low l  hf) ⟨Nat.le_of_ble_eq_true rfl, Nat.le_of_ble_eq_true rfl⟩ (Nat.le_of_ble_eq_true rfl) d_L_town_43 (fun v_9 σ_8 hf H locs hG => ?_)
    refine lv_if_ne (tgt := 54) hx hb d_L_town_46 (by decide) (fun hc => ?_) (fun hc => ?_)
    · have hf := hf.1 hc
      refine lv_bipush (v := (10 : Int32)) hx hb d_L_town_54 (by decide) ?_
      exact w_L_town_56 S hR hk_r0  hk_r0 hB3 hG (lv_sub hl [2, 3, 4, 5, 6, 7, 1, 0] rfl) hf
    · have hf := hf.2 hc
      refine lv_bipush (v := (61 : Int32)) hx hb d_L_town_49 (by decide) ?_
      refine lv_goto (tgt := 56) hx hb d_L_town_51 (by decide) ?_
      exact w_L_town_56 S hR hk_r0  hk_r0 hB3 hG (lv_sub hl [2, 3, 4, 5, 6, 7, 1, 0] rfl) hf
set_option maxHeartbeats 4000000 in
set_option maxRecDepth 100000 in
theorem lp_L_town_3 {r0 : Nat} {x2 : Int32} {x3 : Int32} {x4 : Int32} {Q : Int32 → St → Prop} (S : SC A D ac st p m c method_4_code 11 s args "SweeperRoundsLaw" R cells slots 4 92) (hR : RtZ A D ac ad p l e R s m args below meth c method_4_code cells slots QW Q) (hk_r0 : kd r0 = 9) : ∀ (n : Nat) (x5 : Int32) (σ : St) (H : Heap) (locs : List Loc) (ls : Array Slot), DG A D ac ad s σ H locs → lv_has ls 11 [(0, .ref (ad r0)), (1, .ref (st.1 3)), (2, .int x2), (3, .int x3), (4, .int x4), (5, .int x5)] → itN (m_L_town_3 r0 x2 x3 x4 st.2.1 st.2.2 Q) (fun _ _ => False) n x5 σ → W p l e R s m args below meth c H locs cells slots QW (F0 m 3 ls []) := by
  intro n
  induction n with
  | zero =>
    intro x5 σ H locs ls  hG hl hf
    exact hf.elim
  | succ n ih =>
    intro x5 σ H locs ls  hG hl hf
    exact w_L_town_3 S hR hk_r0  ih hG hl hf
set_option maxHeartbeats 4000000 in
set_option maxRecDepth 100000 in
theorem w_L_town_0 {r0 : Nat} {x2 : Int32} {x3 : Int32} {x4 : Int32} {Q : Int32 → St → Prop} {σ : St} {H : Heap} {locs : List Loc} {ls : Array Slot} (S : SC A D ac st p m c method_4_code 11 s args "SweeperRoundsLaw" R cells slots 4 92) (hR : RtZ A D ac ad p l e R s m args below meth c method_4_code cells slots QW Q) (hk_r0 : kd r0 = 9) (hG : DG A D ac ad s σ H locs) (hl : lv_has ls 11 [(0, .ref (ad r0)), (1, .ref (st.1 3)), (2, .int x2), (3, .int x3), (4, .int x4)]) (hf : m_L_town r0 x2 x3 x4 st.2.1 st.2.2 Q σ) : W p l e R s m args below meth c H locs cells slots QW (F0 m 0 ls []) := by
  have hx := S.1.1
  have hb := S.1.2.1
  unfold m_L_town at hf
  refine lv_iconst (v := (0 : Int32)) hx hb d_L_town_0 (by decide) ?_
  refine lv_istore (lv' := [(5, .int (0 : Int32)), (0, .ref (ad r0)), (1, .ref (st.1 3)), (2, .int x2), (3, .int x3), (4, .int x4)]) hx hb d_L_town_1 hl (by decide) rfl (fun ls hl => ?_)
  exact lp_L_town_3 S hR hk_r0  FU _ _ _ _ _  hG (lv_sub hl [1, 2, 3, 4, 5, 0] rfl) hf
theorem c_L_town (l : Launch) {D : va_G} {ac : Nat → ClassId} {ad : Nat → Nat} {st : SS} {A : Nat → Prop} {σ : St} {r0 : Nat} {x2 : Int32} {x3 : Int32} {x4 : Int32} {Q : Int32 → St → Prop} (hk_r0 : kd r0 = 9) (hf : m_L_town r0 x2 x3 x4 st.2.1 st.2.2 Q σ) : Met l y_L_town (Cond.code y_L_town method_4_code 11 (some .boolean) :: wA) { frames := 4, cells := 0, slots := 0, locals := 92 } (va_Pc [.ref (ad r0), .ref (st.1 3), .int x2, .int x3, .int x4] (GSt A D ac ad st σ)) (va_Qi Q (GSt A D ac ad st) A) 0 0 A :=
  mkZ l (by decide +kernel) rfl [.ref (ad r0), .ref (st.1 3), .int x2, .int x3, .int x4] (Nat.le_of_ble_eq_true rfl) (fun p e s m args below meth c ls QW S hR hG hl => w_L_town_0 S hR hk_r0 hG hl hf)
set_option maxHeartbeats 4000000 in
set_option maxRecDepth 100000 in
theorem w_L_balanced_0 {r0 : Nat} {Q : Int32 → St → Prop} {σ : St} {H : Heap} {locs : List Loc} {ls : Array Slot} (S : SC A D ac st p m c method_5_code 1 s args "SweeperRoundsLaw" R cells slots 5 107) (hR : RtZ A D ac ad p l e R s m args below meth c method_5_code cells slots QW Q) (hk_r0 : kd r0 = 9) (hG : DG A D ac ad s σ H locs) (hl : lv_has ls 1 [(0, .ref (ad r0))]) (hf : m_L_balanced r0 Q σ) : W p l e R s m args below meth c H locs cells slots QW (F0 m 0 ls []) := by
  have hx := S.1.1
  have hb := S.1.2.1
  unfold m_L_balanced at hf
  refine lv_aload_n hx hb d_L_balanced_0 rfl (lv_at hl 0 rfl) ?_
  refine lv_bipush (v := (6 : Int32)) hx hb d_L_balanced_1 (by decide) ?_
  refine iv_L_40 S hl.1 hG hk_r0 (c_9_account l hk_r0 hf) ⟨Nat.le_of_ble_eq_true rfl, Nat.le_of_ble_eq_true rfl⟩ (Nat.le_of_ble_eq_true rfl) d_L_balanced_3 (fun v_2 σ_1 hf H locs hG => ?_)
  refine lv_aload_n hx hb d_L_balanced_6 rfl (lv_at hl 0 rfl) ?_
  refine lv_iconst (v := (4 : Int32)) hx hb d_L_balanced_7 (by decide) ?_
  refine iv_L_44 S hl.1 hG hk_r0 (c_9_count l hk_r0 hf) ⟨Nat.le_of_ble_eq_true rfl, Nat.le_of_ble_eq_true rfl⟩ (Nat.le_of_ble_eq_true rfl) d_L_balanced_8 (fun v_4 σ_3 hf H locs hG => ?_)
  refine lv_iadd hx hb d_L_balanced_11 ?_
  refine lv_aload_n hx hb d_L_balanced_12 rfl (lv_at hl 0 rfl) ?_
  refine lv_iconst (v := (0 : Int32)) hx hb d_L_balanced_13 (by decide) ?_
  refine iv_L_40 S hl.1 hG hk_r0 (c_9_account l hk_r0 hf) ⟨Nat.le_of_ble_eq_true rfl, Nat.le_of_ble_eq_true rfl⟩ (Nat.le_of_ble_eq_true rfl) d_L_balanced_14 (fun v_6 σ_5 hf H locs hG => ?_)
  refine lv_aload_n hx hb d_L_balanced_17 rfl (lv_at hl 0 rfl) ?_
  refine lv_iconst (v := (1 : Int32)) hx hb d_L_balanced_18 (by decide) ?_
  refine iv_L_40 S hl.1 hG hk_r0 (c_9_account l hk_r0 hf) ⟨Nat.le_of_ble_eq_true rfl, Nat.le_of_ble_eq_true rfl⟩ (Nat.le_of_ble_eq_true rfl) d_L_balanced_19 (fun v_8 σ_7 hf H locs hG => ?_)
  refine lv_iadd hx hb d_L_balanced_22 ?_
  refine lv_aload_n hx hb d_L_balanced_23 rfl (lv_at hl 0 rfl) ?_
  refine lv_iconst (v := (2 : Int32)) hx hb d_L_balanced_24 (by decide) ?_
  refine iv_L_40 S hl.1 hG hk_r0 (c_9_account l hk_r0 hf) ⟨Nat.le_of_ble_eq_true rfl, Nat.le_of_ble_eq_true rfl⟩ (Nat.le_of_ble_eq_true rfl) d_L_balanced_25 (fun v_10 σ_9 hf H locs hG => ?_)
  refine lv_isub hx hb d_L_balanced_28 ?_
  refine lv_aload_n hx hb d_L_balanced_29 rfl (lv_at hl 0 rfl) ?_
  refine lv_iconst (v := (3 : Int32)) hx hb d_L_balanced_30 (by decide) ?_
  refine iv_L_40 S hl.1 hG hk_r0 (c_9_account l hk_r0 hf) ⟨Nat.le_of_ble_eq_true rfl, Nat.le_of_ble_eq_true rfl⟩ (Nat.le_of_ble_eq_true rfl) d_L_balanced_31 (fun v_12 σ_11 hf H locs hG => ?_)
  refine lv_isub hx hb d_L_balanced_34 ?_
  refine lv_aload_n hx hb d_L_balanced_35 rfl (lv_at hl 0 rfl) ?_
  refine lv_iconst (v := (4 : Int32)) hx hb d_L_balanced_36 (by decide) ?_
  refine iv_L_40 S hl.1 hG hk_r0 (c_9_account l hk_r0 hf) ⟨Nat.le_of_ble_eq_true rfl, Nat.le_of_ble_eq_true rfl⟩ (Nat.le_of_ble_eq_true rfl) d_L_balanced_37 (fun v_14 σ_13 hf H locs hG => ?_)
  refine lv_isub hx hb d_L_balanced_40 ?_
  refine lv_aload_n hx hb d_L_balanced_41 rfl (lv_at hl 0 rfl) ?_
  refine lv_iconst (v := (5 : Int32)) hx hb d_L_balanced_42 (by decide) ?_
  refine iv_L_40 S hl.1 hG hk_r0 (c_9_account l hk_r0 hf) ⟨Nat.le_of_ble_eq_true rfl, Nat.le_of_ble_eq_true rfl⟩ (Nat.le_of_ble_eq_true rfl) d_L_balanced_43 (fun v_16 σ_15 hf H locs hG => ?_)
  refine lv_isub hx hb d_L_balanced_46 ?_
  refine lv_icmp_ne (tgt := 54) hx hb d_L_balanced_47 (by decide) (fun hc => ?_) (fun hc => ?_)
  · have hf := hf.1 hc
    refine lv_iconst (v := (0 : Int32)) hx hb d_L_balanced_54 (by decide) ?_
    exact hR _ _ _ _ _ _ hG (by unfold isB; decide) hf d_L_balanced_55
  · have hf := hf.2 hc
    refine lv_iconst (v := (1 : Int32)) hx hb d_L_balanced_50 (by decide) ?_
    refine lv_goto (tgt := 55) hx hb d_L_balanced_51 (by decide) ?_
    exact hR _ _ _ _ _ _ hG (by unfold isB; decide) hf d_L_balanced_55
theorem c_L_balanced (l : Launch) {D : va_G} {ac : Nat → ClassId} {ad : Nat → Nat} {st : SS} {A : Nat → Prop} {σ : St} {r0 : Nat} {Q : Int32 → St → Prop} (hk_r0 : kd r0 = 9) (hf : m_L_balanced r0 Q σ) : Met l y_L_balanced (Cond.code y_L_balanced method_5_code 1 (some .boolean) :: wA) { frames := 5, cells := 0, slots := 0, locals := 107 } (va_Pc [.ref (ad r0)] (GSt A D ac ad st σ)) (va_Qi Q (GSt A D ac ad st) A) 0 0 A :=
  mkZ l (by decide +kernel) rfl [.ref (ad r0)] (Nat.le_of_ble_eq_true rfl) (fun p e s m args below meth c ls QW S hR hG hl => w_L_balanced_0 S hR hk_r0 hG hl hf)
end MB
