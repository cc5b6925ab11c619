def m_L_shift_1062 (r0 : Nat) (x24 : Int32) (Q : Int32 → St → Prop) (σ : St) : Prop :=
  ((x24 = 0 → Q (0 : Int32) σ) ∧ (¬ x24 = 0 → m_L_balanced r0 (fun (v_2 : Int32) (σ_1 : St) => ((v_2 = 0 → Q (0 : Int32) σ_1) ∧ (¬ v_2 = 0 → Q (1 : Int32) σ_1))) σ))
def m_L_shift_984 (r0 : Nat) (x1 : Int32) (r3 : Nat) (x25 : Int32) (B970 : Int32 → Int32 → St → Prop) (Q : Int32 → St → Prop) (B984 : Int32 → Int32 → St → Prop) (x24 : Int32) (x26 : Int32) (σ : St) : Prop :=
  m_9_street r0 x25 (0 : Int32) (fun (v_2 : Int32) (σ_1 : St) => ((((2 : Int32) * v_2) ≤ x26 → ∀ x25_3 : Int32, x25_3 = x25 + 1 → B970 x24 x25_3 σ_1) ∧ (¬ ((2 : Int32) * v_2) ≤ x26 → ((x24 = 0 → ∀ x25_4 : Int32, x25_4 = x25 + 1 → B970 x24 x25_4 σ_1) ∧ (¬ x24 = 0 → m_9_street r0 x25 (0 : Int32) (fun (v_6 : Int32) (σ_5 : St) => ¬ v_6 = 0 ∧ m_9_street r0 x25 (0 : Int32) (fun (v_8 : Int32) (σ_7 : St) => ¬ v_8 = 0 ∧ m_9_cell r0 x25 (x26 / v_6) (x26 - x26 / v_8 * v_8) (0 : Int32) (fun (v_10 : Int32) (σ_9 : St) => vp_in (((12 : Int32) * x25) + x26) 36 ∧ ((¬ v_10 = (σ_9.1 r3 ((((12 : Int32) * x25) + x26)).toNatClampNeg) → ∀ x26_11 : Int32, x26_11 = x26 + 1 → B984 (0 : Int32) x26_11 σ_9) ∧ (v_10 = (σ_9.1 r3 ((((12 : Int32) * x25) + x26)).toNatClampNeg) → ∀ x26_12 : Int32, x26_12 = x26 + 1 → B984 (1 : Int32) x26_12 σ_9))) σ_7) σ_5) σ_1))))) σ
def m_L_shift_970 (r0 : Nat) (x1 : Int32) (r3 : Nat) (Q : Int32 → St → Prop) (B970 : Int32 → Int32 → St → Prop) (x24 : Int32) (x25 : Int32) (σ : St) : Prop :=
  ((x1 ≤ x25 → m_L_shift_1062 r0 x24 Q   σ) ∧ (¬ x1 ≤ x25 → ((x24 = 0 → m_L_shift_1062 r0 x24 Q   σ) ∧ (¬ x24 = 0 → itN (m_L_shift_984 r0 x1 r3 x25 B970 Q) (fun _ _ _ => False) FU x24 (0 : Int32) σ))))
def m_L_shift_913 (r0 : Nat) (x1 : Int32) (x2 : Int32) (r3 : Nat) (r5 : Nat) (r6 : Nat) (Q : Int32 → St → Prop) (B913 : Int32 → Int32 → St → Prop) (x24 : Int32) (x25 : Int32) (σ : St) : Prop :=
  ((x2 ≤ x25 → itN (m_L_shift_970 r0 x1 r3 Q) (fun _ _ _ => False) FU x24 (0 : Int32) σ) ∧ (¬ x2 ≤ x25 → ((x24 = 0 → itN (m_L_shift_970 r0 x1 r3 Q) (fun _ _ _ => False) FU x24 (0 : Int32) σ) ∧ (¬ x24 = 0 → m_9_leg r0 x25 (2 : Int32) (fun (v_2 : Int32) (σ_1 : St) => vp_in x25 10 ∧ ((¬ v_2 = (σ_1.1 r5 (x25).toNatClampNeg) → ∀ x25_3 : Int32, x25_3 = x25 + 1 → B913 (0 : Int32) x25_3 σ_1) ∧ (v_2 = (σ_1.1 r5 (x25).toNatClampNeg) → m_9_leg r0 x25 (3 : Int32) (fun (v_5 : Int32) (σ_4 : St) => vp_in x25 10 ∧ ((¬ v_5 = (σ_4.1 r6 (x25).toNatClampNeg) → ∀ x25_6 : Int32, x25_6 = x25 + 1 → B913 (0 : Int32) x25_6 σ_4) ∧ (v_5 = (σ_4.1 r6 (x25).toNatClampNeg) → ∀ x25_7 : Int32, x25_7 = x25 + 1 → B913 (1 : Int32) x25_7 σ_4))) σ_1))) σ))))
def m_L_shift_833 (r0 : Nat) (x1 : Int32) (x2 : Int32) (r3 : Nat) (r5 : Nat) (r6 : Nat) (x12 : Int32) (x16 : Int32) (x17 : Int32) (x18 : Int32) (x19 : Int32) (x20 : Int32) (x23 : Int32) (Q : Int32 → St → Prop) (t0 : Int32) (σ : St) : Prop :=
  ((t0 = 0 → itN (m_L_shift_913 r0 x1 x2 r3 r5 r6 Q) (fun _ _ _ => False) FU (0 : Int32) (0 : Int32) σ) ∧ (¬ t0 = 0 → m_9_latest r0 (0 : Int32) (fun (v_2 : Int32) (σ_1 : St) => ((¬ v_2 = x16 → itN (m_L_shift_913 r0 x1 x2 r3 r5 r6 Q) (fun _ _ _ => False) FU (0 : Int32) (0 : Int32) σ_1) ∧ (v_2 = x16 → m_9_latest r0 (1 : Int32) (fun (v_4 : Int32) (σ_3 : St) => ((¬ v_4 = (x23 - x12) → itN (m_L_shift_913 r0 x1 x2 r3 r5 r6 Q) (fun _ _ _ => False) FU (0 : Int32) (0 : Int32) σ_3) ∧ (v_4 = (x23 - x12) → m_9_latest r0 (2 : Int32) (fun (v_6 : Int32) (σ_5 : St) => ((¬ v_6 = x17 → itN (m_L_shift_913 r0 x1 x2 r3 r5 r6 Q) (fun _ _ _ => False) FU (0 : Int32) (0 : Int32) σ_5) ∧ (v_6 = x17 → m_9_latest r0 (3 : Int32) (fun (v_8 : Int32) (σ_7 : St) => ((¬ v_8 = x18 → itN (m_L_shift_913 r0 x1 x2 r3 r5 r6 Q) (fun _ _ _ => False) FU (0 : Int32) (0 : Int32) σ_7) ∧ (v_8 = x18 → m_9_latest r0 (4 : Int32) (fun (v_10 : Int32) (σ_9 : St) => ((¬ v_10 = x19 → itN (m_L_shift_913 r0 x1 x2 r3 r5 r6 Q) (fun _ _ _ => False) FU (0 : Int32) (0 : Int32) σ_9) ∧ (v_10 = x19 → m_9_latest r0 (5 : Int32) (fun (v_12 : Int32) (σ_11 : St) => ((¬ v_12 = x20 → itN (m_L_shift_913 r0 x1 x2 r3 r5 r6 Q) (fun _ _ _ => False) FU (0 : Int32) (0 : Int32) σ_11) ∧ (v_12 = x20 → itN (m_L_shift_913 r0 x1 x2 r3 r5 r6 Q) (fun _ _ _ => False) FU (1 : Int32) (0 : Int32) σ_11))) σ_9))) σ_7))) σ_5))) σ_3))) σ_1))) σ))
def m_L_shift_814 (r0 : Nat) (x1 : Int32) (x2 : Int32) (r3 : Nat) (r5 : Nat) (r6 : Nat) (x12 : Int32) (x14 : Int32) (x16 : Int32) (x17 : Int32) (x18 : Int32) (x19 : Int32) (x20 : Int32) (x23 : Int32) (Q : Int32 → St → Prop) (t0 : Int32) (t1 : Int32) (t2 : Int32) (σ : St) : Prop :=
  ((¬ t2 = (t1 - t0) → m_L_shift_833 r0 x1 x2 r3 r5 r6 x12 x16 x17 x18 x19 x20 x23 Q  (0 : Int32) σ) ∧ (t2 = (t1 - t0) → m_9_account r0 (5 : Int32) (fun (v_2 : Int32) (σ_1 : St) => ((¬ v_2 = x14 → m_L_shift_833 r0 x1 x2 r3 r5 r6 x12 x16 x17 x18 x19 x20 x23 Q  (0 : Int32) σ_1) ∧ (v_2 = x14 → m_L_shift_833 r0 x1 x2 r3 r5 r6 x12 x16 x17 x18 x19 x20 x23 Q  (1 : Int32) σ_1))) σ))
def m_L_shift_783 (r0 : Nat) (x1 : Int32) (x2 : Int32) (r3 : Nat) (r5 : Nat) (r6 : Nat) (x9 : Int32) (x11 : Int32) (x12 : Int32) (x14 : Int32) (x16 : Int32) (x17 : Int32) (x18 : Int32) (x19 : Int32) (x20 : Int32) (x21 : Int32) (x23 : Int32) (Q : Int32 → St → Prop) (t0 : Int32) (t1 : Int32) (σ : St) : Prop :=
  ((¬ t1 = t0 → m_L_shift_833 r0 x1 x2 r3 r5 r6 x12 x16 x17 x18 x19 x20 x23 Q  (0 : Int32) σ) ∧ (t1 = t0 → m_9_count r0 (4 : Int32) (fun (v_2 : Int32) (σ_1 : St) => ((¬ v_2 = x9 → m_L_shift_833 r0 x1 x2 r3 r5 r6 x12 x16 x17 x18 x19 x20 x23 Q  (0 : Int32) σ_1) ∧ (v_2 = x9 → m_9_count r0 (6 : Int32) (fun (v_4 : Int32) (σ_3 : St) => ((x21 = 0 → m_L_shift_814 r0 x1 x2 r3 r5 r6 x12 x14 x16 x17 x18 x19 x20 x23 Q  (0 : Int32) x11 v_4 σ_3) ∧ (¬ x21 = 0 → m_L_shift_814 r0 x1 x2 r3 r5 r6 x12 x14 x16 x17 x18 x19 x20 x23 Q  (1 : Int32) x11 v_4 σ_3))) σ_1))) σ))
def m_L_shift_724 (r0 : Nat) (x1 : Int32) (x2 : Int32) (r3 : Nat) (r5 : Nat) (r6 : Nat) (x7 : Int32) (x8 : Int32) (x9 : Int32) (x11 : Int32) (x12 : Int32) (x14 : Int32) (x16 : Int32) (x17 : Int32) (x18 : Int32) (x19 : Int32) (x20 : Int32) (Q : Int32 → St → Prop) (t0 : Int32) (σ : St) : Prop :=
  m_9_ifSpeed r0 x7 (fun (v_2 : Int32) (σ_1 : St) => m_9_count r0 (7 : Int32) (fun (v_4 : Int32) (σ_3 : St) => m_9_shift r0 (fun (v_6 : Int32) (σ_5 : St) => ((¬ v_6 = x18 → Q (0 : Int32) σ_5) ∧ (v_6 = x18 → ((¬ v_2 = x18 → Q (0 : Int32) σ_5) ∧ (v_2 = x18 → ((0 ≤ x12 → m_9_count r0 (3 : Int32) (fun (v_8 : Int32) (σ_7 : St) => ((t0 = 0 → m_L_shift_783 r0 x1 x2 r3 r5 r6 x9 x11 x12 x14 x16 x17 x18 x19 x20 t0 v_4 Q  x8 v_8 σ_7) ∧ (¬ t0 = 0 → m_L_shift_783 r0 x1 x2 r3 r5 r6 x9 x11 x12 x14 x16 x17 x18 x19 x20 t0 v_4 Q  (1000 : Int32) v_8 σ_7))) σ_5) ∧ (¬ 0 ≤ x12 → Q (0 : Int32) σ_5))))))) σ_3) σ_1) σ
def m_L_shift_707 (r0 : Nat) (x1 : Int32) (x2 : Int32) (r3 : Nat) (r5 : Nat) (r6 : Nat) (x7 : Int32) (x8 : Int32) (x9 : Int32) (x11 : Int32) (x12 : Int32) (x13 : Int32) (x14 : Int32) (x16 : Int32) (x17 : Int32) (x18 : Int32) (x19 : Int32) (x20 : Int32) (Q : Int32 → St → Prop) (σ : St) : Prop :=
  ((x13 ≤ x8 → m_L_shift_724 r0 x1 x2 r3 r5 r6 x7 x8 x9 x11 x12 x14 x16 x17 x18 x19 x20 Q  (0 : Int32) σ) ∧ (¬ x13 ≤ x8 → ((x11 ≤ 0 → m_L_shift_724 r0 x1 x2 r3 r5 r6 x7 x8 x9 x11 x12 x14 x16 x17 x18 x19 x20 Q  (0 : Int32) σ) ∧ (¬ x11 ≤ 0 → m_L_shift_724 r0 x1 x2 r3 r5 r6 x7 x8 x9 x11 x12 x14 x16 x17 x18 x19 x20 Q  (1 : Int32) σ))))
def m_L_shift_685 (r0 : Nat) (x1 : Int32) (x2 : Int32) (r3 : Nat) (r5 : Nat) (r6 : Nat) (x7 : Int32) (x8 : Int32) (x9 : Int32) (x10 : Int32) (x11 : Int32) (x13 : Int32) (x14 : Int32) (x16 : Int32) (x17 : Int32) (x18 : Int32) (x19 : Int32) (x20 : Int32) (Q : Int32 → St → Prop) (t0 : Int32) (t1 : Int32) (σ : St) : Prop :=
  ∀ x12_1 : Int32, x12_1 = (t1 - t0) → ((((2 : Int32) * x9) < x10 → m_L_shift_707 r0 x1 x2 r3 r5 r6 x7 x8 x9 x11 x12_1 x13 x14 x16 x17 x18 x19 x20 Q   σ) ∧ (¬ ((2 : Int32) * x9) < x10 → ∀ x14_2 : Int32, x14_2 = (x14 + x9) → m_L_shift_707 r0 x1 x2 r3 r5 r6 x7 x8 (0 : Int32) x11 x12_1 x13 x14_2 x16 x17 x18 x19 x20 Q   σ))
def m_L_shift_664 (r0 : Nat) (x1 : Int32) (x2 : Int32) (r3 : Nat) (r5 : Nat) (r6 : Nat) (x7 : Int32) (x8 : Int32) (x9 : Int32) (x10 : Int32) (x11 : Int32) (x12 : Int32) (x13 : Int32) (x14 : Int32) (x15 : Int32) (x16 : Int32) (x17 : Int32) (x18 : Int32) (x19 : Int32) (x20 : Int32) (Q : Int32 → St → Prop) (σ : St) : Prop :=
  ((0 ≤ x15 → m_9_street r0 x15 (1 : Int32) (fun (v_2 : Int32) (σ_1 : St) => m_L_shift_685 r0 x1 x2 r3 r5 r6 x7 x8 x9 x10 x11 x13 x14 x16 x17 x18 x19 x20 Q  ((10 : Int32) * v_2) x12 σ_1) σ) ∧ (¬ 0 ≤ x15 → m_L_shift_685 r0 x1 x2 r3 r5 r6 x7 x8 x9 x10 x11 x13 x14 x16 x17 x18 x19 x20 Q  (0 : Int32) x12 σ))
def m_L_shift_646 (r0 : Nat) (x1 : Int32) (x2 : Int32) (r3 : Nat) (r4 : Nat) (r5 : Nat) (r6 : Nat) (x7 : Int32) (x8 : Int32) (x9 : Int32) (x10 : Int32) (x11 : Int32) (x12 : Int32) (x13 : Int32) (x14 : Int32) (x15 : Int32) (x16 : Int32) (x17 : Int32) (x18 : Int32) (x19 : Int32) (x20 : Int32) (B225 : Int32 → Int32 → Int32 → Int32 → Int32 → Int32 → Int32 → Int32 → Int32 → Int32 → St → Prop) (Q : Int32 → St → Prop) (σ : St) : Prop :=
  ((¬ x16 = 0 → ∀ x20_1 : Int32, x20_1 = (x20 + (0 : Int32)) → B225 x8 x9 x12 x14 x15 x16 x17 x18 x19 x20_1 σ) ∧ (x16 = 0 → ∀ x20_2 : Int32, x20_2 = (x20 + (1 : Int32)) → B225 x8 x9 x12 x14 x15 x16 x17 x18 x19 x20_2 σ))
def m_L_shift_600 (r0 : Nat) (x1 : Int32) (x2 : Int32) (r3 : Nat) (r4 : Nat) (r5 : Nat) (r6 : Nat) (x7 : Int32) (x8 : Int32) (x9 : Int32) (x10 : Int32) (x11 : Int32) (x12 : Int32) (x13 : Int32) (x14 : Int32) (x15 : Int32) (x16 : Int32) (x17 : Int32) (x18 : Int32) (x19 : Int32) (x20 : Int32) (x21 : Int32) (x22 : Int32) (x25 : Int32) (B225 : Int32 → Int32 → Int32 → Int32 → Int32 → Int32 → Int32 → Int32 → Int32 → Int32 → St → Prop) (B361 : Int32 → Int32 → Int32 → Int32 → Int32 → Int32 → Int32 → Int32 → St → Prop) (Q : Int32 → St → Prop) (σ : St) : Prop :=
  (((((3 : Int32) * x22) + (100 : Int32)) ≤ x12 → ∀ x12_1 : Int32, x12_1 = (x12 - (((2 : Int32) * x22) + (100 : Int32))) → ∀ x14_2 : Int32, x14_2 = (x14 + x9) → ∀ x17_3 : Int32, x17_3 = x17 + 1 → B361 x8 (0 : Int32) x12_1 x14_2 x16 x17_3 x18 x19 σ) ∧ (¬ (((3 : Int32) * x22) + (100 : Int32)) ≤ x12 → B361 x8 x9 x12 x14 (3 : Int32) x17 x18 x19 σ))
def m_L_shift_584 (r0 : Nat) (x1 : Int32) (x2 : Int32) (r3 : Nat) (r4 : Nat) (r5 : Nat) (r6 : Nat) (x7 : Int32) (x8 : Int32) (x9 : Int32) (x10 : Int32) (x11 : Int32) (x12 : Int32) (x13 : Int32) (x14 : Int32) (x15 : Int32) (x16 : Int32) (x17 : Int32) (x18 : Int32) (x19 : Int32) (x20 : Int32) (x21 : Int32) (x22 : Int32) (x25 : Int32) (x27 : Int32) (x28 : Int32) (B225 : Int32 → Int32 → Int32 → Int32 → Int32 → Int32 → Int32 → Int32 → Int32 → Int32 → St → Prop) (B361 : Int32 → Int32 → Int32 → Int32 → Int32 → Int32 → Int32 → Int32 → St → Prop) (Q : Int32 → St → Prop) (t0 : Int32) (t1 : Int32) (t2 : Int32) (t3 : Nat) (σ : St) : Prop :=
  vp_in t2 10 ∧ ∀ σ_1 : St, σ_1 = wr σ t3 (t2).toNatClampNeg (t1 + t0) → ((x28 < x27 → m_L_shift_600 r0 x1 x2 r3 r4 r5 r6 x7 x8 x9 x10 x11 x12 x13 x14 x15 x16 x17 x18 x19 x20 x21 x22 x25 B225 B361 Q   σ_1) ∧ (¬ x28 < x27 → ((¬ x9 = x10 → B361 x8 x9 x12 x14 x16 x17 x18 x19 σ_1) ∧ (x9 = x10 → m_L_shift_600 r0 x1 x2 r3 r4 r5 r6 x7 x8 x9 x10 x11 x12 x13 x14 x15 x16 x17 x18 x19 x20 x21 x22 x25 B225 B361 Q   σ_1))))
def m_L_shift_550 (r0 : Nat) (x1 : Int32) (x2 : Int32) (r3 : Nat) (r4 : Nat) (r5 : Nat) (r6 : Nat) (x7 : Int32) (x8 : Int32) (x9 : Int32) (x10 : Int32) (x11 : Int32) (x12 : Int32) (x13 : Int32) (x14 : Int32) (x15 : Int32) (x16 : Int32) (x17 : Int32) (x18 : Int32) (x19 : Int32) (x20 : Int32) (x21 : Int32) (x22 : Int32) (x25 : Int32) (x27 : Int32) (x28 : Int32) (B225 : Int32 → Int32 → Int32 → Int32 → Int32 → Int32 → Int32 → Int32 → Int32 → Int32 → St → Prop) (B361 : Int32 → Int32 → Int32 → Int32 → Int32 → Int32 → Int32 → Int32 → St → Prop) (Q : Int32 → St → Prop) (t0 : Int32) (σ : St) : Prop :=
  ∀ x8_1 : Int32, x8_1 = (x8 - t0) → ∀ x19_2 : Int32, x19_2 = (x19 + t0) → vp_in x20 10 ∧ ((¬ x28 = x27 → m_L_shift_584 r0 x1 x2 r3 r4 r5 r6 x7 x8_1 x9 x10 x11 x12 x13 x14 x15 x16 x17 x18 x19_2 x20 x21 x22 x25 x27 x28 B225 B361 Q  (0 : Int32) (σ.1 r5 (x20).toNatClampNeg) x20 r5 σ) ∧ (x28 = x27 → m_L_shift_584 r0 x1 x2 r3 r4 r5 r6 x7 x8_1 x9 x10 x11 x12 x13 x14 x15 x16 x17 x18 x19_2 x20 x21 x22 x25 x27 x28 B225 B361 Q  (1 : Int32) (σ.1 r5 (x20).toNatClampNeg) x20 r5 σ))
def m_L_shift_489 (r0 : Nat) (x1 : Int32) (x2 : Int32) (r3 : Nat) (r4 : Nat) (r5 : Nat) (r6 : Nat) (x7 : Int32) (x8 : Int32) (x9 : Int32) (x10 : Int32) (x11 : Int32) (x12 : Int32) (x13 : Int32) (x14 : Int32) (x15 : Int32) (x16 : Int32) (x17 : Int32) (x18 : Int32) (x19 : Int32) (x20 : Int32) (x21 : Int32) (x22 : Int32) (x25 : Int32) (x26 : Int32) (x27 : Int32) (B225 : Int32 → Int32 → Int32 → Int32 → Int32 → Int32 → Int32 → Int32 → Int32 → Int32 → St → Prop) (B361 : Int32 → Int32 → Int32 → Int32 → Int32 → Int32 → Int32 → Int32 → St → Prop) (Q : Int32 → St → Prop) (t0 : Int32) (σ : St) : Prop :=
  vp_in x26 36 ∧ vp_in x26 36 ∧ ∀ σ_1 : St, σ_1 = wr σ r3 (x26).toNatClampNeg ((σ.1 r3 (x26).toNatClampNeg) - t0) → ∀ x9_2 : Int32, x9_2 = (x9 + t0) → ∀ x18_3 : Int32, x18_3 = (x18 + t0) → vp_in x20 10 ∧ vp_in x20 10 ∧ ∀ σ_4 : St, σ_4 = wr σ_1 r6 (x20).toNatClampNeg ((σ_1.1 r6 (x20).toNatClampNeg) + t0) → ∀ x29_5 : Int32, x29_5 = ((1 : Int32) + ((t0 * x7) / (20 : Int32))) → ((x8 ≤ x29_5 → m_L_shift_550 r0 x1 x2 r3 r4 r5 r6 x7 x8 x9_2 x10 x11 x12 x13 x14 x15 x16 x17 x18_3 x19 x20 x21 x22 x25 x27 t0 B225 B361 Q  x8 σ_4) ∧ (¬ x8 ≤ x29_5 → m_L_shift_550 r0 x1 x2 r3 r4 r5 r6 x7 x8 x9_2 x10 x11 x12 x13 x14 x15 x16 x17 x18_3 x19 x20 x21 x22 x25 x27 t0 B225 B361 Q  x29_5 σ_4))
def m_L_shift_467 (r0 : Nat) (x1 : Int32) (x2 : Int32) (r3 : Nat) (r4 : Nat) (r5 : Nat) (r6 : Nat) (x7 : Int32) (x8 : Int32) (x9 : Int32) (x10 : Int32) (x11 : Int32) (x12 : Int32) (x13 : Int32) (x14 : Int32) (x15 : Int32) (x16 : Int32) (x17 : Int32) (x18 : Int32) (x19 : Int32) (x20 : Int32) (x21 : Int32) (x22 : Int32) (x25 : Int32) (x26 : Int32) (B225 : Int32 → Int32 → Int32 → Int32 → Int32 → Int32 → Int32 → Int32 → Int32 → Int32 → St → Prop) (B361 : Int32 → Int32 → Int32 → Int32 → Int32 → Int32 → Int32 → Int32 → St → Prop) (Q : Int32 → St → Prop) (t0 : Int32) (σ : St) : Prop :=
  (((x10 - x9) ≤ t0 → m_L_shift_489 r0 x1 x2 r3 r4 r5 r6 x7 x8 x9 x10 x11 x12 x13 x14 x15 x16 x17 x18 x19 x20 x21 x22 x25 x26 t0 B225 B361 Q  (x10 - x9) σ) ∧ (¬ (x10 - x9) ≤ t0 → m_L_shift_489 r0 x1 x2 r3 r4 r5 r6 x7 x8 x9 x10 x11 x12 x13 x14 x15 x16 x17 x18 x19 x20 x21 x22 x25 x26 t0 B225 B361 Q  t0 σ))
def m_L_shift_361 (r0 : Nat) (x1 : Int32) (x2 : Int32) (r3 : Nat) (r4 : Nat) (r5 : Nat) (r6 : Nat) (x7 : Int32) (x10 : Int32) (x11 : Int32) (x13 : Int32) (x15 : Int32) (x20 : Int32) (x21 : Int32) (x22 : Int32) (x25 : Int32) (B225 : Int32 → Int32 → Int32 → Int32 → Int32 → Int32 → Int32 → Int32 → Int32 → Int32 → St → Prop) (Q : Int32 → St → Prop) (B361 : Int32 → Int32 → Int32 → Int32 → Int32 → Int32 → Int32 → Int32 → St → Prop) (x8 : Int32) (x9 : Int32) (x12 : Int32) (x14 : Int32) (x16 : Int32) (x17 : Int32) (x18 : Int32) (x19 : Int32) (σ : St) : Prop :=
  vp_in x20 10 ∧ ((x25 ≤ (σ.1 r5 (x20).toNatClampNeg) → m_L_shift_646 r0 x1 x2 r3 r4 r5 r6 x7 x8 x9 x10 x11 x12 x13 x14 x15 x16 x17 x18 x19 x20 B225 Q   σ) ∧ (¬ x25 ≤ (σ.1 r5 (x20).toNatClampNeg) → ((¬ x16 = 0 → m_L_shift_646 r0 x1 x2 r3 r4 r5 r6 x7 x8 x9 x10 x11 x12 x13 x14 x15 x16 x17 x18 x19 x20 B225 Q   σ) ∧ (x16 = 0 → m_9_leg r0 x20 (1 : Int32) (fun (v_2 : Int32) (σ_1 : St) => vp_in x20 10 ∧ ∀ x26_3 : Int32, x26_3 = ((((12 : Int32) * x21) + (x25 * v_2)) + (σ_1.1 r5 (x20).toNatClampNeg)) → ¬ x7 = 0 ∧ (((((12 : Int32) / x7) + x22) ≤ x12 → ¬ x7 = 0 ∧ ∀ x12_4 : Int32, x12_4 = (x12 - ((12 : Int32) / x7)) → vp_in x26_3 36 ∧ ((¬ (σ_1.1 r4 (x26_3).toNatClampNeg) = (1 : Int32) → vp_in x26_3 36 ∧ m_L_shift_467 r0 x1 x2 r3 r4 r5 r6 x7 x8 x9 x10 x11 x12_4 x13 x14 x15 x16 x17 x18 x19 x20 x21 x22 x25 x26_3 B225 B361 Q  (((σ_1.1 r3 (x26_3).toNatClampNeg) * ((((100 : Int32) - ((15 : Int32) * (x7 - (1 : Int32)))) * x8) / (1000 : Int32))) / (100 : Int32)) σ_1) ∧ ((σ_1.1 r4 (x26_3).toNatClampNeg) = (1 : Int32) → m_L_shift_467 r0 x1 x2 r3 r4 r5 r6 x7 x8 x9 x10 x11 x12_4 x13 x14 x15 x16 x17 x18 x19 x20 x21 x22 x25 x26_3 B225 B361 Q  (0 : Int32) σ_1))) ∧ (¬ (((12 : Int32) / x7) + x22) ≤ x12 → B361 x8 x9 x12 x14 (2 : Int32) x17 x18 x19 σ_1))) σ))))
def m_L_shift_323 (r0 : Nat) (x1 : Int32) (x2 : Int32) (r3 : Nat) (r4 : Nat) (r5 : Nat) (r6 : Nat) (x7 : Int32) (x8 : Int32) (x9 : Int32) (x10 : Int32) (x11 : Int32) (x12 : Int32) (x13 : Int32) (x14 : Int32) (x15 : Int32) (x16 : Int32) (x17 : Int32) (x18 : Int32) (x19 : Int32) (x20 : Int32) (x21 : Int32) (x22 : Int32) (B225 : Int32 → Int32 → Int32 → Int32 → Int32 → Int32 → Int32 → Int32 → Int32 → Int32 → St → Prop) (Q : Int32 → St → Prop) (t0 : Int32) (σ : St) : Prop :=
  (((t0 + x22) ≤ x12 → ∀ x12_1 : Int32, x12_1 = (x12 - t0) → m_9_street r0 x21 (0 : Int32) (fun (v_3 : Int32) (σ_2 : St) => itN (m_L_shift_361 r0 x1 x2 r3 r4 r5 r6 x7 x10 x11 x13 x21 x20 x21 x22 v_3 B225 Q) (fun _ _ _ _ _ _ _ _ _ => False) FU x8 x9 x12_1 x14 x16 x17 x18 x19 σ_2) σ) ∧ (¬ (t0 + x22) ≤ x12 → m_L_shift_646 r0 x1 x2 r3 r4 r5 r6 x7 x8 x9 x10 x11 x12 x13 x14 x15 (1 : Int32) x17 x18 x19 x20 B225 Q   σ))
def m_L_shift_281 (r0 : Nat) (x1 : Int32) (x2 : Int32) (r3 : Nat) (r4 : Nat) (r5 : Nat) (r6 : Nat) (x7 : Int32) (x8 : Int32) (x9 : Int32) (x10 : Int32) (x11 : Int32) (x12 : Int32) (x13 : Int32) (x14 : Int32) (x15 : Int32) (x16 : Int32) (x17 : Int32) (x18 : Int32) (x19 : Int32) (x20 : Int32) (x21 : Int32) (x22 : Int32) (B225 : Int32 → Int32 → Int32 → Int32 → Int32 → Int32 → Int32 → Int32 → Int32 → Int32 → St → Prop) (Q : Int32 → St → Prop) (t0 : Int32) (σ : St) : Prop :=
  ((0 ≤ x15 → ((¬ x15 = x21 → ((0 ≤ t0 → m_L_shift_323 r0 x1 x2 r3 r4 r5 r6 x7 x8 x9 x10 x11 x12 x13 x14 x15 x16 x17 x18 x19 x20 x21 x22 B225 Q  (((10 : Int32) * t0) + (50 : Int32)) σ) ∧ (¬ 0 ≤ t0 → m_L_shift_323 r0 x1 x2 r3 r4 r5 r6 x7 x8 x9 x10 x11 x12 x13 x14 x15 x16 x17 x18 x19 x20 x21 x22 B225 Q  (((10 : Int32) * (-t0)) + (50 : Int32)) σ))) ∧ (x15 = x21 → m_L_shift_323 r0 x1 x2 r3 r4 r5 r6 x7 x8 x9 x10 x11 x12 x13 x14 x15 x16 x17 x18 x19 x20 x21 x22 B225 Q  (0 : Int32) σ))) ∧ (¬ 0 ≤ x15 → m_L_shift_323 r0 x1 x2 r3 r4 r5 r6 x7 x8 x9 x10 x11 x12 x13 x14 x15 x16 x17 x18 x19 x20 x21 x22 B225 Q  x22 σ))
def m_L_shift_225 (r0 : Nat) (x1 : Int32) (x2 : Int32) (r3 : Nat) (r4 : Nat) (r5 : Nat) (r6 : Nat) (x7 : Int32) (x10 : Int32) (x11 : Int32) (x13 : Int32) (Q : Int32 → St → Prop) (B225 : Int32 → Int32 → Int32 → Int32 → Int32 → Int32 → Int32 → Int32 → Int32 → Int32 → St → Prop) (x8 : Int32) (x9 : Int32) (x12 : Int32) (x14 : Int32) (x15 : Int32) (x16 : Int32) (x17 : Int32) (x18 : Int32) (x19 : Int32) (x20 : Int32) (σ : St) : Prop :=
  ((x2 ≤ x20 → m_L_shift_664 r0 x1 x2 r3 r5 r6 x7 x8 x9 x10 x11 x12 x13 x14 x15 x16 x17 x18 x19 x20 Q   σ) ∧ (¬ x2 ≤ x20 → ((¬ x16 = 0 → m_L_shift_664 r0 x1 x2 r3 r5 r6 x7 x8 x9 x10 x11 x12 x13 x14 x15 x16 x17 x18 x19 x20 Q   σ) ∧ (x16 = 0 → m_9_leg r0 x20 (0 : Int32) (fun (v_2 : Int32) (σ_1 : St) => m_9_street r0 v_2 (1 : Int32) (fun (v_4 : Int32) (σ_3 : St) => ∀ x22_5 : Int32, x22_5 = ((10 : Int32) * v_4) → ((0 ≤ x15 → m_9_street r0 x15 (1 : Int32) (fun (v_7 : Int32) (σ_6 : St) => m_9_street r0 v_2 (1 : Int32) (fun (v_9 : Int32) (σ_8 : St) => m_L_shift_281 r0 x1 x2 r3 r4 r5 r6 x7 x8 x9 x10 x11 x12 x13 x14 x15 x16 x17 x18 x19 x20 v_2 x22_5 B225 Q  (v_7 - v_9) σ_8) σ_6) σ_3) ∧ (¬ 0 ≤ x15 → m_L_shift_281 r0 x1 x2 r3 r4 r5 r6 x7 x8 x9 x10 x11 x12 x13 x14 x15 x16 x17 x18 x19 x20 v_2 x22_5 B225 Q  (0 : Int32) σ_3))) σ_1) σ))))
def m_L_shift_47 (r0 : Nat) (x1 : Int32) (x2 : Int32) (r3 : Nat) (r4 : Nat) (r5 : Nat) (r6 : Nat) (x7 : Int32) (B38 : Int32 → St → Prop) (Q : Int32 → St → Prop) (B47 : Int32 → St → Prop) (x8 : Int32) (σ : St) : Prop :=
  m_9_street r0 x7 (0 : Int32) (fun (v_2 : Int32) (σ_1 : St) => ((((2 : Int32) * v_2) ≤ x8 → ∀ x7_3 : Int32, x7_3 = x7 + 1 → B38 x7_3 σ_1) ∧ (¬ ((2 : Int32) * v_2) ≤ x8 → m_9_street r0 x7 (0 : Int32) (fun (v_5 : Int32) (σ_4 : St) => ¬ v_5 = 0 ∧ m_9_street r0 x7 (0 : Int32) (fun (v_7 : Int32) (σ_6 : St) => ¬ v_7 = 0 ∧ m_9_cell r0 x7 (x8 / v_5) (x8 - x8 / v_7 * v_7) (0 : Int32) (fun (v_9 : Int32) (σ_8 : St) => vp_in (((12 : Int32) * x7) + x8) 36 ∧ ∀ σ_10 : St, σ_10 = wr σ_8 r3 ((((12 : Int32) * x7) + x8)).toNatClampNeg v_9 → m_9_street r0 x7 (0 : Int32) (fun (v_12 : Int32) (σ_11 : St) => ¬ v_12 = 0 ∧ m_9_street r0 x7 (0 : Int32) (fun (v_14 : Int32) (σ_13 : St) => ¬ v_14 = 0 ∧ m_9_cell r0 x7 (x8 / v_12) (x8 - x8 / v_14 * v_14) (1 : Int32) (fun (v_16 : Int32) (σ_15 : St) => vp_in (((12 : Int32) * x7) + x8) 36 ∧ ∀ σ_17 : St, σ_17 = wr σ_15 r4 ((((12 : Int32) * x7) + x8)).toNatClampNeg v_16 → ∀ x8_18 : Int32, x8_18 = x8 + 1 → B47 x8_18 σ_17) σ_13) σ_11) σ_10) σ_6) σ_4) σ_1))) σ
def m_L_shift_38 (r0 : Nat) (x1 : Int32) (x2 : Int32) (r3 : Nat) (r4 : Nat) (r5 : Nat) (r6 : Nat) (Q : Int32 → St → Prop) (B38 : Int32 → St → Prop) (x7 : Int32) (σ : St) : Prop :=
  ((x1 ≤ x7 → m_9_count r0 (2 : Int32) (fun (v_2 : Int32) (σ_1 : St) => m_9_count r0 (3 : Int32) (fun (v_4 : Int32) (σ_3 : St) => m_9_count r0 (4 : Int32) (fun (v_6 : Int32) (σ_5 : St) => m_9_count r0 (5 : Int32) (fun (v_8 : Int32) (σ_7 : St) => m_9_count r0 (6 : Int32) (fun (v_10 : Int32) (σ_9 : St) => m_9_count r0 (7 : Int32) (fun (v_12 : Int32) (σ_11 : St) => m_9_count r0 (8 : Int32) (fun (v_14 : Int32) (σ_13 : St) => m_9_account r0 (5 : Int32) (fun (v_16 : Int32) (σ_15 : St) => itN (m_L_shift_225 r0 x1 x2 r3 r4 r5 r6 v_2 v_8 v_10 v_14 Q) (fun _ _ _ _ _ _ _ _ _ _ _ => False) FU v_4 v_6 v_12 v_16 (-1 : Int32) (0 : Int32) (0 : Int32) (0 : Int32) (0 : Int32) (0 : Int32) σ_15) σ_13) σ_11) σ_9) σ_7) σ_5) σ_3) σ_1) σ) ∧ (¬ x1 ≤ x7 → itN (m_L_shift_47 r0 x1 x2 r3 r4 r5 r6 x7 B38 Q) (fun _ _ => False) FU (0 : Int32) σ))
def m_L_shift_35 (r0 : Nat) (x1 : Int32) (x2 : Int32) (r3 : Nat) (r4 : Nat) (r5 : Nat) (r6 : Nat) (Q : Int32 → St → Prop) (σ : St) : Prop :=
  itN (m_L_shift_38 r0 x1 x2 r3 r4 r5 r6 Q) (fun _ _ => False) FU (0 : Int32) σ
section MB
variable {p : Program} {l : Launch} {e : Env} {R : Room} {s : State} {m : MethodId} {args : Array Value} {below : List Frame} {meth : Method} {c : Code} {cells slots : Nat} {QW : State → Prop}
variable {D : va_G} {ac : Nat → ClassId} {ad : Nat → Nat} {st : SS} {A : Nat → Prop}
set_option maxHeartbeats 4000000 in
set_option maxRecDepth 100000 in
theorem w_L_shift_1062 {r0 : Nat} {x24 : Int32} {Q : Int32 → St → Prop} {σ : St} {H : Heap} {locs : List Loc} {ls : Array Slot} (S : SC A D ac st p m c method_6_code 30 s args "SweeperRoundsLaw" R cells slots 6 142) (hR : RtZ A D ac ad p l e R s m args below meth c method_6_code cells slots QW Q) (h4 : ad 999 = 4) (hk_r0 : kd r0 = 9) (hG : DG A D ac ad s σ H locs) (hl : lv_has ls 30 [(0, .ref (ad r0)), (24, .int x24)]) (hf : m_L_shift_1062 r0 x24 Q σ) : W p l e R s m args below meth c H locs cells slots QW (F0 m 1062 ls []) := by
  have hx := S.1.1
  have hb := S.1.2.1
  unfold m_L_shift_1062 at hf
  refine lv_iload hx hb d_L_shift_1062 (lv_at hl 1 rfl) ?_
  refine lv_if_eq (tgt := 1078) hx hb d_L_shift_1064 (by decide) (fun hc => ?_) (fun hc => ?_)
  · have hf := hf.1 hc
    refine lv_iconst (v := (0 : Int32)) hx hb d_L_shift_1078 (by decide) ?_
    exact hR _ _ _ _ _ _ hG (by unfold isB; decide) hf d_L_shift_1079
  · have hf := hf.2 hc
    refine lv_aload_n hx hb d_L_shift_1067 rfl (lv_at hl 0 rfl) ?_
    refine iv_L_65 S hl.1 hG  (c_L_balanced l hk_r0 hf) ⟨Nat.le_of_ble_eq_true rfl, Nat.le_of_ble_eq_true rfl⟩ (Nat.le_of_ble_eq_true rfl) d_L_shift_1068 (fun v_2 σ_1 hf H locs hG => ?_)
    refine lv_if_eq (tgt := 1078) hx hb d_L_shift_1071 (by decide) (fun hc => ?_) (fun hc => ?_)
    · have hf := hf.1 hc
      refine lv_iconst (v := (0 : Int32)) hx hb d_L_shift_1078 (by decide) ?_
      exact hR _ _ _ _ _ _ hG (by unfold isB; decide) hf d_L_shift_1079
    · have hf := hf.2 hc
      refine lv_iconst (v := (1 : Int32)) hx hb d_L_shift_1074 (by decide) ?_
      refine lv_goto (tgt := 1079) hx hb d_L_shift_1075 (by decide) ?_
      exact hR _ _ _ _ _ _ hG (by unfold isB; decide) hf d_L_shift_1079
set_option maxHeartbeats 4000000 in
set_option maxRecDepth 100000 in
theorem w_L_shift_984 {r0 : Nat} {x1 : Int32} {r3 : Nat} {x25 : Int32} {B970 : Int32 → Int32 → St → Prop} {Q : Int32 → St → Prop} {B984 : Int32 → Int32 → St → Prop} {x24 : Int32} {x26 : Int32} {σ : St} {H : Heap} {locs : List Loc} {ls : Array Slot} (S : SC A D ac st p m c method_6_code 30 s args "SweeperRoundsLaw" R cells slots 6 142) (hR : RtZ A D ac ad p l e R s m args below meth c method_6_code cells slots QW Q) (h4 : ad 999 = 4) (hk_r0 : kd r0 = 9) (hk_r3 : kd r3 = 30) (hB970 : ∀ (x24 : Int32) (x25 : Int32) (σ : St) (H : Heap) (locs : List Loc) (ls : Array Slot), DG A D ac ad s σ H locs → lv_has ls 30 [(0, .ref (ad r0)), (1, .int x1), (3, .ref (ad r3)), (24, .int x24), (25, .int x25)] → B970 x24 x25 σ → W p l e R s m args below meth c H locs cells slots QW (F0 m 970 ls [])) (hB984 : ∀ (x24 : Int32) (x26 : Int32) (σ : St) (H : Heap) (locs : List Loc) (ls : Array Slot), DG A D ac ad s σ H locs → lv_has ls 30 [(0, .ref (ad r0)), (1, .int x1), (3, .ref (ad r3)), (24, .int x24), (25, .int x25), (26, .int x26)] → B984 x24 x26 σ → W p l e R s m args below meth c H locs cells slots QW (F0 m 984 ls [])) (hG : DG A D ac ad s σ H locs) (hl : lv_has ls 30 [(0, .ref (ad r0)), (1, .int x1), (3, .ref (ad r3)), (24, .int x24), (25, .int x25), (26, .int x26)]) (hf : m_L_shift_984 r0 x1 r3 x25 B970 Q B984 x24 x26 σ) : W p l e R s m args below meth c H locs cells slots QW (F0 m 984 ls []) := by
  have hx := S.1.1
  have hb := S.1.2.1
  unfold m_L_shift_984 at hf
  refine lv_iload hx hb d_L_shift_984 (lv_at hl 5 rfl) ?_
  refine lv_iconst (v := (2 : Int32)) hx hb d_L_shift_986 (by decide) ?_
  refine lv_aload_n hx hb d_L_shift_987 rfl (lv_at hl 0 rfl) ?_
  refine lv_iload hx hb d_L_shift_988 (lv_at hl 4 rfl) ?_
  refine lv_iconst (v := (0 : Int32)) hx hb d_L_shift_990 (by decide) ?_
  refine iv_L_47 S hl.1 hG hk_r0 (c_9_street l hk_r0 hf) ⟨Nat.le_of_ble_eq_true rfl, Nat.le_of_ble_eq_true rfl⟩ (Nat.le_of_ble_eq_true rfl) d_L_shift_991 (fun v_2 σ_1 hf H locs hG => ?_)
  refine lv_imul hx hb d_L_shift_994 ?_
  refine lv_icmp_ge (tgt := 1056) hx hb d_L_shift_995 (by decide) (fun hc => ?_) (fun hc => ?_)
  · have hf := hf.1 hc
    obtain ⟨x25_3, ex25_3⟩ : ∃ y : Int32, y = x25 + 1 := ⟨_, rfl⟩
    have hf := hf x25_3 ex25_3
    refine lv_iinc (v := x25_3) (lv' := [(25, .int x25_3), (0, .ref (ad r0)), (1, .int x1), (3, .ref (ad r3)), (24, .int x24), (26, .int x26)]) hx hb d_L_shift_1056 hl (k := 4) rfl (by rw [ex25_3]; rfl) (by decide) rfl (fun ls hl => ?_)
    refine lv_goto (tgt := 970) hx hb d_L_shift_1059 (by decide) ?_
    exact hB970 _ _ _ _ _ _   hG (lv_sub hl [1, 2, 3, 4, 0] rfl) hf
  · have hf := hf.2 hc
    refine lv_iload hx hb d_L_shift_998 (lv_at hl 3 rfl) ?_
    refine lv_if_eq (tgt := 1056) hx hb d_L_shift_1000 (by decide) (fun hc => ?_) (fun hc => ?_)
    · have hf := hf.1 hc
      obtain ⟨x25_4, ex25_4⟩ : ∃ y : Int32, y = x25 + 1 := ⟨_, rfl⟩
      have hf := hf x25_4 ex25_4
      refine lv_iinc (v := x25_4) (lv' := [(25, .int x25_4), (0, .ref (ad r0)), (1, .int x1), (3, .ref (ad r3)), (24, .int x24), (26, .int x26)]) hx hb d_L_shift_1056 hl (k := 4) rfl (by rw [ex25_4]; rfl) (by decide) rfl (fun ls hl => ?_)
      refine lv_goto (tgt := 970) hx hb d_L_shift_1059 (by decide) ?_
      exact hB970 _ _ _ _ _ _   hG (lv_sub hl [1, 2, 3, 4, 0] rfl) hf
    · have hf := hf.2 hc
      refine lv_aload_n hx hb d_L_shift_1003 rfl (lv_at hl 0 rfl) ?_
      refine lv_iload hx hb d_L_shift_1004 (lv_at hl 4 rfl) ?_
      refine lv_iload hx hb d_L_shift_1006 (lv_at hl 5 rfl) ?_
      refine lv_aload_n hx hb d_L_shift_1008 rfl (lv_at hl 0 rfl) ?_
      refine lv_iload hx hb d_L_shift_1009 (lv_at hl 4 rfl) ?_
      refine lv_iconst (v := (0 : Int32)) hx hb d_L_shift_1011 (by decide) ?_
      refine iv_L_47 S hl.1 hG hk_r0 (c_9_street l hk_r0 hf) ⟨Nat.le_of_ble_eq_true rfl, Nat.le_of_ble_eq_true rfl⟩ (Nat.le_of_ble_eq_true rfl) d_L_shift_1012 (fun v_6 σ_5 hf H locs hG => ?_)
      refine lv_idiv hx hb d_L_shift_1015 hf.1 ?_
      have hf := hf.2
      refine lv_iload hx hb d_L_shift_1016 (lv_at hl 5 rfl) ?_
      refine lv_aload_n hx hb d_L_shift_1018 rfl (lv_at hl 0 rfl) ?_
      refine lv_iload hx hb d_L_shift_1019 (lv_at hl 4 rfl) ?_
      refine lv_iconst (v := (0 : Int32)) hx hb d_L_shift_1021 (by decide) ?_
      refine iv_L_47 S hl.1 hG hk_r0 (c_9_street l hk_r0 hf) ⟨Nat.le_of_ble_eq_true rfl, Nat.le_of_ble_eq_true rfl⟩ (Nat.le_of_ble_eq_true rfl) d_L_shift_1022 (fun v_8 σ_7 hf H locs hG => ?_)
      refine lv_irem hx hb d_L_shift_1025 hf.1 ?_
      have hf := hf.2
      refine lv_iconst (v := (0 : Int32)) hx hb d_L_shift_1026 (by decide) ?_
      refine iv_L_50 S hl.1 hG hk_r0 (c_9_cell l hk_r0 hf) ⟨Nat.le_of_ble_eq_true rfl, Nat.le_of_ble_eq_true rfl⟩ (Nat.le_of_ble_eq_true rfl) d_L_shift_1027 (fun v_10 σ_9 hf H locs hG => ?_)
      refine lv_aload_n hx hb d_L_shift_1030 rfl (lv_at hl 2 rfl) ?_
      refine lv_bipush (v := (12 : Int32)) hx hb d_L_shift_1031 (by decide) ?_
      refine lv_iload hx hb d_L_shift_1033 (lv_at hl 4 rfl) ?_
      refine lv_imul hx hb d_L_shift_1035 ?_
      refine lv_iload hx hb d_L_shift_1036 (lv_at hl 5 rfl) ?_
      refine lv_iadd hx hb d_L_shift_1038 ?_
      refine mla S hG h4 30 rfl hk_r3 hf.1 d_L_shift_1039 ?_
      have hf := hf.2
      refine lv_icmp_ne (tgt := 1047) hx hb d_L_shift_1040 (by decide) (fun hc => ?_) (fun hc => ?_)
      · have hf := hf.1 hc
        refine lv_iconst (v := (0 : Int32)) hx hb d_L_shift_1047 (by decide) ?_
        refine lv_istore (lv' := [(24, .int (0 : Int32)), (0, .ref (ad r0)), (1, .int x1), (3, .ref (ad r3)), (25, .int x25), (26, .int x26)]) hx hb d_L_shift_1048 hl (by decide) rfl (fun ls hl => ?_)
        obtain ⟨x26_11, ex26_11⟩ : ∃ y : Int32, y = x26 + 1 := ⟨_, rfl⟩
        have hf := hf x26_11 ex26_11
        refine lv_iinc (v := x26_11) (lv' := [(26, .int x26_11), (24, .int (0 : Int32)), (0, .ref (ad r0)), (1, .int x1), (3, .ref (ad r3)), (25, .int x25)]) hx hb d_L_shift_1050 hl (k := 5) rfl (by rw [ex26_11]; rfl) (by decide) rfl (fun ls hl => ?_)
        refine lv_goto (tgt := 984) hx hb d_L_shift_1053 (by decide) ?_
        exact hB984 _ _ _ _ _ _   hG (lv_sub hl [2, 3, 4, 1, 5, 0] rfl) hf
      · have hf := hf.2 hc
        refine lv_iconst (v := (1 : Int32)) hx hb d_L_shift_1043 (by decide) ?_
        refine lv_goto (tgt := 1048) hx hb d_L_shift_1044 (by decide) ?_
        refine lv_istore (lv' := [(24, .int (1 : Int32)), (0, .ref (ad r0)), (1, .int x1), (3, .ref (ad r3)), (25, .int x25), (26, .int x26)]) hx hb d_L_shift_1048 hl (by decide) rfl (fun ls hl => ?_)
        obtain ⟨x26_12, ex26_12⟩ : ∃ y : Int32, y = x26 + 1 := ⟨_, rfl⟩
        have hf := hf x26_12 ex26_12
        refine lv_iinc (v := x26_12) (lv' := [(26, .int x26_12), (24, .int (1 : Int32)), (0, .ref (ad r0)), (1, .int x1), (3, .ref (ad r3)), (25, .int x25)]) hx hb d_L_shift_1050 hl (k := 5) rfl (by rw [ex26_12]; rfl) (by decide) rfl (fun ls hl => ?_)
        refine lv_goto (tgt := 984) hx hb d_L_shift_1053 (by decide) ?_
        exact hB984 _ _ _ _ _ _   hG (lv_sub hl [2, 3, 4, 1, 5, 0] rfl) hf
set_option maxHeartbeats 4000000 in
set_option maxRecDepth 100000 in
theorem lp_L_shift_984 {r0 : Nat} {x1 : Int32} {r3 : Nat} {x25 : Int32} {B970 : Int32 → Int32 → St → Prop} {Q : Int32 → St → Prop} (S : SC A D ac st p m c method_6_code 30 s args "SweeperRoundsLaw" R cells slots 6 142) (hR : RtZ A D ac ad p l e R s m args below meth c method_6_code cells slots QW Q) (h4 : ad 999 = 4) (hk_r0 : kd r0 = 9) (hk_r3 : kd r3 = 30) (hB970 : ∀ (x24 : Int32) (x25 : Int32) (σ : St) (H : Heap) (locs : List Loc) (ls : Array Slot), DG A D ac ad s σ H locs → lv_has ls 30 [(0, .ref (ad r0)), (1, .int x1), (3, .ref (ad r3)), (24, .int x24), (25, .int x25)] → B970 x24 x25 σ → W p l e R s m args below meth c H locs cells slots QW (F0 m 970 ls [])) : ∀ (n : Nat) (x24 : Int32) (x26 : Int32) (σ : St) (H : Heap) (locs : List Loc) (ls : Array Slot), DG A D ac ad s σ H locs → lv_has ls 30 [(0, .ref (ad r0)), (1, .int x1), (3, .ref (ad r3)), (24, .int x24), (25, .int x25), (26, .int x26)] → itN (m_L_shift_984 r0 x1 r3 x25 B970 Q) (fun _ _ _ => False) n x24 x26 σ → W p l e R s m args below meth c H locs cells slots QW (F0 m 984 ls []) := by
  intro n
  induction n with
  | zero =>
    intro x24 x26 σ H locs ls  hG hl hf
    exact hf.elim
  | succ n ih =>
    intro x24 x26 σ H locs ls  hG hl hf
    exact w_L_shift_984 S hR h4 hk_r0 hk_r3 hB970 ih hG hl hf
set_option maxHeartbeats 4000000 in
set_option maxRecDepth 100000 in
theorem w_L_shift_970 {r0 : Nat} {x1 : Int32} {r3 : Nat} {Q : Int32 → St → Prop} {B970 : Int32 → Int32 → St → Prop} {x24 : Int32} {x25 : Int32} {σ : St} {H : Heap} {locs : List Loc} {ls : Array Slot} (S : SC A D ac st p m c method_6_code 30 s args "SweeperRoundsLaw" R cells slots 6 142) (hR : RtZ A D ac ad p l e R s m args below meth c method_6_code cells slots QW Q) (h4 : ad 999 = 4) (hk_r0 : kd r0 = 9) (hk_r3 : kd r3 = 30) (hB970 : ∀ (x24 : Int32) (x25 : Int32) (σ : St) (H : Heap) (locs : List Loc) (ls : Array Slot), DG A D ac ad s σ H locs → lv_has ls 30 [(0, .ref (ad r0)), (1, .int x1), (3, .ref (ad r3)), (24, .int x24), (25, .int x25)] → B970 x24 x25 σ → W p l e R s m args below meth c H locs cells slots QW (F0 m 970 ls [])) (hG : DG A D ac ad s σ H locs) (hl : lv_has ls 30 [(0, .ref (ad r0)), (1, .int x1), (3, .ref (ad r3)), (24, .int x24), (25, .int x25)]) (hf : m_L_shift_970 r0 x1 r3 Q B970 x24 x25 σ) : W p l e R s m args below meth c H locs cells slots QW (F0 m 970 ls []) := by
  have hx := S.1.1
  have hb := S.1.2.1
  unfold m_L_shift_970 at hf
  refine lv_iload hx hb d_L_shift_970 (lv_at hl 4 rfl) ?_
  refine lv_iload_n hx hb d_L_shift_972 rfl (lv_at hl 1 rfl) ?_
  refine lv_icmp_ge (tgt := 1062) hx hb d_L_shift_973 (by decide) (fun hc => ?_) (fun hc => ?_)
  · have hf := hf.1 hc
    exact w_L_shift_1062 S hR h4 hk_r0    hG (lv_sub hl [0, 3] rfl) hf
  · have hf := hf.2 hc
    refine lv_iload hx hb d_L_shift_976 (lv_at hl 3 rfl) ?_
    refine lv_if_eq (tgt := 1062) hx hb d_L_shift_978 (by decide) (fun hc => ?_) (fun hc => ?_)
    · have hf := hf.1 hc
      exact w_L_shift_1062 S hR h4 hk_r0    hG (lv_sub hl [0, 3] rfl) hf
    · have hf := hf.2 hc
      refine lv_iconst (v := (0 : Int32)) hx hb d_L_shift_981 (by decide) ?_
      refine lv_istore (lv' := [(26, .int (0 : Int32)), (0, .ref (ad r0)), (1, .int x1), (3, .ref (ad r3)), (24, .int x24), (25, .int x25)]) hx hb d_L_shift_982 hl (by decide) rfl (fun ls hl => ?_)
      exact lp_L_shift_984 S hR h4 hk_r0 hk_r3 hB970 FU _ _ _ _ _ _  hG (lv_sub hl [1, 2, 3, 4, 5, 0] rfl) hf
set_option maxHeartbeats 4000000 in
set_option maxRecDepth 100000 in
theorem lp_L_shift_970 {r0 : Nat} {x1 : Int32} {r3 : Nat} {Q : Int32 → St → Prop} (S : SC A D ac st p m c method_6_code 30 s args "SweeperRoundsLaw" R cells slots 6 142) (hR : RtZ A D ac ad p l e R s m args below meth c method_6_code cells slots QW Q) (h4 : ad 999 = 4) (hk_r0 : kd r0 = 9) (hk_r3 : kd r3 = 30) : ∀ (n : Nat) (x24 : Int32) (x25 : Int32) (σ : St) (H : Heap) (locs : List Loc) (ls : Array Slot), DG A D ac ad s σ H locs → lv_has ls 30 [(0, .ref (ad r0)), (1, .int x1), (3, .ref (ad r3)), (24, .int x24), (25, .int x25)] → itN (m_L_shift_970 r0 x1 r3 Q) (fun _ _ _ => False) n x24 x25 σ → W p l e R s m args below meth c H locs cells slots QW (F0 m 970 ls []) := by
  intro n
  induction n with
  | zero =>
    intro x24 x25 σ H locs ls  hG hl hf
    exact hf.elim
  | succ n ih =>
    intro x24 x25 σ H locs ls  hG hl hf
    exact w_L_shift_970 S hR h4 hk_r0 hk_r3  ih hG hl hf
set_option maxHeartbeats 4000000 in
set_option maxRecDepth 100000 in
theorem w_L_shift_913 {r0 : Nat} {x1 : Int32} {x2 : Int32} {r3 : Nat} {r5 : Nat} {r6 : Nat} {Q : Int32 → St → Prop} {B913 : Int32 → Int32 → St → Prop} {x24 : Int32} {x25 : Int32} {σ : St} {H : Heap} {locs : List Loc} {ls : Array Slot} (S : SC A D ac st p m c method_6_code 30 s args "SweeperRoundsLaw" R cells slots 6 142) (hR : RtZ A D ac ad p l e R s m args below meth c method_6_code cells slots QW Q) (h4 : ad 999 = 4) (hk_r0 : kd r0 = 9) (hk_r3 : kd r3 = 30) (hk_r5 : kd r5 = 32) (hk_r6 : kd r6 = 33) (hB913 : ∀ (x24 : Int32) (x25 : Int32) (σ : St) (H : Heap) (locs : List Loc) (ls : Array Slot), DG A D ac ad s σ H locs → lv_has ls 30 [(0, .ref (ad r0)), (1, .int x1), (2, .int x2), (3, .ref (ad r3)), (5, .ref (ad r5)), (6, .ref (ad r6)), (24, .int x24), (25, .int x25)] → B913 x24 x25 σ → W p l e R s m args below meth c H locs cells slots QW (F0 m 913 ls [])) (hG : DG A D ac ad s σ H locs) (hl : lv_has ls 30 [(0, .ref (ad r0)), (1, .int x1), (2, .int x2), (3, .ref (ad r3)), (5, .ref (ad r5)), (6, .ref (ad r6)), (24, .int x24), (25, .int x25)]) (hf : m_L_shift_913 r0 x1 x2 r3 r5 r6 Q B913 x24 x25 σ) : W p l e R s m args below meth c H locs cells slots QW (F0 m 913 ls []) := by
  have hx := S.1.1
  have hb := S.1.2.1
  unfold m_L_shift_913 at hf
  refine lv_iload hx hb d_L_shift_913 (lv_at hl 7 rfl) ?_
  refine lv_iload_n hx hb d_L_shift_915 rfl (lv_at hl 2 rfl) ?_
  refine lv_icmp_ge (tgt := 967) hx hb d_L_shift_916 (by decide) (fun hc => ?_) (fun hc => ?_)
  · have hf := hf.1 hc
    refine lv_iconst (v := (0 : Int32)) hx hb d_L_shift_967 (by decide) ?_
    refine lv_istore (lv' := [(25, .int (0 : Int32)), (0, .ref (ad r0)), (1, .int x1), (2, .int x2), (3, .ref (ad r3)), (5, .ref (ad r5)), (6, .ref (ad r6)), (24, .int x24)]) hx hb d_L_shift_968 hl (by decide) rfl (fun ls hl => ?_)
    exact lp_L_shift_970 S hR h4 hk_r0 hk_r3  FU _ _ _ _ _ _  hG (lv_sub hl [1, 2, 4, 7, 0] rfl) hf
  · have hf := hf.2 hc
    refine lv_iload hx hb d_L_shift_919 (lv_at hl 6 rfl) ?_
    refine lv_if_eq (tgt := 967) hx hb d_L_shift_921 (by decide) (fun hc => ?_) (fun hc => ?_)
    · have hf := hf.1 hc
      refine lv_iconst (v := (0 : Int32)) hx hb d_L_shift_967 (by decide) ?_
      refine lv_istore (lv' := [(25, .int (0 : Int32)), (0, .ref (ad r0)), (1, .int x1), (2, .int x2), (3, .ref (ad r3)), (5, .ref (ad r5)), (6, .ref (ad r6)), (24, .int x24)]) hx hb d_L_shift_968 hl (by decide) rfl (fun ls hl => ?_)
      exact lp_L_shift_970 S hR h4 hk_r0 hk_r3  FU _ _ _ _ _ _  hG (lv_sub hl [1, 2, 4, 7, 0] rfl) hf
    · have hf := hf.2 hc
      refine lv_aload_n hx hb d_L_shift_924 rfl (lv_at hl 0 rfl) ?_
      refine lv_iload hx hb d_L_shift_925 (lv_at hl 7 rfl) ?_
      refine lv_iconst (v := (2 : Int32)) hx hb d_L_shift_927 (by decide) ?_
      refine iv_L_52 S hl.1 hG hk_r0 (c_9_leg l hk_r0 hf) ⟨Nat.le_of_ble_eq_true rfl, Nat.le_of_ble_eq_true rfl⟩ (Nat.le_of_ble_eq_true rfl) d_L_shift_928 (fun v_2 σ_1 hf H locs hG => ?_)
      refine lv_aload hx hb d_L_shift_931 (lv_at hl 4 rfl) ?_
      refine lv_iload hx hb d_L_shift_933 (lv_at hl 7 rfl) ?_
      refine mla S hG h4 32 rfl hk_r5 hf.1 d_L_shift_935 ?_
      have hf := hf.2
      refine lv_icmp_ne (tgt := 958) hx hb d_L_shift_936 (by decide) (fun hc => ?_) (fun hc => ?_)
      · have hf := hf.1 hc
        refine lv_iconst (v := (0 : Int32)) hx hb d_L_shift_958 (by decide) ?_
        refine lv_istore (lv' := [(24, .int (0 : Int32)), (0, .ref (ad r0)), (1, .int x1), (2, .int x2), (3, .ref (ad r3)), (5, .ref (ad r5)), (6, .ref (ad r6)), (25, .int x25)]) hx hb d_L_shift_959 hl (by decide) rfl (fun ls hl => ?_)
        obtain ⟨x25_3, ex25_3⟩ : ∃ y : Int32, y = x25 + 1 := ⟨_, rfl⟩
        have hf := hf x25_3 ex25_3
        refine lv_iinc (v := x25_3) (lv' := [(25, .int x25_3), (24, .int (0 : Int32)), (0, .ref (ad r0)), (1, .int x1), (2, .int x2), (3, .ref (ad r3)), (5, .ref (ad r5)), (6, .ref (ad r6))]) hx hb d_L_shift_961 hl (k := 7) rfl (by rw [ex25_3]; rfl) (by decide) rfl (fun ls hl => ?_)
        refine lv_goto (tgt := 913) hx hb d_L_shift_964 (by decide) ?_
        exact hB913 _ _ _ _ _ _   hG (lv_sub hl [2, 3, 4, 5, 6, 7, 1, 0] rfl) hf
      · have hf := hf.2 hc
        refine lv_aload_n hx hb d_L_shift_939 rfl (lv_at hl 0 rfl) ?_
        refine lv_iload hx hb d_L_shift_940 (lv_at hl 7 rfl) ?_
        refine lv_iconst (v := (3 : Int32)) hx hb d_L_shift_942 (by decide) ?_
        refine iv_L_52 S hl.1 hG hk_r0 (c_9_leg l hk_r0 hf) ⟨Nat.le_of_ble_eq_true rfl, Nat.le_of_ble_eq_true rfl⟩ (Nat.le_of_ble_eq_true rfl) d_L_shift_943 (fun v_5 σ_4 hf H locs hG => ?_)
        refine lv_aload hx hb d_L_shift_946 (lv_at hl 5 rfl) ?_
        refine lv_iload hx hb d_L_shift_948 (lv_at hl 7 rfl) ?_
        refine mla S hG h4 33 rfl hk_r6 hf.1 d_L_shift_950 ?_
        have hf := hf.2
        refine lv_icmp_ne (tgt := 958) hx hb d_L_shift_951 (by decide) (fun hc => ?_) (fun hc => ?_)
        · have hf := hf.1 hc
          refine lv_iconst (v := (0 : Int32)) hx hb d_L_shift_958 (by decide) ?_
          refine lv_istore (lv' := [(24, .int (0 : Int32)), (0, .ref (ad r0)), (1, .int x1), (2, .int x2), (3, .ref (ad r3)), (5, .ref (ad r5)), (6, .ref (ad r6)), (25, .int x25)]) hx hb d_L_shift_959 hl (by decide) rfl (fun ls hl => ?_)
          obtain ⟨x25_6, ex25_6⟩ : ∃ y : Int32, y = x25 + 1 := ⟨_, rfl⟩
          have hf := hf x25_6 ex25_6
          refine lv_iinc (v := x25_6) (lv' := [(25, .int x25_6), (24, .int (0 : Int32)), (0, .ref (ad r0)), (1, .int x1), (2, .int x2), (3, .ref (ad r3)), (5, .ref (ad r5)), (6, .ref (ad r6))]) hx hb d_L_shift_961 hl (k := 7) rfl (by rw [ex25_6]; rfl) (by decide) rfl (fun ls hl => ?_)
          refine lv_goto (tgt := 913) hx hb d_L_shift_964 (by decide) ?_
          exact hB913 _ _ _ _ _ _   hG (lv_sub hl [2, 3, 4, 5, 6, 7, 1, 0] rfl) hf
        · have hf := hf.2 hc
          refine lv_iconst (v := (1 : Int32)) hx hb d_L_shift_954 (by decide) ?_
          refine lv_goto (tgt := 959) hx hb d_L_shift_955 (by decide) ?_
          refine lv_istore (lv' := [(24, .int (1 : Int32)), (0, .ref (ad r0)), (1, .int x1), (2, .int x2), (3, .ref (ad r3)), (5, .ref (ad r5)), (6, .ref (ad r6)), (25, .int x25)]) hx hb d_L_shift_959 hl (by decide) rfl (fun ls hl => ?_)
          obtain ⟨x25_7, ex25_7⟩ : ∃ y : Int32, y = x25 + 1 := ⟨_, rfl⟩
          have hf := hf x25_7 ex25_7
          refine lv_iinc (v := x25_7) (lv' := [(25, .int x25_7), (24, .int (1 : Int32)), (0, .ref (ad r0)), (1, .int x1), (2, .int x2), (3, .ref (ad r3)), (5, .ref (ad r5)), (6, .ref (ad r6))]) hx hb d_L_shift_961 hl (k := 7) rfl (by rw [ex25_7]; rfl) (by decide) rfl (fun ls hl => ?_)
          refine lv_goto (tgt := 913) hx hb d_L_shift_964 (by decide) ?_
          exact hB913 _ _ _ _ _ _   hG (lv_sub hl [2, 3, 4, 5, 6, 7, 1, 0] rfl) hf
set_option maxHeartbeats 4000000 in
set_option maxRecDepth 100000 in
theorem lp_L_shift_913 {r0 : Nat} {x1 : Int32} {x2 : Int32} {r3 : Nat} {r5 : Nat} {r6 : Nat} {Q : Int32 → St → Prop} (S : SC A D ac st p m c method_6_code 30 s args "SweeperRoundsLaw" R cells slots 6 142) (hR : RtZ A D ac ad p l e R s m args below meth c method_6_code cells slots QW Q) (h4 : ad 999 = 4) (hk_r0 : kd r0 = 9) (hk_r3 : kd r3 = 30) (hk_r5 : kd r5 = 32) (hk_r6 : kd r6 = 33) : ∀ (n : Nat) (x24 : Int32) (x25 : Int32) (σ : St) (H : Heap) (locs : List Loc) (ls : Array Slot), DG A D ac ad s σ H locs → lv_has ls 30 [(0, .ref (ad r0)), (1, .int x1), (2, .int x2), (3, .ref (ad r3)), (5, .ref (ad r5)), (6, .ref (ad r6)), (24, .int x24), (25, .int x25)] → itN (m_L_shift_913 r0 x1 x2 r3 r5 r6 Q) (fun _ _ _ => False) n x24 x25 σ → W p l e R s m args below meth c H locs cells slots QW (F0 m 913 ls []) := by
  intro n
  induction n with
  | zero =>
    intro x24 x25 σ H locs ls  hG hl hf
    exact hf.elim
  | succ n ih =>
    intro x24 x25 σ H locs ls  hG hl hf
    exact w_L_shift_913 S hR h4 hk_r0 hk_r3 hk_r5 hk_r6  ih hG hl hf
set_option maxHeartbeats 4000000 in
set_option maxRecDepth 100000 in
theorem w_L_shift_833 {r0 : Nat} {x1 : Int32} {x2 : Int32} {r3 : Nat} {r5 : Nat} {r6 : Nat} {x12 : Int32} {x16 : Int32} {x17 : Int32} {x18 : Int32} {x19 : Int32} {x20 : Int32} {x23 : Int32} {Q : Int32 → St → Prop} {t0 : Int32} {σ : St} {H : Heap} {locs : List Loc} {ls : Array Slot} (S : SC A D ac st p m c method_6_code 30 s args "SweeperRoundsLaw" R cells slots 6 142) (hR : RtZ A D ac ad p l e R s m args below meth c method_6_code cells slots QW Q) (h4 : ad 999 = 4) (hk_r0 : kd r0 = 9) (hk_r3 : kd r3 = 30) (hk_r5 : kd r5 = 32) (hk_r6 : kd r6 = 33) (hG : DG A D ac ad s σ H locs) (hl : lv_has ls 30 [(0, .ref (ad r0)), (1, .int x1), (2, .int x2), (3, .ref (ad r3)), (5, .ref (ad r5)), (6, .ref (ad r6)), (12, .int x12), (16, .int x16), (17, .int x17), (18, .int x18), (19, .int x19), (20, .int x20), (23, .int x23)]) (hf : m_L_shift_833 r0 x1 x2 r3 r5 r6 x12 x16 x17 x18 x19 x20 x23 Q t0 σ) : W p l e R s m args below meth c H locs cells slots QW (F0 m 833 ls [.int t0]) := by
  have hx := S.1.1
  have hb := S.1.2.1
  unfold m_L_shift_833 at hf
  refine lv_istore (lv' := [(24, .int t0), (0, .ref (ad r0)), (1, .int x1), (2, .int x2), (3, .ref (ad r3)), (5, .ref (ad r5)), (6, .ref (ad r6)), (12, .int x12), (16, .int x16), (17, .int x17), (18, .int x18), (19, .int x19), (20, .int x20), (23, .int x23)]) hx hb d_L_shift_833 hl (by decide) rfl (fun ls hl => ?_)
  refine lv_iload hx hb d_L_shift_835 (lv_at hl 0 rfl) ?_
  refine lv_if_eq (tgt := 907) hx hb d_L_shift_837 (by decide) (fun hc => ?_) (fun hc => ?_)
  · have hf := hf.1 hc
    refine lv_iconst (v := (0 : Int32)) hx hb d_L_shift_907 (by decide) ?_
    refine lv_istore (lv' := [(24, .int (0 : Int32)), (0, .ref (ad r0)), (1, .int x1), (2, .int x2), (3, .ref (ad r3)), (5, .ref (ad r5)), (6, .ref (ad r6)), (12, .int x12), (16, .int x16), (17, .int x17), (18, .int x18), (19, .int x19), (20, .int x20), (23, .int x23)]) hx hb d_L_shift_908 hl (by decide) rfl (fun ls hl => ?_)
    refine lv_iconst (v := (0 : Int32)) hx hb d_L_shift_910 (by decide) ?_
    refine lv_istore (lv' := [(25, .int (0 : Int32)), (24, .int (0 : Int32)), (0, .ref (ad r0)), (1, .int x1), (2, .int x2), (3, .ref (ad r3)), (5, .ref (ad r5)), (6, .ref (ad r6)), (12, .int x12), (16, .int x16), (17, .int x17), (18, .int x18), (19, .int x19), (20, .int x20), (23, .int x23)]) hx hb d_L_shift_911 hl (by decide) rfl (fun ls hl => ?_)
    exact lp_L_shift_913 S hR h4 hk_r0 hk_r3 hk_r5 hk_r6  FU _ _ _ _ _ _  hG (lv_sub hl [2, 3, 4, 5, 6, 7, 1, 0] rfl) hf
  · have hf := hf.2 hc
    refine lv_aload_n hx hb d_L_shift_840 rfl (lv_at hl 1 rfl) ?_
    refine lv_iconst (v := (0 : Int32)) hx hb d_L_shift_841 (by decide) ?_
    refine iv_L_62 S hl.1 hG hk_r0 (c_9_latest l hk_r0 hf) ⟨Nat.le_of_ble_eq_true rfl, Nat.le_of_ble_eq_true rfl⟩ (Nat.le_of_ble_eq_true rfl) d_L_shift_842 (fun v_2 σ_1 hf H locs hG => ?_)
    refine lv_iload hx hb d_L_shift_845 (lv_at hl 8 rfl) ?_
    refine lv_icmp_ne (tgt := 907) hx hb d_L_shift_847 (by decide) (fun hc => ?_) (fun hc => ?_)
    · have hf := hf.1 hc
      refine lv_iconst (v := (0 : Int32)) hx hb d_L_shift_907 (by decide) ?_
      refine lv_istore (lv' := [(24, .int (0 : Int32)), (0, .ref (ad r0)), (1, .int x1), (2, .int x2), (3, .ref (ad r3)), (5, .ref (ad r5)), (6, .ref (ad r6)), (12, .int x12), (16, .int x16), (17, .int x17), (18, .int x18), (19, .int x19), (20, .int x20), (23, .int x23)]) hx hb d_L_shift_908 hl (by decide) rfl (fun ls hl => ?_)
      refine lv_iconst (v := (0 : Int32)) hx hb d_L_shift_910 (by decide) ?_
      refine lv_istore (lv' := [(25, .int (0 : Int32)), (24, .int (0 : Int32)), (0, .ref (ad r0)), (1, .int x1), (2, .int x2), (3, .ref (ad r3)), (5, .ref (ad r5)), (6, .ref (ad r6)), (12, .int x12), (16, .int x16), (17, .int x17), (18, .int x18), (19, .int x19), (20, .int x20), (23, .int x23)]) hx hb d_L_shift_911 hl (by decide) rfl (fun ls hl => ?_)
      exact lp_L_shift_913 S hR h4 hk_r0 hk_r3 hk_r5 hk_r6  FU _ _ _ _ _ _  hG (lv_sub hl [2, 3, 4, 5, 6, 7, 1, 0] rfl) hf
    · have hf := hf.2 hc
      refine lv_aload_n hx hb d_L_shift_850 rfl (lv_at hl 1 rfl) ?_
      refine lv_iconst (v := (1 : Int32)) hx hb d_L_shift_851 (by decide) ?_
      refine iv_L_62 S hl.1 hG hk_r0 (c_9_latest l hk_r0 hf) ⟨Nat.le_of_ble_eq_true rfl, Nat.le_of_ble_eq_true rfl⟩ (Nat.le_of_ble_eq_true rfl) d_L_shift_852 (fun v_4 σ_3 hf H locs hG => ?_)
      refine lv_iload hx hb d_L_shift_855 (lv_at hl 13 rfl) ?_
      refine lv_iload hx hb d_L_shift_857 (lv_at hl 7 rfl) ?_
      refine lv_isub hx hb d_L_shift_859 ?_
      refine lv_icmp_ne (tgt := 907) hx hb d_L_shift_860 (by decide) (fun hc => ?_) (fun hc => ?_)
      · have hf := hf.1 hc
        refine lv_iconst (v := (0 : Int32)) hx hb d_L_shift_907 (by decide) ?_
        refine lv_istore (lv' := [(24, .int (0 : Int32)), (0, .ref (ad r0)), (1, .int x1), (2, .int x2), (3, .ref (ad r3)), (5, .ref (ad r5)), (6, .ref (ad r6)), (12, .int x12), (16, .int x16), (17, .int x17), (18, .int x18), (19, .int x19), (20, .int x20), (23, .int x23)]) hx hb d_L_shift_908 hl (by decide) rfl (fun ls hl => ?_)
        refine lv_iconst (v := (0 : Int32)) hx hb d_L_shift_910 (by decide) ?_
        refine lv_istore (lv' := [(25, .int (0 : Int32)), (24, .int (0 : Int32)), (0, .ref (ad r0)), (1, .int x1), (2, .int x2), (3, .ref (ad r3)), (5, .ref (ad r5)), (6, .ref (ad r6)), (12, .int x12), (16, .int x16), (17, .int x17), (18, .int x18), (19, .int x19), (20, .int x20), (23, .int x23)]) hx hb d_L_shift_911 hl (by decide) rfl (fun ls hl => ?_)
        exact lp_L_shift_913 S hR h4 hk_r0 hk_r3 hk_r5 hk_r6  FU _ _ _ _ _ _  hG (lv_sub hl [2, 3, 4, 5, 6, 7, 1, 0] rfl) hf
      · have hf := hf.2 hc
        refine lv_aload_n hx hb d_L_shift_863 rfl (lv_at hl 1 rfl) ?_
        refine lv_iconst (v := (2 : Int32)) hx hb d_L_shift_864 (by decide) ?_
        refine iv_L_62 S hl.1 hG hk_r0 (c_9_latest l hk_r0 hf) ⟨Nat.le_of_ble_eq_true rfl, Nat.le_of_ble_eq_true rfl⟩ (Nat.le_of_ble_eq_true rfl) d_L_shift_865 (fun v_6 σ_5 hf H locs hG => ?_)
        refine lv_iload hx hb d_L_shift_868 (lv_at hl 9 rfl) ?_
        refine lv_icmp_ne (tgt := 907) hx hb d_L_shift_870 (by decide) (fun hc => ?_) (fun hc => ?_)
        · have hf := hf.1 hc
          refine lv_iconst (v := (0 : Int32)) hx hb d_L_shift_907 (by decide) ?_
          refine lv_istore (lv' := [(24, .int (0 : Int32)), (0, .ref (ad r0)), (1, .int x1), (2, .int x2), (3, .ref (ad r3)), (5, .ref (ad r5)), (6, .ref (ad r6)), (12, .int x12), (16, .int x16), (17, .int x17), (18, .int x18), (19, .int x19), (20, .int x20), (23, .int x23)]) hx hb d_L_shift_908 hl (by decide) rfl (fun ls hl => ?_)
          refine lv_iconst (v := (0 : Int32)) hx hb d_L_shift_910 (by decide) ?_
          refine lv_istore (lv' := [(25, .int (0 : Int32)), (24, .int (0 : Int32)), (0, .ref (ad r0)), (1, .int x1), (2, .int x2), (3, .ref (ad r3)), (5, .ref (ad r5)), (6, .ref (ad r6)), (12, .int x12), (16, .int x16), (17, .int x17), (18, .int x18), (19, .int x19), (20, .int x20), (23, .int x23)]) hx hb d_L_shift_911 hl (by decide) rfl (fun ls hl => ?_)
          exact lp_L_shift_913 S hR h4 hk_r0 hk_r3 hk_r5 hk_r6  FU _ _ _ _ _ _  hG (lv_sub hl [2, 3, 4, 5, 6, 7, 1, 0] rfl) hf
        · have hf := hf.2 hc
          refine lv_aload_n hx hb d_L_shift_873 rfl (lv_at hl 1 rfl) ?_
          refine lv_iconst (v := (3 : Int32)) hx hb d_L_shift_874 (by decide) ?_
          refine iv_L_62 S hl.1 hG hk_r0 (c_9_latest l hk_r0 hf) ⟨Nat.le_of_ble_eq_true rfl, Nat.le_of_ble_eq_true rfl⟩ (Nat.le_of_ble_eq_true rfl) d_L_shift_875 (fun v_8 σ_7 hf H locs hG => ?_)
          refine lv_iload hx hb d_L_shift_878 (lv_at hl 10 rfl) ?_
          refine lv_icmp_ne (tgt := 907) hx hb d_L_shift_880 (by decide) (fun hc => ?_) (fun hc => ?_)
          · have hf := hf.1 hc
            refine lv_iconst (v := (0 : Int32)) hx hb d_L_shift_907 (by decide) ?_
            refine lv_istore (lv' := [(24, .int (0 : Int32)), (0, .ref (ad r0)), (1, .int x1), (2, .int x2), (3, .ref (ad r3)), (5, .ref (ad r5)), (6, .ref (ad r6)), (12, .int x12), (16, .int x16), (17, .int x17), (18, .int x18), (19, .int x19), (20, .int x20), (23, .int x23)]) hx hb d_L_shift_908 hl (by decide) rfl (fun ls hl => ?_)
            refine lv_iconst (v := (0 : Int32)) hx hb d_L_shift_910 (by decide) ?_
            refine lv_istore (lv' := [(25, .int (0 : Int32)), (24, .int (0 : Int32)), (0, .ref (ad r0)), (1, .int x1), (2, .int x2), (3, .ref (ad r3)), (5, .ref (ad r5)), (6, .ref (ad r6)), (12, .int x12), (16, .int x16), (17, .int x17), (18, .int x18), (19, .int x19), (20, .int x20), (23, .int x23)]) hx hb d_L_shift_911 hl (by decide) rfl (fun ls hl => ?_)
            exact lp_L_shift_913 S hR h4 hk_r0 hk_r3 hk_r5 hk_r6  FU _ _ _ _ _ _  hG (lv_sub hl [2, 3, 4, 5, 6, 7, 1, 0] rfl) hf
          · have hf := hf.2 hc
            refine lv_aload_n hx hb d_L_shift_883 rfl (lv_at hl 1 rfl) ?_
            refine lv_iconst (v := (4 : Int32)) hx hb d_L_shift_884 (by decide) ?_
            refine iv_L_62 S hl.1 hG hk_r0 (c_9_latest l hk_r0 hf) ⟨Nat.le_of_ble_eq_true rfl, Nat.le_of_ble_eq_true rfl⟩ (Nat.le_of_ble_eq_true rfl) d_L_shift_885 (fun v_10 σ_9 hf H locs hG => ?_)
            refine lv_iload hx hb d_L_shift_888 (lv_at hl 11 rfl) ?_
            refine lv_icmp_ne (tgt := 907) hx hb d_L_shift_890 (by decide) (fun hc => ?_) (fun hc => ?_)
            · have hf := hf.1 hc
              refine lv_iconst (v := (0 : Int32)) hx hb d_L_shift_907 (by decide) ?_
              refine lv_istore (lv' := [(24, .int (0 : Int32)), (0, .ref (ad r0)), (1, .int x1), (2, .int x2), (3, .ref (ad r3)), (5, .ref (ad r5)), (6, .ref (ad r6)), (12, .int x12), (16, .int x16), (17, .int x17), (18, .int x18), (19, .int x19), (20, .int x20), (23, .int x23)]) hx hb d_L_shift_908 hl (by decide) rfl (fun ls hl => ?_)
              refine lv_iconst (v := (0 : Int32)) hx hb d_L_shift_910 (by decide) ?_
              refine lv_istore (lv' := [(25, .int (0 : Int32)), (24, .int (0 : Int32)), (0, .ref (ad r0)), (1, .int x1), (2, .int x2), (3, .ref (ad r3)), (5, .ref (ad r5)), (6, .ref (ad r6)), (12, .int x12), (16, .int x16), (17, .int x17), (18, .int x18), (19, .int x19), (20, .int x20), (23, .int x23)]) hx hb d_L_shift_911 hl (by decide) rfl (fun ls hl => ?_)
              exact lp_L_shift_913 S hR h4 hk_r0 hk_r3 hk_r5 hk_r6  FU _ _ _ _ _ _  hG (lv_sub hl [2, 3, 4, 5, 6, 7, 1, 0] rfl) hf
            · have hf := hf.2 hc
              refine lv_aload_n hx hb d_L_shift_893 rfl (lv_at hl 1 rfl) ?_
              refine lv_iconst (v := (5 : Int32)) hx hb d_L_shift_894 (by decide) ?_
              refine iv_L_62 S hl.1 hG hk_r0 (c_9_latest l hk_r0 hf) ⟨Nat.le_of_ble_eq_true rfl, Nat.le_of_ble_eq_true rfl⟩ (Nat.le_of_ble_eq_true rfl) d_L_shift_895 (fun v_12 σ_11 hf H locs hG => ?_)
              refine lv_iload hx hb d_L_shift_898 (lv_at hl 12 rfl) ?_
              refine lv_icmp_ne (tgt := 907) hx hb d_L_shift_900 (by decide) (fun hc => ?_) (fun hc => ?_)
              · have hf := hf.1 hc
                refine lv_iconst (v := (0 : Int32)) hx hb d_L_shift_907 (by decide) ?_
                refine lv_istore (lv' := [(24, .int (0 : Int32)), (0, .ref (ad r0)), (1, .int x1), (2, .int x2), (3, .ref (ad r3)), (5, .ref (ad r5)), (6, .ref (ad r6)), (12, .int x12), (16, .int x16), (17, .int x17), (18, .int x18), (19, .int x19), (20, .int x20), (23, .int x23)]) hx hb d_L_shift_908 hl (by decide) rfl (fun ls hl => ?_)
                refine lv_iconst (v := (0 : Int32)) hx hb d_L_shift_910 (by decide) ?_
                refine lv_istore (lv' := [(25, .int (0 : Int32)), (24, .int (0 : Int32)), (0, .ref (ad r0)), (1, .int x1), (2, .int x2), (3, .ref (ad r3)), (5, .ref (ad r5)), (6, .ref (ad r6)), (12, .int x12), (16, .int x16), (17, .int x17), (18, .int x18), (19, .int x19), (20, .int x20), (23, .int x23)]) hx hb d_L_shift_911 hl (by decide) rfl (fun ls hl => ?_)
                exact lp_L_shift_913 S hR h4 hk_r0 hk_r3 hk_r5 hk_r6  FU _ _ _ _ _ _  hG (lv_sub hl [2, 3, 4, 5, 6, 7, 1, 0] rfl) hf
              · have hf := hf.2 hc
                refine lv_iconst (v := (1 : Int32)) hx hb d_L_shift_903 (by decide) ?_
                refine lv_goto (tgt := 908) hx hb d_L_shift_904 (by decide) ?_
                refine lv_istore (lv' := [(24, .int (1 : Int32)), (0, .ref (ad r0)), (1, .int x1), (2, .int x2), (3, .ref (ad r3)), (5, .ref (ad r5)), (6, .ref (ad r6)), (12, .int x12), (16, .int x16), (17, .int x17), (18, .int x18), (19, .int x19), (20, .int x20), (23, .int x23)]) hx hb d_L_shift_908 hl (by decide) rfl (fun ls hl => ?_)
                refine lv_iconst (v := (0 : Int32)) hx hb d_L_shift_910 (by decide) ?_
                refine lv_istore (lv' := [(25, .int (0 : Int32)), (24, .int (1 : Int32)), (0, .ref (ad r0)), (1, .int x1), (2, .int x2), (3, .ref (ad r3)), (5, .ref (ad r5)), (6, .ref (ad r6)), (12, .int x12), (16, .int x16), (17, .int x17), (18, .int x18), (19, .int x19), (20, .int x20), (23, .int x23)]) hx hb d_L_shift_911 hl (by decide) rfl (fun ls hl => ?_)
                exact lp_L_shift_913 S hR h4 hk_r0 hk_r3 hk_r5 hk_r6  FU _ _ _ _ _ _  hG (lv_sub hl [2, 3, 4, 5, 6, 7, 1, 0] rfl) hf
set_option maxHeartbeats 4000000 in
set_option maxRecDepth 100000 in
theorem w_L_shift_814 {r0 : Nat} {x1 : Int32} {x2 : Int32} {r3 : Nat} {r5 : Nat} {r6 : Nat} {x12 : Int32} {x14 : Int32} {x16 : Int32} {x17 : Int32} {x18 : Int32} {x19 : Int32} {x20 : Int32} {x23 : Int32} {Q : Int32 → St → Prop} {t0 : Int32} {t1 : Int32} {t2 : Int32} {σ : St} {H : Heap} {locs : List Loc} {ls : Array Slot} (S : SC A D ac st p m c method_6_code 30 s args "SweeperRoundsLaw" R cells slots 6 142) (hR : RtZ A D ac ad p l e R s m args below meth c method_6_code cells slots QW Q) (h4 : ad 999 = 4) (hk_r0 : kd r0 = 9) (hk_r3 : kd r3 = 30) (hk_r5 : kd r5 = 32) (hk_r6 : kd r6 = 33) (hG : DG A D ac ad s σ H locs) (hl : lv_has ls 30 [(0, .ref (ad r0)), (1, .int x1), (2, .int x2), (3, .ref (ad r3)), (5, .ref (ad r5)), (6, .ref (ad r6)), (12, .int x12), (14, .int x14), (16, .int x16), (17, .int x17), (18, .int x18), (19, .int x19), (20, .int x20), (23, .int x23)]) (hf : m_L_shift_814 r0 x1 x2 r3 r5 r6 x12 x14 x16 x17 x18 x19 x20 x23 Q t0 t1 t2 σ) : W p l e R s m args below meth c H locs cells slots QW (F0 m 814 ls [.int t0, .int t1, .int t2]) := by
  have hx := S.1.1
  have hb := S.1.2.1
  unfold m_L_shift_814 at hf
  refine lv_isub hx hb d_L_shift_814 ?_
  refine lv_icmp_ne (tgt := 832) hx hb d_L_shift_815 (by decide) (fun hc => ?_) (fun hc => ?_)
  · have hf := hf.1 hc
    refine lv_iconst (v := (0 : Int32)) hx hb d_L_shift_832 (by decide) ?_
    exact w_L_shift_833 S hR h4 hk_r0 hk_r3 hk_r5 hk_r6    hG (lv_sub hl [0, 1, 2, 3, 4, 5, 6, 8, 9, 10, 11, 12, 13] rfl) hf
  · have hf := hf.2 hc
    refine lv_aload_n hx hb d_L_shift_818 rfl (lv_at hl 0 rfl) ?_
    refine lv_iconst (v := (5 : Int32)) hx hb d_L_shift_819 (by decide) ?_
    refine iv_L_40 S hl.1 hG hk_r0 (c_9_account l hk_r0 hf) ⟨Nat.le_of_ble_eq_true rfl, Nat.le_of_ble_eq_true rfl⟩ (Nat.le_of_ble_eq_true rfl) d_L_shift_820 (fun v_2 σ_1 hf H locs hG => ?_)
    refine lv_iload hx hb d_L_shift_823 (lv_at hl 7 rfl) ?_
    refine lv_icmp_ne (tgt := 832) hx hb d_L_shift_825 (by decide) (fun hc => ?_) (fun hc => ?_)
    · have hf := hf.1 hc
      refine lv_iconst (v := (0 : Int32)) hx hb d_L_shift_832 (by decide) ?_
      exact w_L_shift_833 S hR h4 hk_r0 hk_r3 hk_r5 hk_r6    hG (lv_sub hl [0, 1, 2, 3, 4, 5, 6, 8, 9, 10, 11, 12, 13] rfl) hf
    · have hf := hf.2 hc
      refine lv_iconst (v := (1 : Int32)) hx hb d_L_shift_828 (by decide) ?_
      refine lv_goto (tgt := 833) hx hb d_L_shift_829 (by decide) ?_
      exact w_L_shift_833 S hR h4 hk_r0 hk_r3 hk_r5 hk_r6    hG (lv_sub hl [0, 1, 2, 3, 4, 5, 6, 8, 9, 10, 11, 12, 13] rfl) hf
set_option maxHeartbeats 4000000 in
set_option maxRecDepth 100000 in
theorem w_L_shift_783 {r0 : Nat} {x1 : Int32} {x2 : Int32} {r3 : Nat} {r5 : Nat} {r6 : Nat} {x9 : Int32} {x11 : Int32} {x12 : Int32} {x14 : Int32} {x16 : Int32} {x17 : Int32} {x18 : Int32} {x19 : Int32} {x20 : Int32} {x21 : Int32} {x23 : Int32} {Q : Int32 → St → Prop} {t0 : Int32} {t1 : Int32} {σ : St} {H : Heap} {locs : List Loc} {ls : Array Slot} (S : SC A D ac st p m c method_6_code 30 s args "SweeperRoundsLaw" R cells slots 6 142) (hR : RtZ A D ac ad p l e R s m args below meth c method_6_code cells slots QW Q) (h4 : ad 999 = 4) (hk_r0 : kd r0 = 9) (hk_r3 : kd r3 = 30) (hk_r5 : kd r5 = 32) (hk_r6 : kd r6 = 33) (hG : DG A D ac ad s σ H locs) (hl : lv_has ls 30 [(0, .ref (ad r0)), (1, .int x1), (2, .int x2), (3, .ref (ad r3)), (5, .ref (ad r5)), (6, .ref (ad r6)), (9, .int x9), (11, .int x11), (12, .int x12), (14, .int x14), (16, .int x16), (17, .int x17), (18, .int x18), (19, .int x19), (20, .int x20), (21, .int x21), (23, .int x23)]) (hf : m_L_shift_783 r0 x1 x2 r3 r5 r6 x9 x11 x12 x14 x16 x17 x18 x19 x20 x21 x23 Q t0 t1 σ) : W p l e R s m args below meth c H locs cells slots QW (F0 m 783 ls [.int t0, .int t1]) := by
  have hx := S.1.1
  have hb := S.1.2.1
  unfold m_L_shift_783 at hf
  refine lv_icmp_ne (tgt := 832) hx hb d_L_shift_783 (by decide) (fun hc => ?_) (fun hc => ?_)
  · have hf := hf.1 hc
    refine lv_iconst (v := (0 : Int32)) hx hb d_L_shift_832 (by decide) ?_
    exact w_L_shift_833 S hR h4 hk_r0 hk_r3 hk_r5 hk_r6    hG (lv_sub hl [0, 1, 2, 3, 4, 5, 8, 10, 11, 12, 13, 14, 16] rfl) hf
  · have hf := hf.2 hc
    refine lv_aload_n hx hb d_L_shift_786 rfl (lv_at hl 0 rfl) ?_
    refine lv_iconst (v := (4 : Int32)) hx hb d_L_shift_787 (by decide) ?_
    refine iv_L_44 S hl.1 hG hk_r0 (c_9_count l hk_r0 hf) ⟨Nat.le_of_ble_eq_true rfl, Nat.le_of_ble_eq_true rfl⟩ (Nat.le_of_ble_eq_true rfl) d_L_shift_788 (fun v_2 σ_1 hf H locs hG => ?_)
    refine lv_iload hx hb d_L_shift_791 (lv_at hl 6 rfl) ?_
    refine lv_icmp_ne (tgt := 832) hx hb d_L_shift_793 (by decide) (fun hc => ?_) (fun hc => ?_)
    · have hf := hf.1 hc
      refine lv_iconst (v := (0 : Int32)) hx hb d_L_shift_832 (by decide) ?_
      exact w_L_shift_833 S hR h4 hk_r0 hk_r3 hk_r5 hk_r6    hG (lv_sub hl [0, 1, 2, 3, 4, 5, 8, 10, 11, 12, 13, 14, 16] rfl) hf
    · have hf := hf.2 hc
      refine lv_aload_n hx hb d_L_shift_796 rfl (lv_at hl 0 rfl) ?_
      refine lv_bipush (v := (6 : Int32)) hx hb d_L_shift_797 (by decide) ?_
      refine iv_L_44 S hl.1 hG hk_r0 (c_9_count l hk_r0 hf) ⟨Nat.le_of_ble_eq_true rfl, Nat.le_of_ble_eq_true rfl⟩ (Nat.le_of_ble_eq_true rfl) d_L_shift_799 (fun v_4 σ_3 hf H locs hG => ?_)
      refine lv_iload hx hb d_L_shift_802 (lv_at hl 7 rfl) ?_
      refine lv_iload hx hb d_L_shift_804 (lv_at hl 15 rfl) ?_
      refine lv_if_eq (tgt := 813) hx hb d_L_shift_806 (by decide) (fun hc => ?_) (fun hc => ?_)
      · have hf := hf.1 hc
        refine lv_iconst (v := (0 : Int32)) hx hb d_L_shift_813 (by decide) ?_
        exact w_L_shift_814 S hR h4 hk_r0 hk_r3 hk_r5 hk_r6    hG (lv_sub hl [0, 1, 2, 3, 4, 5, 8, 9, 10, 11, 12, 13, 14, 16] rfl) hf
      · have hf := hf.2 hc
        refine lv_iconst (v := (1 : Int32)) hx hb d_L_shift_809 (by decide) ?_
        refine lv_goto (tgt := 814) hx hb d_L_shift_810 (by decide) ?_
        exact w_L_shift_814 S hR h4 hk_r0 hk_r3 hk_r5 hk_r6    hG (lv_sub hl [0, 1, 2, 3, 4, 5, 8, 9, 10, 11, 12, 13, 14, 16] rfl) hf
set_option maxHeartbeats 4000000 in
set_option maxRecDepth 100000 in
theorem w_L_shift_724 {r0 : Nat} {x1 : Int32} {x2 : Int32} {r3 : Nat} {r5 : Nat} {r6 : Nat} {x7 : Int32} {x8 : Int32} {x9 : Int32} {x11 : Int32} {x12 : Int32} {x14 : Int32} {x16 : Int32} {x17 : Int32} {x18 : Int32} {x19 : Int32} {x20 : Int32} {Q : Int32 → St → Prop} {t0 : Int32} {σ : St} {H : Heap} {locs : List Loc} {ls : Array Slot} (S : SC A D ac st p m c method_6_code 30 s args "SweeperRoundsLaw" R cells slots 6 142) (hR : RtZ A D ac ad p l e R s m args below meth c method_6_code cells slots QW Q) (h4 : ad 999 = 4) (hk_r0 : kd r0 = 9) (hk_r3 : kd r3 = 30) (hk_r5 : kd r5 = 32) (hk_r6 : kd r6 = 33) (hG : DG A D ac ad s σ H locs) (hl : lv_has ls 30 [(0, .ref (ad r0)), (1, .int x1), (2, .int x2), (3, .ref (ad r3)), (5, .ref (ad r5)), (6, .ref (ad r6)), (7, .int x7), (8, .int x8), (9, .int x9), (11, .int x11), (12, .int x12), (14, .int x14), (16, .int x16), (17, .int x17), (18, .int x18), (19, .int x19), (20, .int x20)]) (hf : m_L_shift_724 r0 x1 x2 r3 r5 r6 x7 x8 x9 x11 x12 x14 x16 x17 x18 x19 x20 Q t0 σ) : W p l e R s m args below meth c H locs cells slots QW (F0 m 724 ls [.int t0]) := by
  have hx := S.1.1
  have hb := S.1.2.1
  unfold m_L_shift_724 at hf
  refine lv_istore (lv' := [(21, .int t0), (0, .ref (ad r0)), (1, .int x1), (2, .int x2), (3, .ref (ad r3)), (5, .ref (ad r5)), (6, .ref (ad r6)), (7, .int x7), (8, .int x8), (9, .int x9), (11, .int x11), (12, .int x12), (14, .int x14), (16, .int x16), (17, .int x17), (18, .int x18), (19, .int x19), (20, .int x20)]) hx hb d_L_shift_724 hl (by decide) rfl (fun ls hl => ?_)
  refine lv_aload_n hx hb d_L_shift_726 rfl (lv_at hl 1 rfl) ?_
  refine lv_iload hx hb d_L_shift_727 (lv_at hl 7 rfl) ?_
  refine iv_L_55 S hl.1 hG hk_r0 (c_9_ifSpeed l hk_r0 hf) ⟨Nat.le_of_ble_eq_true rfl, Nat.le_of_ble_eq_true rfl⟩ (Nat.le_of_ble_eq_true rfl) d_L_shift_729 (fun v_2 σ_1 hf H locs hG => ?_)
  refine lv_istore (lv' := [(22, .int v_2), (21, .int t0), (0, .ref (ad r0)), (1, .int x1), (2, .int x2), (3, .ref (ad r3)), (5, .ref (ad r5)), (6, .ref (ad r6)), (7, .int x7), (8, .int x8), (9, .int x9), (11, .int x11), (12, .int x12), (14, .int x14), (16, .int x16), (17, .int x17), (18, .int x18), (19, .int x19), (20, .int x20)]) hx hb d_L_shift_732 hl (by decide) rfl (fun ls hl => ?_)
  refine lv_aload_n hx hb d_L_shift_734 rfl (lv_at hl 2 rfl) ?_
  refine lv_bipush (v := (7 : Int32)) hx hb d_L_shift_735 (by decide) ?_
  refine iv_L_44 S hl.1 hG hk_r0 (c_9_count l hk_r0 hf) ⟨Nat.le_of_ble_eq_true rfl, Nat.le_of_ble_eq_true rfl⟩ (Nat.le_of_ble_eq_true rfl) d_L_shift_737 (fun v_4 σ_3 hf H locs hG => ?_)
  refine lv_istore (lv' := [(23, .int v_4), (22, .int v_2), (21, .int t0), (0, .ref (ad r0)), (1, .int x1), (2, .int x2), (3, .ref (ad r3)), (5, .ref (ad r5)), (6, .ref (ad r6)), (7, .int x7), (8, .int x8), (9, .int x9), (11, .int x11), (12, .int x12), (14, .int x14), (16, .int x16), (17, .int x17), (18, .int x18), (19, .int x19), (20, .int x20)]) hx hb d_L_shift_740 hl (by decide) rfl (fun ls hl => ?_)
  refine lv_aload_n hx hb d_L_shift_742 rfl (lv_at hl 3 rfl) ?_
  refine iv_L_58 S hl.1 hG hk_r0 (c_9_shift l hk_r0 hf) ⟨Nat.le_of_ble_eq_true rfl, Nat.le_of_ble_eq_true rfl⟩ (Nat.le_of_ble_eq_true rfl) d_L_shift_743 (fun v_6 σ_5 hf H locs hG => ?_)
  refine lv_iload hx hb d_L_shift_746 (lv_at hl 17 rfl) ?_
  refine lv_icmp_ne (tgt := 763) hx hb d_L_shift_748 (by decide) (fun hc => ?_) (fun hc => ?_)
  · have hf := hf.1 hc
    refine lv_iconst (v := (0 : Int32)) hx hb d_L_shift_763 (by decide) ?_
    exact hR _ _ _ _ _ _ hG (by unfold isB; decide) hf d_L_shift_764
  · have hf := hf.2 hc
    refine lv_iload hx hb d_L_shift_751 (lv_at hl 1 rfl) ?_
    refine lv_iload hx hb d_L_shift_753 (lv_at hl 17 rfl) ?_
    refine lv_icmp_ne (tgt := 763) hx hb d_L_shift_755 (by decide) (fun hc => ?_) (fun hc => ?_)
    · have hf := hf.1 hc
      refine lv_iconst (v := (0 : Int32)) hx hb d_L_shift_763 (by decide) ?_
      exact hR _ _ _ _ _ _ hG (by unfold isB; decide) hf d_L_shift_764
    · have hf := hf.2 hc
      refine lv_iload hx hb d_L_shift_758 (lv_at hl 13 rfl) ?_
      refine lv_if_ge (tgt := 765) hx hb d_L_shift_760 (by decide) (fun hc => ?_) (fun hc => ?_)
      · have hf := hf.1 hc
        refine lv_aload_n hx hb d_L_shift_765 rfl (lv_at hl 3 rfl) ?_
        refine lv_iconst (v := (3 : Int32)) hx hb d_L_shift_766 (by decide) ?_
        refine iv_L_44 S hl.1 hG hk_r0 (c_9_count l hk_r0 hf) ⟨Nat.le_of_ble_eq_true rfl, Nat.le_of_ble_eq_true rfl⟩ (Nat.le_of_ble_eq_true rfl) d_L_shift_767 (fun v_8 σ_7 hf H locs hG => ?_)
        refine lv_iload hx hb d_L_shift_770 (lv_at hl 2 rfl) ?_
        refine lv_if_eq (tgt := 781) hx hb d_L_shift_772 (by decide) (fun hc => ?_) (fun hc => ?_)
        · have hf := hf.1 hc
          refine lv_iload hx hb d_L_shift_781 (lv_at hl 10 rfl) ?_
          exact w_L_shift_783 S hR h4 hk_r0 hk_r3 hk_r5 hk_r6    hG (lv_sub hl [3, 4, 5, 6, 7, 8, 11, 12, 13, 14, 15, 16, 17, 18, 19, 2, 0] rfl) hf
        · have hf := hf.2 hc
          refine lv_sipush (v := (1000 : Int32)) hx hb d_L_shift_775 (by decide) ?_
          refine lv_goto (tgt := 783) hx hb d_L_shift_778 (by decide) ?_
          exact w_L_shift_783 S hR h4 hk_r0 hk_r3 hk_r5 hk_r6    hG (lv_sub hl [3, 4, 5, 6, 7, 8, 11, 12, 13, 14, 15, 16, 17, 18, 19, 2, 0] rfl) hf
      · have hf := hf.2 hc
        refine lv_iconst (v := (0 : Int32)) hx hb d_L_shift_763 (by decide) ?_
        exact hR _ _ _ _ _ _ hG (by unfold isB; decide) hf d_L_shift_764
set_option maxHeartbeats 4000000 in
set_option maxRecDepth 100000 in
theorem w_L_shift_707 {r0 : Nat} {x1 : Int32} {x2 : Int32} {r3 : Nat} {r5 : Nat} {r6 : Nat} {x7 : Int32} {x8 : Int32} {x9 : Int32} {x11 : Int32} {x12 : Int32} {x13 : Int32} {x14 : Int32} {x16 : Int32} {x17 : Int32} {x18 : Int32} {x19 : Int32} {x20 : Int32} {Q : Int32 → St → Prop} {σ : St} {H : Heap} {locs : List Loc} {ls : Array Slot} (S : SC A D ac st p m c method_6_code 30 s args "SweeperRoundsLaw" R cells slots 6 142) (hR : RtZ A D ac ad p l e R s m args below meth c method_6_code cells slots QW Q) (h4 : ad 999 = 4) (hk_r0 : kd r0 = 9) (hk_r3 : kd r3 = 30) (hk_r5 : kd r5 = 32) (hk_r6 : kd r6 = 33) (hG : DG A D ac ad s σ H locs) (hl : lv_has ls 30 [(0, .ref (ad r0)), (1, .int x1), (2, .int x2), (3, .ref (ad r3)), (5, .ref (ad r5)), (6, .ref (ad r6)), (7, .int x7), (8, .int x8), (9, .int x9), (11, .int x11), (12, .int x12), (13, .int x13), (14, .int x14), (16, .int x16), (17, .int x17), (18, .int x18), (19, .int x19), (20, .int x20)]) (hf : m_L_shift_707 r0 x1 x2 r3 r5 r6 x7 x8 x9 x11 x12 x13 x14 x16 x17 x18 x19 x20 Q σ) : W p l e R s m args below meth c H locs cells slots QW (F0 m 707 ls []) := by
  have hx := S.1.1
  have hb := S.1.2.1
  unfold m_L_shift_707 at hf
  refine lv_iload hx hb d_L_shift_707 (lv_at hl 7 rfl) ?_
  refine lv_iload hx hb d_L_shift_709 (lv_at hl 11 rfl) ?_
  refine lv_icmp_ge (tgt := 723) hx hb d_L_shift_711 (by decide) (fun hc => ?_) (fun hc => ?_)
  · have hf := hf.1 hc
    refine lv_iconst (v := (0 : Int32)) hx hb d_L_shift_723 (by decide) ?_
    exact w_L_shift_724 S hR h4 hk_r0 hk_r3 hk_r5 hk_r6    hG (lv_sub hl [0, 1, 2, 3, 4, 5, 6, 7, 8, 9, 10, 12, 13, 14, 15, 16, 17] rfl) hf
  · have hf := hf.2 hc
    refine lv_iload hx hb d_L_shift_714 (lv_at hl 9 rfl) ?_
    refine lv_if_le (tgt := 723) hx hb d_L_shift_716 (by decide) (fun hc => ?_) (fun hc => ?_)
    · have hf := hf.1 hc
      refine lv_iconst (v := (0 : Int32)) hx hb d_L_shift_723 (by decide) ?_
      exact w_L_shift_724 S hR h4 hk_r0 hk_r3 hk_r5 hk_r6    hG (lv_sub hl [0, 1, 2, 3, 4, 5, 6, 7, 8, 9, 10, 12, 13, 14, 15, 16, 17] rfl) hf
    · have hf := hf.2 hc
      refine lv_iconst (v := (1 : Int32)) hx hb d_L_shift_719 (by decide) ?_
      refine lv_goto (tgt := 724) hx hb d_L_shift_720 (by decide) ?_
      exact w_L_shift_724 S hR h4 hk_r0 hk_r3 hk_r5 hk_r6    hG (lv_sub hl [0, 1, 2, 3, 4, 5, 6, 7, 8, 9, 10, 12, 13, 14, 15, 16, 17] rfl) hf
set_option maxHeartbeats 4000000 in
set_option maxRecDepth 100000 in
theorem w_L_shift_685 {r0 : Nat} {x1 : Int32} {x2 : Int32} {r3 : Nat} {r5 : Nat} {r6 : Nat} {x7 : Int32} {x8 : Int32} {x9 : Int32} {x10 : Int32} {x11 : Int32} {x13 : Int32} {x14 : Int32} {x16 : Int32} {x17 : Int32} {x18 : Int32} {x19 : Int32} {x20 : Int32} {Q : Int32 → St → Prop} {t0 : Int32} {t1 : Int32} {σ : St} {H : Heap} {locs : List Loc} {ls : Array Slot} (S : SC A D ac st p m c method_6_code 30 s args "SweeperRoundsLaw" R cells slots 6 142) (hR : RtZ A D ac ad p l e R s m args below meth c method_6_code cells slots QW Q) (h4 : ad 999 = 4) (hk_r0 : kd r0 = 9) (hk_r3 : kd r3 = 30) (hk_r5 : kd r5 = 32) (hk_r6 : kd r6 = 33) (hG : DG A D ac ad s σ H locs) (hl : lv_has ls 30 [(0, .ref (ad r0)), (1, .int x1), (2, .int x2), (3, .ref (ad r3)), (5, .ref (ad r5)), (6, .ref (ad r6)), (7, .int x7), (8, .int x8), (9, .int x9), (10, .int x10), (11, .int x11), (13, .int x13), (14, .int x14), (16, .int x16), (17, .int x17), (18, .int x18), (19, .int x19), (20, .int x20)]) (hf : m_L_shift_685 r0 x1 x2 r3 r5 r6 x7 x8 x9 x10 x11 x13 x14 x16 x17 x18 x19 x20 Q t0 t1 σ) : W p l e R s m args below meth c H locs cells slots QW (F0 m 685 ls [.int t0, .int t1]) := by
  have hx := S.1.1
  have hb := S.1.2.1
  unfold m_L_shift_685 at hf
  refine lv_isub hx hb d_L_shift_685 ?_
  refine lv_topi (fun x12_1 ex12_1 => ?_)
  have hf := hf x12_1 ex12_1
  refine lv_istore (lv' := [(12, .int x12_1), (0, .ref (ad r0)), (1, .int x1), (2, .int x2), (3, .ref (ad r3)), (5, .ref (ad r5)), (6, .ref (ad r6)), (7, .int x7), (8, .int x8), (9, .int x9), (10, .int x10), (11, .int x11), (13, .int x13), (14, .int x14), (16, .int x16), (17, .int x17), (18, .int x18), (19, .int x19), (20, .int x20)]) hx hb d_L_shift_686 hl (by decide) rfl (fun ls hl => ?_)
  refine lv_iconst (v := (2 : Int32)) hx hb d_L_shift_688 (by decide) ?_
  refine lv_iload hx hb d_L_shift_689 (lv_at hl 9 rfl) ?_
  refine lv_imul hx hb d_L_shift_691 ?_
  refine lv_iload hx hb d_L_shift_692 (lv_at hl 10 rfl) ?_
  refine lv_icmp_lt (tgt := 707) hx hb d_L_shift_694 (by decide) (fun hc => ?_) (fun hc => ?_)
  · have hf := hf.1 hc
    exact w_L_shift_707 S hR h4 hk_r0 hk_r3 hk_r5 hk_r6    hG (lv_sub hl [1, 2, 3, 4, 5, 6, 7, 8, 9, 11, 0, 12, 13, 14, 15, 16, 17, 18] rfl) hf
  · have hf := hf.2 hc
    refine lv_iload hx hb d_L_shift_697 (lv_at hl 13 rfl) ?_
    refine lv_iload hx hb d_L_shift_699 (lv_at hl 9 rfl) ?_
    refine lv_iadd hx hb d_L_shift_701 ?_
    refine lv_topi (fun x14_2 ex14_2 => ?_)
    have hf := hf x14_2 ex14_2
    refine lv_istore (lv' := [(14, .int x14_2), (12, .int x12_1), (0, .ref (ad r0)), (1, .int x1), (2, .int x2), (3, .ref (ad r3)), (5, .ref (ad r5)), (6, .ref (ad r6)), (7, .int x7), (8, .int x8), (9, .int x9), (10, .int x10), (11, .int x11), (13, .int x13), (16, .int x16), (17, .int x17), (18, .int x18), (19, .int x19), (20, .int x20)]) hx hb d_L_shift_702 hl (by decide) rfl (fun ls hl => ?_)
    refine lv_iconst (v := (0 : Int32)) hx hb d_L_shift_704 (by decide) ?_
    refine lv_istore (lv' := [(9, .int (0 : Int32)), (14, .int x14_2), (12, .int x12_1), (0, .ref (ad r0)), (1, .int x1), (2, .int x2), (3, .ref (ad r3)), (5, .ref (ad r5)), (6, .ref (ad r6)), (7, .int x7), (8, .int x8), (10, .int x10), (11, .int x11), (13, .int x13), (16, .int x16), (17, .int x17), (18, .int x18), (19, .int x19), (20, .int x20)]) hx hb d_L_shift_705 hl (by decide) rfl (fun ls hl => ?_)
    exact w_L_shift_707 S hR h4 hk_r0 hk_r3 hk_r5 hk_r6    hG (lv_sub hl [3, 4, 5, 6, 7, 8, 9, 10, 0, 12, 2, 13, 1, 14, 15, 16, 17, 18] rfl) hf
set_option maxHeartbeats 4000000 in
set_option maxRecDepth 100000 in
theorem w_L_shift_664 {r0 : Nat} {x1 : Int32} {x2 : Int32} {r3 : Nat} {r5 : Nat} {r6 : Nat} {x7 : Int32} {x8 : Int32} {x9 : Int32} {x10 : Int32} {x11 : Int32} {x12 : Int32} {x13 : Int32} {x14 : Int32} {x15 : Int32} {x16 : Int32} {x17 : Int32} {x18 : Int32} {x19 : Int32} {x20 : Int32} {Q : Int32 → St → Prop} {σ : St} {H : Heap} {locs : List Loc} {ls : Array Slot} (S : SC A D ac st p m c method_6_code 30 s args "SweeperRoundsLaw" R cells slots 6 142) (hR : RtZ A D ac ad p l e R s m args below meth c method_6_code cells slots QW Q) (h4 : ad 999 = 4) (hk_r0 : kd r0 = 9) (hk_r3 : kd r3 = 30) (hk_r5 : kd r5 = 32) (hk_r6 : kd r6 = 33) (hG : DG A D ac ad s σ H locs) (hl : lv_has ls 30 [(0, .ref (ad r0)), (1, .int x1), (2, .int x2), (3, .ref (ad r3)), (5, .ref (ad r5)), (6, .ref (ad r6)), (7, .int x7), (8, .int x8), (9, .int x9), (10, .int x10), (11, .int x11), (12, .int x12), (13, .int x13), (14, .int x14), (15, .int x15), (16, .int x16), (17, .int x17), (18, .int x18), (19, .int x19), (20, .int x20)]) (hf : m_L_shift_664 r0 x1 x2 r3 r5 r6 x7 x8 x9 x10 x11 x12 x13 x14 x15 x16 x17 x18 x19 x20 Q σ) : W p l e R s m args below meth c H locs cells slots QW (F0 m 664 ls []) := by
  have hx := S.1.1
  have hb := S.1.2.1
  unfold m_L_shift_664 at hf
  refine lv_iload hx hb d_L_shift_664 (lv_at hl 11 rfl) ?_
  refine lv_iload hx hb d_L_shift_666 (lv_at hl 14 rfl) ?_
  refine lv_if_ge (tgt := 675) hx hb d_L_shift_668 (by decide) (fun hc => ?_) (fun hc => ?_)
  · have hf := hf.1 hc
    refine lv_bipush (v := (10 : Int32)) hx hb d_L_shift_675 (by decide) ?_
    refine lv_aload_n hx hb d_L_shift_677 rfl (lv_at hl 0 rfl) ?_
    refine lv_iload hx hb d_L_shift_678 (lv_at hl 14 rfl) ?_
    refine lv_iconst (v := (1 : Int32)) hx hb d_L_shift_680 (by decide) ?_
    refine iv_L_47 S hl.1 hG hk_r0 (c_9_street l hk_r0 hf) ⟨Nat.le_of_ble_eq_true rfl, Nat.le_of_ble_eq_true rfl⟩ (Nat.le_of_ble_eq_true rfl) d_L_shift_681 (fun v_2 σ_1 hf H locs hG => ?_)
    refine lv_imul hx hb d_L_shift_684 ?_
    exact w_L_shift_685 S hR h4 hk_r0 hk_r3 hk_r5 hk_r6    hG (lv_sub hl [0, 1, 2, 3, 4, 5, 6, 7, 8, 9, 10, 12, 13, 15, 16, 17, 18, 19] rfl) hf
  · have hf := hf.2 hc
    refine lv_iconst (v := (0 : Int32)) hx hb d_L_shift_671 (by decide) ?_
    refine lv_goto (tgt := 685) hx hb d_L_shift_672 (by decide) ?_
    exact w_L_shift_685 S hR h4 hk_r0 hk_r3 hk_r5 hk_r6    hG (lv_sub hl [0, 1, 2, 3, 4, 5, 6, 7, 8, 9, 10, 12, 13, 15, 16, 17, 18, 19] rfl) hf
set_option maxHeartbeats 4000000 in
set_option maxRecDepth 100000 in
theorem w_L_shift_646 {r0 : Nat} {x1 : Int32} {x2 : Int32} {r3 : Nat} {r4 : Nat} {r5 : Nat} {r6 : Nat} {x7 : Int32} {x8 : Int32} {x9 : Int32} {x10 : Int32} {x11 : Int32} {x12 : Int32} {x13 : Int32} {x14 : Int32} {x15 : Int32} {x16 : Int32} {x17 : Int32} {x18 : Int32} {x19 : Int32} {x20 : Int32} {B225 : Int32 → Int32 → Int32 → Int32 → Int32 → Int32 → Int32 → Int32 → Int32 → Int32 → St → Prop} {Q : Int32 → St → Prop} {σ : St} {H : Heap} {locs : List Loc} {ls : Array Slot} (S : SC A D ac st p m c method_6_code 30 s args "SweeperRoundsLaw" R cells slots 6 142) (hR : RtZ A D ac ad p l e R s m args below meth c method_6_code cells slots QW Q) (h4 : ad 999 = 4) (hk_r0 : kd r0 = 9) (hk_r3 : kd r3 = 30) (hk_r4 : kd r4 = 31) (hk_r5 : kd r5 = 32) (hk_r6 : kd r6 = 33) (hB225 : ∀ (x8 : Int32) (x9 : Int32) (x12 : Int32) (x14 : Int32) (x15 : Int32) (x16 : Int32) (x17 : Int32) (x18 : Int32) (x19 : Int32) (x20 : Int32) (σ : St) (H : Heap) (locs : List Loc) (ls : Array Slot), DG A D ac ad s σ H locs → lv_has ls 30 [(0, .ref (ad r0)), (1, .int x1), (2, .int x2), (3, .ref (ad r3)), (4, .ref (ad r4)), (5, .ref (ad r5)), (6, .ref (ad r6)), (7, .int x7), (8, .int x8), (9, .int x9), (10, .int x10), (11, .int x11), (12, .int x12), (13, .int x13), (14, .int x14), (15, .int x15), (16, .int x16), (17, .int x17), (18, .int x18), (19, .int x19), (20, .int x20)] → B225 x8 x9 x12 x14 x15 x16 x17 x18 x19 x20 σ → W p l e R s m args below meth c H locs cells slots QW (F0 m 225 ls [])) (hG : DG A D ac ad s σ H locs) (hl : lv_has ls 30 [(0, .ref (ad r0)), (1, .int x1), (2, .int x2), (3, .ref (ad r3)), (4, .ref (ad r4)), (5, .ref (ad r5)), (6, .ref (ad r6)), (7, .int x7), (8, .int x8), (9, .int x9), (10, .int x10), (11, .int x11), (12, .int x12), (13, .int x13), (14, .int x14), (15, .int x15), (16, .int x16), (17, .int x17), (18, .int x18), (19, .int x19), (20, .int x20)]) (hf : m_L_shift_646 r0 x1 x2 r3 r4 r5 r6 x7 x8 x9 x10 x11 x12 x13 x14 x15 x16 x17 x18 x19 x20 B225 Q σ) : W p l e R s m args below meth c H locs cells slots QW (F0 m 646 ls []) := by
  have hx := S.1.1
  have hb := S.1.2.1
  unfold m_L_shift_646 at hf
  refine lv_iload hx hb d_L_shift_646 (lv_at hl 20 rfl) ?_
  refine lv_iload hx hb d_L_shift_648 (lv_at hl 16 rfl) ?_
  refine lv_if_ne (tgt := 657) hx hb d_L_shift_650 (by decide) (fun hc => ?_) (fun hc => ?_)
  · have hf := hf.1 hc
    refine lv_iconst (v := (0 : Int32)) hx hb d_L_shift_657 (by decide) ?_
    refine lv_iadd hx hb d_L_shift_658 ?_
    refine lv_topi (fun x20_1 ex20_1 => ?_)
    have hf := hf x20_1 ex20_1
    refine lv_istore (lv' := [(20, .int x20_1), (0, .ref (ad r0)), (1, .int x1), (2, .int x2), (3, .ref (ad r3)), (4, .ref (ad r4)), (5, .ref (ad r5)), (6, .ref (ad r6)), (7, .int x7), (8, .int x8), (9, .int x9), (10, .int x10), (11, .int x11), (12, .int x12), (13, .int x13), (14, .int x14), (15, .int x15), (16, .int x16), (17, .int x17), (18, .int x18), (19, .int x19)]) hx hb d_L_shift_659 hl (by decide) rfl (fun ls hl => ?_)
    refine lv_goto (tgt := 225) hx hb d_L_shift_661 (by decide) ?_
    exact hB225 _ _ _ _ _ _ _ _ _ _ _ _ _ _   hG (lv_sub hl [1, 2, 3, 4, 5, 6, 7, 8, 9, 10, 11, 12, 13, 14, 15, 16, 17, 18, 19, 20, 0] rfl) hf
  · have hf := hf.2 hc
    refine lv_iconst (v := (1 : Int32)) hx hb d_L_shift_653 (by decide) ?_
    refine lv_goto (tgt := 658) hx hb d_L_shift_654 (by decide) ?_
    refine lv_iadd hx hb d_L_shift_658 ?_
    refine lv_topi (fun x20_2 ex20_2 => ?_)
    have hf := hf x20_2 ex20_2
    refine lv_istore (lv' := [(20, .int x20_2), (0, .ref (ad r0)), (1, .int x1), (2, .int x2), (3, .ref (ad r3)), (4, .ref (ad r4)), (5, .ref (ad r5)), (6, .ref (ad r6)), (7, .int x7), (8, .int x8), (9, .int x9), (10, .int x10), (11, .int x11), (12, .int x12), (13, .int x13), (14, .int x14), (15, .int x15), (16, .int x16), (17, .int x17), (18, .int x18), (19, .int x19)]) hx hb d_L_shift_659 hl (by decide) rfl (fun ls hl => ?_)
    refine lv_goto (tgt := 225) hx hb d_L_shift_661 (by decide) ?_
    exact hB225 _ _ _ _ _ _ _ _ _ _ _ _ _ _   hG (lv_sub hl [1, 2, 3, 4, 5, 6, 7, 8, 9, 10, 11, 12, 13, 14, 15, 16, 17, 18, 19, 20, 0] rfl) hf
set_option maxHeartbeats 4000000 in
set_option maxRecDepth 100000 in
theorem w_L_shift_600 {r0 : Nat} {x1 : Int32} {x2 : Int32} {r3 : Nat} {r4 : Nat} {r5 : Nat} {r6 : Nat} {x7 : Int32} {x8 : Int32} {x9 : Int32} {x10 : Int32} {x11 : Int32} {x12 : Int32} {x13 : Int32} {x14 : Int32} {x15 : Int32} {x16 : Int32} {x17 : Int32} {x18 : Int32} {x19 : Int32} {x20 : Int32} {x21 : Int32} {x22 : Int32} {x25 : Int32} {B225 : Int32 → Int32 → Int32 → Int32 → Int32 → Int32 → Int32 → Int32 → Int32 → Int32 → St → Prop} {B361 : Int32 → Int32 → Int32 → Int32 → Int32 → Int32 → Int32 → Int32 → St → Prop} {Q : Int32 → St → Prop} {σ : St} {H : Heap} {locs : List Loc} {ls : Array Slot} (S : SC A D ac st p m c method_6_code 30 s args "SweeperRoundsLaw" R cells slots 6 142) (hR : RtZ A D ac ad p l e R s m args below meth c method_6_code cells slots QW Q) (h4 : ad 999 = 4) (hk_r0 : kd r0 = 9) (hk_r3 : kd r3 = 30) (hk_r4 : kd r4 = 31) (hk_r5 : kd r5 = 32) (hk_r6 : kd r6 = 33) (hB225 : ∀ (x8 : Int32) (x9 : Int32) (x12 : Int32) (x14 : Int32) (x15 : Int32) (x16 : Int32) (x17 : Int32) (x18 : Int32) (x19 : Int32) (x20 : Int32) (σ : St) (H : Heap) (locs : List Loc) (ls : Array Slot), DG A D ac ad s σ H locs → lv_has ls 30 [(0, .ref (ad r0)), (1, .int x1), (2, .int x2), (3, .ref (ad r3)), (4, .ref (ad r4)), (5, .ref (ad r5)), (6, .ref (ad r6)), (7, .int x7), (8, .int x8), (9, .int x9), (10, .int x10), (11, .int x11), (12, .int x12), (13, .int x13), (14, .int x14), (15, .int x15), (16, .int x16), (17, .int x17), (18, .int x18), (19, .int x19), (20, .int x20)] → B225 x8 x9 x12 x14 x15 x16 x17 x18 x19 x20 σ → W p l e R s m args below meth c H locs cells slots QW (F0 m 225 ls [])) (hB361 : ∀ (x8 : Int32) (x9 : Int32) (x12 : Int32) (x14 : Int32) (x16 : Int32) (x17 : Int32) (x18 : Int32) (x19 : Int32) (σ : St) (H : Heap) (locs : List Loc) (ls : Array Slot), DG A D ac ad s σ H locs → lv_has ls 30 [(0, .ref (ad r0)), (1, .int x1), (2, .int x2), (3, .ref (ad r3)), (4, .ref (ad r4)), (5, .ref (ad r5)), (6, .ref (ad r6)), (7, .int x7), (8, .int x8), (9, .int x9), (10, .int x10), (11, .int x11), (12, .int x12), (13, .int x13), (14, .int x14), (15, .int x15), (16, .int x16), (17, .int x17), (18, .int x18), (19, .int x19), (20, .int x20), (21, .int x21), (22, .int x22), (25, .int x25)] → B361 x8 x9 x12 x14 x16 x17 x18 x19 σ → W p l e R s m args below meth c H locs cells slots QW (F0 m 361 ls [])) (hG : DG A D ac ad s σ H locs) (hl : lv_has ls 30 [(0, .ref (ad r0)), (1, .int x1), (2, .int x2), (3, .ref (ad r3)), (4, .ref (ad r4)), (5, .ref (ad r5)), (6, .ref (ad r6)), (7, .int x7), (8, .int x8), (9, .int x9), (10, .int x10), (11, .int x11), (12, .int x12), (13, .int x13), (14, .int x14), (15, .int x15), (16, .int x16), (17, .int x17), (18, .int x18), (19, .int x19), (20, .int x20), (21, .int x21), (22, .int x22), (25, .int x25)]) (hf : m_L_shift_600 r0 x1 x2 r3 r4 r5 r6 x7 x8 x9 x10 x11 x12 x13 x14 x15 x16 x17 x18 x19 x20 x21 x22 x25 B225 B361 Q σ) : W p l e R s m args below meth c H locs cells slots QW (F0 m 600 ls []) := by
  have hx := S.1.1
  have hb := S.1.2.1
  unfold m_L_shift_600 at hf
  refine lv_iconst (v := (3 : Int32)) hx hb d_L_shift_600 (by decide) ?_
  refine lv_iload hx hb d_L_shift_601 (lv_at hl 22 rfl) ?_
  refine lv_imul hx hb d_L_shift_603 ?_
  refine lv_bipush (v := (100 : Int32)) hx hb d_L_shift_604 (by decide) ?_
  refine lv_iadd hx hb d_L_shift_606 ?_
  refine lv_iload hx hb d_L_shift_607 (lv_at hl 12 rfl) ?_
  refine lv_icmp_le (tgt := 618) hx hb d_L_shift_609 (by decide) (fun hc => ?_) (fun hc => ?_)
  · have hf := hf.1 hc
    refine lv_iload hx hb d_L_shift_618 (lv_at hl 12 rfl) ?_
    refine lv_iconst (v := (2 : Int32)) hx hb d_L_shift_620 (by decide) ?_
    refine lv_iload hx hb d_L_shift_621 (lv_at hl 22 rfl) ?_
    refine lv_imul hx hb d_L_shift_623 ?_
    refine lv_bipush (v := (100 : Int32)) hx hb d_L_shift_624 (by decide) ?_
    refine lv_iadd hx hb d_L_shift_626 ?_
    refine lv_isub hx hb d_L_shift_627 ?_
    refine lv_topi (fun x12_1 ex12_1 => ?_)
    have hf := hf x12_1 ex12_1
    refine lv_istore (lv' := [(12, .int x12_1), (0, .ref (ad r0)), (1, .int x1), (2, .int x2), (3, .ref (ad r3)), (4, .ref (ad r4)), (5, .ref (ad r5)), (6, .ref (ad r6)), (7, .int x7), (8, .int x8), (9, .int x9), (10, .int x10), (11, .int x11), (13, .int x13), (14, .int x14), (15, .int x15), (16, .int x16), (17, .int x17), (18, .int x18), (19, .int x19), (20, .int x20), (21, .int x21), (22, .int x22), (25, .int x25)]) hx hb d_L_shift_628 hl (by decide) rfl (fun ls hl => ?_)
    refine lv_iload hx hb d_L_shift_630 (lv_at hl 14 rfl) ?_
    refine lv_iload hx hb d_L_shift_632 (lv_at hl 10 rfl) ?_
    refine lv_iadd hx hb d_L_shift_634 ?_
    refine lv_topi (fun x14_2 ex14_2 => ?_)
    have hf := hf x14_2 ex14_2
    refine lv_istore (lv' := [(14, .int x14_2), (12, .int x12_1), (0, .ref (ad r0)), (1, .int x1), (2, .int x2), (3, .ref (ad r3)), (4, .ref (ad r4)), (5, .ref (ad r5)), (6, .ref (ad r6)), (7, .int x7), (8, .int x8), (9, .int x9), (10, .int x10), (11, .int x11), (13, .int x13), (15, .int x15), (16, .int x16), (17, .int x17), (18, .int x18), (19, .int x19), (20, .int x20), (21, .int x21), (22, .int x22), (25, .int x25)]) hx hb d_L_shift_635 hl (by decide) rfl (fun ls hl => ?_)
    refine lv_iconst (v := (0 : Int32)) hx hb d_L_shift_637 (by decide) ?_
    refine lv_istore (lv' := [(9, .int (0 : Int32)), (14, .int x14_2), (12, .int x12_1), (0, .ref (ad r0)), (1, .int x1), (2, .int x2), (3, .ref (ad r3)), (4, .ref (ad r4)), (5, .ref (ad r5)), (6, .ref (ad r6)), (7, .int x7), (8, .int x8), (10, .int x10), (11, .int x11), (13, .int x13), (15, .int x15), (16, .int x16), (17, .int x17), (18, .int x18), (19, .int x19), (20, .int x20), (21, .int x21), (22, .int x22), (25, .int x25)]) hx hb d_L_shift_638 hl (by decide) rfl (fun ls hl => ?_)
    obtain ⟨x17_3, ex17_3⟩ : ∃ y : Int32, y = x17 + 1 := ⟨_, rfl⟩
    have hf := hf x17_3 ex17_3
    refine lv_iinc (v := x17_3) (lv' := [(17, .int x17_3), (9, .int (0 : Int32)), (14, .int x14_2), (12, .int x12_1), (0, .ref (ad r0)), (1, .int x1), (2, .int x2), (3, .ref (ad r3)), (4, .ref (ad r4)), (5, .ref (ad r5)), (6, .ref (ad r6)), (7, .int x7), (8, .int x8), (10, .int x10), (11, .int x11), (13, .int x13), (15, .int x15), (16, .int x16), (18, .int x18), (19, .int x19), (20, .int x20), (21, .int x21), (22, .int x22), (25, .int x25)]) hx hb d_L_shift_640 hl (k := 17) rfl (by rw [ex17_3]; rfl) (by decide) rfl (fun ls hl => ?_)
    refine lv_goto (tgt := 361) hx hb d_L_shift_643 (by decide) ?_
    exact hB361 _ _ _ _ _ _ _ _ _ _ _ _   hG (lv_sub hl [4, 5, 6, 7, 8, 9, 10, 11, 12, 1, 13, 14, 3, 15, 2, 16, 17, 0, 18, 19, 20, 21, 22, 23] rfl) hf
  · have hf := hf.2 hc
    refine lv_iconst (v := (3 : Int32)) hx hb d_L_shift_612 (by decide) ?_
    refine lv_istore (lv' := [(16, .int (3 : Int32)), (0, .ref (ad r0)), (1, .int x1), (2, .int x2), (3, .ref (ad r3)), (4, .ref (ad r4)), (5, .ref (ad r5)), (6, .ref (ad r6)), (7, .int x7), (8, .int x8), (9, .int x9), (10, .int x10), (11, .int x11), (12, .int x12), (13, .int x13), (14, .int x14), (15, .int x15), (17, .int x17), (18, .int x18), (19, .int x19), (20, .int x20), (21, .int x21), (22, .int x22), (25, .int x25)]) hx hb d_L_shift_613 hl (by decide) rfl (fun ls hl => ?_)
    refine lv_goto (tgt := 643) hx hb d_L_shift_615 (by decide) ?_
    refine lv_goto (tgt := 361) hx hb d_L_shift_643 (by decide) ?_
    exact hB361 _ _ _ _ _ _ _ _ _ _ _ _   hG (lv_sub hl [1, 2, 3, 4, 5, 6, 7, 8, 9, 10, 11, 12, 13, 14, 15, 16, 0, 17, 18, 19, 20, 21, 22, 23] rfl) hf
set_option maxHeartbeats 4000000 in
set_option maxRecDepth 100000 in
theorem w_L_shift_584 {r0 : Nat} {x1 : Int32} {x2 : Int32} {r3 : Nat} {r4 : Nat} {r5 : Nat} {r6 : Nat} {x7 : Int32} {x8 : Int32} {x9 : Int32} {x10 : Int32} {x11 : Int32} {x12 : Int32} {x13 : Int32} {x14 : Int32} {x15 : Int32} {x16 : Int32} {x17 : Int32} {x18 : Int32} {x19 : Int32} {x20 : Int32} {x21 : Int32} {x22 : Int32} {x25 : Int32} {x27 : Int32} {x28 : Int32} {B225 : Int32 → Int32 → Int32 → Int32 → Int32 → Int32 → Int32 → Int32 → Int32 → Int32 → St → Prop} {B361 : Int32 → Int32 → Int32 → Int32 → Int32 → Int32 → Int32 → Int32 → St → Prop} {Q : Int32 → St → Prop} {t0 : Int32} {t1 : Int32} {t2 : Int32} {t3 : Nat} {σ : St} {H : Heap} {locs : List Loc} {ls : Array Slot} (S : SC A D ac st p m c method_6_code 30 s args "SweeperRoundsLaw" R cells slots 6 142) (hR : RtZ A D ac ad p l e R s m args below meth c method_6_code cells slots QW Q) (h4 : ad 999 = 4) (hk_r0 : kd r0 = 9) (hk_r3 : kd r3 = 30) (hk_r4 : kd r4 = 31) (hk_r5 : kd r5 = 32) (hk_r6 : kd r6 = 33) (hk_t3 : kd t3 = 32) (hB225 : ∀ (x8 : Int32) (x9 : Int32) (x12 : Int32) (x14 : Int32) (x15 : Int32) (x16 : Int32) (x17 : Int32) (x18 : Int32) (x19 : Int32) (x20 : Int32) (σ : St) (H : Heap) (locs : List Loc) (ls : Array Slot), DG A D ac ad s σ H locs → lv_has ls 30 [(0, .ref (ad r0)), (1, .int x1), (2, .int x2), (3, .ref (ad r3)), (4, .ref (ad r4)), (5, .ref (ad r5)), (6, .ref (ad r6)), (7, .int x7), (8, .int x8), (9, .int x9), (10, .int x10), (11, .int x11), (12, .int x12), (13, .int x13), (14, .int x14), (15, .int x15), (16, .int x16), (17, .int x17), (18, .int x18), (19, .int x19), (20, .int x20)] → B225 x8 x9 x12 x14 x15 x16 x17 x18 x19 x20 σ → W p l e R s m args below meth c H locs cells slots QW (F0 m 225 ls [])) (hB361 : ∀ (x8 : Int32) (x9 : Int32) (x12 : Int32) (x14 : Int32) (x16 : Int32) (x17 : Int32) (x18 : Int32) (x19 : Int32) (σ : St) (H : Heap) (locs : List Loc) (ls : Array Slot), DG A D ac ad s σ H locs → lv_has ls 30 [(0, .ref (ad r0)), (1, .int x1), (2, .int x2), (3, .ref (ad r3)), (4, .ref (ad r4)), (5, .ref (ad r5)), (6, .ref (ad r6)), (7, .int x7), (8, .int x8), (9, .int x9), (10, .int x10), (11, .int x11), (12, .int x12), (13, .int x13), (14, .int x14), (15, .int x15), (16, .int x16), (17, .int x17), (18, .int x18), (19, .int x19), (20, .int x20), (21, .int x21), (22, .int x22), (25, .int x25)] → B361 x8 x9 x12 x14 x16 x17 x18 x19 σ → W p l e R s m args below meth c H locs cells slots QW (F0 m 361 ls [])) (hG : DG A D ac ad s σ H locs) (hl : lv_has ls 30 [(0, .ref (ad r0)), (1, .int x1), (2, .int x2), (3, .ref (ad r3)), (4, .ref (ad r4)), (5, .ref (ad r5)), (6, .ref (ad r6)), (7, .int x7), (8, .int x8), (9, .int x9), (10, .int x10), (11, .int x11), (12, .int x12), (13, .int x13), (14, .int x14), (15, .int x15), (16, .int x16), (17, .int x17), (18, .int x18), (19, .int x19), (20, .int x20), (21, .int x21), (22, .int x22), (25, .int x25), (27, .int x27), (28, .int x28)]) (hf : m_L_shift_584 r0 x1 x2 r3 r4 r5 r6 x7 x8 x9 x10 x11 x12 x13 x14 x15 x16 x17 x18 x19 x20 x21 x22 x25 x27 x28 B225 B361 Q t0 t1 t2 t3 σ) : W p l e R s m args below meth c H locs cells slots QW (F0 m 584 ls [.int t0, .int t1, .int t2, .ref (ad t3)]) := by
  have hx := S.1.1
  have hb := S.1.2.1
  unfold m_L_shift_584 at hf
  refine lv_iadd hx hb d_L_shift_584 ?_
  refine mls S hG h4 32 rfl hk_t3 hf.1 d_L_shift_585 (fun σ_1 eσ_1 H locs hG => ?_)
  have hf := hf.2 σ_1 eσ_1
  refine lv_iload hx hb d_L_shift_586 (lv_at hl 25 rfl) ?_
  refine lv_iload hx hb d_L_shift_588 (lv_at hl 24 rfl) ?_
  refine lv_icmp_lt (tgt := 600) hx hb d_L_shift_590 (by decide) (fun hc => ?_) (fun hc => ?_)
  · have hf := hf.1 hc
    exact w_L_shift_600 S hR h4 hk_r0 hk_r3 hk_r4 hk_r5 hk_r6   hB225 hB361 hG (lv_sub hl [0, 1, 2, 3, 4, 5, 6, 7, 8, 9, 10, 11, 12, 13, 14, 15, 16, 17, 18, 19, 20, 21, 22, 23] rfl) hf
  · have hf := hf.2 hc
    refine lv_iload hx hb d_L_shift_593 (lv_at hl 9 rfl) ?_
    refine lv_iload hx hb d_L_shift_595 (lv_at hl 10 rfl) ?_
    refine lv_icmp_ne (tgt := 643) hx hb d_L_shift_597 (by decide) (fun hc => ?_) (fun hc => ?_)
    · have hf := hf.1 hc
      refine lv_goto (tgt := 361) hx hb d_L_shift_643 (by decide) ?_
      exact hB361 _ _ _ _ _ _ _ _ _ _ _ _   hG (lv_sub hl [0, 1, 2, 3, 4, 5, 6, 7, 8, 9, 10, 11, 12, 13, 14, 15, 16, 17, 18, 19, 20, 21, 22, 23] rfl) hf
    · have hf := hf.2 hc
      exact w_L_shift_600 S hR h4 hk_r0 hk_r3 hk_r4 hk_r5 hk_r6   hB225 hB361 hG (lv_sub hl [0, 1, 2, 3, 4, 5, 6, 7, 8, 9, 10, 11, 12, 13, 14, 15, 16, 17, 18, 19, 20, 21, 22, 23] rfl) hf
set_option maxHeartbeats 4000000 in
set_option maxRecDepth 100000 in
theorem w_L_shift_550 {r0 : Nat} {x1 : Int32} {x2 : Int32} {r3 : Nat} {r4 : Nat} {r5 : Nat} {r6 : Nat} {x7 : Int32} {x8 : Int32} {x9 : Int32} {x10 : Int32} {x11 : Int32} {x12 : Int32} {x13 : Int32} {x14 : Int32} {x15 : Int32} {x16 : Int32} {x17 : Int32} {x18 : Int32} {x19 : Int32} {x20 : Int32} {x21 : Int32} {x22 : Int32} {x25 : Int32} {x27 : Int32} {x28 : Int32} {B225 : Int32 → Int32 → Int32 → Int32 → Int32 → Int32 → Int32 → Int32 → Int32 → Int32 → St → Prop} {B361 : Int32 → Int32 → Int32 → Int32 → Int32 → Int32 → Int32 → Int32 → St → Prop} {Q : Int32 → St → Prop} {t0 : Int32} {σ : St} {H : Heap} {locs : List Loc} {ls : Array Slot} (S : SC A D ac st p m c method_6_code 30 s args "SweeperRoundsLaw" R cells slots 6 142) (hR : RtZ A D ac ad p l e R s m args below meth c method_6_code cells slots QW Q) (h4 : ad 999 = 4) (hk_r0 : kd r0 = 9) (hk_r3 : kd r3 = 30) (hk_r4 : kd r4 = 31) (hk_r5 : kd r5 = 32) (hk_r6 : kd r6 = 33) (hB225 : ∀ (x8 : Int32) (x9 : Int32) (x12 : Int32) (x14 : Int32) (x15 : Int32) (x16 : Int32) (x17 : Int32) (x18 : Int32) (x19 : Int32) (x20 : Int32) (σ : St) (H : Heap) (locs : List Loc) (ls : Array Slot), DG A D ac ad s σ H locs → lv_has ls 30 [(0, .ref (ad r0)), (1, .int x1), (2, .int x2), (3, .ref (ad r3)), (4, .ref (ad r4)), (5, .ref (ad r5)), (6, .ref (ad r6)), (7, .int x7), (8, .int x8), (9, .int x9), (10, .int x10), (11, .int x11), (12, .int x12), (13, .int x13), (14, .int x14), (15, .int x15), (16, .int x16), (17, .int x17), (18, .int x18), (19, .int x19), (20, .int x20)] → B225 x8 x9 x12 x14 x15 x16 x17 x18 x19 x20 σ → W p l e R s m args below meth c H locs cells slots QW (F0 m 225 ls [])) (hB361 : ∀ (x8 : Int32) (x9 : Int32) (x12 : Int32) (x14 : Int32) (x16 : Int32) (x17 : Int32) (x18 : Int32) (x19 : Int32) (σ : St) (H : Heap) (locs : List Loc) (ls : Array Slot), DG A D ac ad s σ H locs → lv_has ls 30 [(0, .ref (ad r0)), (1, .int x1), (2, .int x2), (3, .ref (ad r3)), (4, .ref (ad r4)), (5, .ref (ad r5)), (6, .ref (ad r6)), (7, .int x7), (8, .int x8), (9, .int x9), (10, .int x10), (11, .int x11), (12, .int x12), (13, .int x13), (14, .int x14), (15, .int x15), (16, .int x16), (17, .int x17), (18, .int x18), (19, .int x19), (20, .int x20), (21, .int x21), (22, .int x22), (25, .int x25)] → B361 x8 x9 x12 x14 x16 x17 x18 x19 σ → W p l e R s m args below meth c H locs cells slots QW (F0 m 361 ls [])) (hG : DG A D ac ad s σ H locs) (hl : lv_has ls 30 [(0, .ref (ad r0)), (1, .int x1), (2, .int x2), (3, .ref (ad r3)), (4, .ref (ad r4)), (5, .ref (ad r5)), (6, .ref (ad r6)), (7, .int x7), (8, .int x8), (9, .int x9), (10, .int x10), (11, .int x11), (12, .int x12), (13, .int x13), (14, .int x14), (15, .int x15), (16, .int x16), (17, .int x17), (18, .int x18), (19, .int x19), (20, .int x20), (21, .int x21), (22, .int x22), (25, .int x25), (27, .int x27), (28, .int x28)]) (hf : m_L_shift_550 r0 x1 x2 r3 r4 r5 r6 x7 x8 x9 x10 x11 x12 x13 x14 x15 x16 x17 x18 x19 x20 x21 x22 x25 x27 x28 B225 B361 Q t0 σ) : W p l e R s m args below meth c H locs cells slots QW (F0 m 550 ls [.int t0]) := by
  have hx := S.1.1
  have hb := S.1.2.1
  unfold m_L_shift_550 at hf
  refine lv_istore (lv' := [(29, .int t0), (0, .ref (ad r0)), (1, .int x1), (2, .int x2), (3, .ref (ad r3)), (4, .ref (ad r4)), (5, .ref (ad r5)), (6, .ref (ad r6)), (7, .int x7), (8, .int x8), (9, .int x9), (10, .int x10), (11, .int x11), (12, .int x12), (13, .int x13), (14, .int x14), (15, .int x15), (16, .int x16), (17, .int x17), (18, .int x18), (19, .int x19), (20, .int x20), (21, .int x21), (22, .int x22), (25, .int x25), (27, .int x27), (28, .int x28)]) hx hb d_L_shift_550 hl (by decide) rfl (fun ls hl => ?_)
  refine lv_iload hx hb d_L_shift_552 (lv_at hl 9 rfl) ?_
  refine lv_iload hx hb d_L_shift_554 (lv_at hl 0 rfl) ?_
  refine lv_isub hx hb d_L_shift_556 ?_
  refine lv_topi (fun x8_1 ex8_1 => ?_)
  have hf := hf x8_1 ex8_1
  refine lv_istore (lv' := [(8, .int x8_1), (29, .int t0), (0, .ref (ad r0)), (1, .int x1), (2, .int x2), (3, .ref (ad r3)), (4, .ref (ad r4)), (5, .ref (ad r5)), (6, .ref (ad r6)), (7, .int x7), (9, .int x9), (10, .int x10), (11, .int x11), (12, .int x12), (13, .int x13), (14, .int x14), (15, .int x15), (16, .int x16), (17, .int x17), (18, .int x18), (19, .int x19), (20, .int x20), (21, .int x21), (22, .int x22), (25, .int x25), (27, .int x27), (28, .int x28)]) hx hb d_L_shift_557 hl (by decide) rfl (fun ls hl => ?_)
  refine lv_iload hx hb d_L_shift_559 (lv_at hl 20 rfl) ?_
  refine lv_iload hx hb d_L_shift_561 (lv_at hl 1 rfl) ?_
  refine lv_iadd hx hb d_L_shift_563 ?_
  refine lv_topi (fun x19_2 ex19_2 => ?_)
  have hf := hf x19_2 ex19_2
  refine lv_istore (lv' := [(19, .int x19_2), (8, .int x8_1), (29, .int t0), (0, .ref (ad r0)), (1, .int x1), (2, .int x2), (3, .ref (ad r3)), (4, .ref (ad r4)), (5, .ref (ad r5)), (6, .ref (ad r6)), (7, .int x7), (9, .int x9), (10, .int x10), (11, .int x11), (12, .int x12), (13, .int x13), (14, .int x14), (15, .int x15), (16, .int x16), (17, .int x17), (18, .int x18), (20, .int x20), (21, .int x21), (22, .int x22), (25, .int x25), (27, .int x27), (28, .int x28)]) hx hb d_L_shift_564 hl (by decide) rfl (fun ls hl => ?_)
  refine lv_aload hx hb d_L_shift_566 (lv_at hl 8 rfl) ?_
  refine lv_iload hx hb d_L_shift_568 (lv_at hl 21 rfl) ?_
  refine lv_dup2_11 hx hb d_L_shift_570 rfl rfl ?_
  refine mla S hG h4 32 rfl hk_r5 hf.1 d_L_shift_571 ?_
  have hf := hf.2
  refine lv_iload hx hb d_L_shift_572 (lv_at hl 26 rfl) ?_
  refine lv_iload hx hb d_L_shift_574 (lv_at hl 25 rfl) ?_
  refine lv_icmp_ne (tgt := 583) hx hb d_L_shift_576 (by decide) (fun hc => ?_) (fun hc => ?_)
  · have hf := hf.1 hc
    refine lv_iconst (v := (0 : Int32)) hx hb d_L_shift_583 (by decide) ?_
    exact w_L_shift_584 S hR h4 hk_r0 hk_r3 hk_r4 hk_r5 hk_r6  hk_r5 hB225 hB361 hG (lv_sub hl [3, 4, 5, 6, 7, 8, 9, 10, 1, 11, 12, 13, 14, 15, 16, 17, 18, 19, 20, 0, 21, 22, 23, 24, 25, 26] rfl) hf
  · have hf := hf.2 hc
    refine lv_iconst (v := (1 : Int32)) hx hb d_L_shift_579 (by decide) ?_
    refine lv_goto (tgt := 584) hx hb d_L_shift_580 (by decide) ?_
    exact w_L_shift_584 S hR h4 hk_r0 hk_r3 hk_r4 hk_r5 hk_r6  hk_r5 hB225 hB361 hG (lv_sub hl [3, 4, 5, 6, 7, 8, 9, 10, 1, 11, 12, 13, 14, 15, 16, 17, 18, 19, 20, 0, 21, 22, 23, 24, 25, 26] rfl) hf
set_option maxHeartbeats 4000000 in
set_option maxRecDepth 100000 in
theorem w_L_shift_489 {r0 : Nat} {x1 : Int32} {x2 : Int32} {r3 : Nat} {r4 : Nat} {r5 : Nat} {r6 : Nat} {x7 : Int32} {x8 : Int32} {x9 : Int32} {x10 : Int32} {x11 : Int32} {x12 : Int32} {x13 : Int32} {x14 : Int32} {x15 : Int32} {x16 : Int32} {x17 : Int32} {x18 : Int32} {x19 : Int32} {x20 : Int32} {x21 : Int32} {x22 : Int32} {x25 : Int32} {x26 : Int32} {x27 : Int32} {B225 : Int32 → Int32 → Int32 → Int32 → Int32 → Int32 → Int32 → Int32 → Int32 → Int32 → St → Prop} {B361 : Int32 → Int32 → Int32 → Int32 → Int32 → Int32 → Int32 → Int32 → St → Prop} {Q : Int32 → St → Prop} {t0 : Int32} {σ : St} {H : Heap} {locs : List Loc} {ls : Array Slot} (S : SC A D ac st p m c method_6_code 30 s args "SweeperRoundsLaw" R cells slots 6 142) (hR : RtZ A D ac ad p l e R s m args below meth c method_6_code cells slots QW Q) (h4 : ad 999 = 4) (hk_r0 : kd r0 = 9) (hk_r3 : kd r3 = 30) (hk_r4 : kd r4 = 31) (hk_r5 : kd r5 = 32) (hk_r6 : kd r6 = 33) (hB225 : ∀ (x8 : Int32) (x9 : Int32) (x12 : Int32) (x14 : Int32) (x15 : Int32) (x16 : Int32) (x17 : Int32) (x18 : Int32) (x19 : Int32) (x20 : Int32) (σ : St) (H : Heap) (locs : List Loc) (ls : Array Slot), DG A D ac ad s σ H locs → lv_has ls 30 [(0, .ref (ad r0)), (1, .int x1), (2, .int x2), (3, .ref (ad r3)), (4, .ref (ad r4)), (5, .ref (ad r5)), (6, .ref (ad r6)), (7, .int x7), (8, .int x8), (9, .int x9), (10, .int x10), (11, .int x11), (12, .int x12), (13, .int x13), (14, .int x14), (15, .int x15), (16, .int x16), (17, .int x17), (18, .int x18), (19, .int x19), (20, .int x20)] → B225 x8 x9 x12 x14 x15 x16 x17 x18 x19 x20 σ → W p l e R s m args below meth c H locs cells slots QW (F0 m 225 ls [])) (hB361 : ∀ (x8 : Int32) (x9 : Int32) (x12 : Int32) (x14 : Int32) (x16 : Int32) (x17 : Int32) (x18 : Int32) (x19 : Int32) (σ : St) (H : Heap) (locs : List Loc) (ls : Array Slot), DG A D ac ad s σ H locs → lv_has ls 30 [(0, .ref (ad r0)), (1, .int x1), (2, .int x2), (3, .ref (ad r3)), (4, .ref (ad r4)), (5, .ref (ad r5)), (6, .ref (ad r6)), (7, .int x7), (8, .int x8), (9, .int x9), (10, .int x10), (11, .int x11), (12, .int x12), (13, .int x13), (14, .int x14), (15, .int x15), (16, .int x16), (17, .int x17), (18, .int x18), (19, .int x19), (20, .int x20), (21, .int x21), (22, .int x22), (25, .int x25)] → B361 x8 x9 x12 x14 x16 x17 x18 x19 σ → W p l e R s m args below meth c H locs cells slots QW (F0 m 361 ls [])) (hG : DG A D ac ad s σ H locs) (hl : lv_has ls 30 [(0, .ref (ad r0)), (1, .int x1), (2, .int x2), (3, .ref (ad r3)), (4, .ref (ad r4)), (5, .ref (ad r5)), (6, .ref (ad r6)), (7, .int x7), (8, .int x8), (9, .int x9), (10, .int x10), (11, .int x11), (12, .int x12), (13, .int x13), (14, .int x14), (15, .int x15), (16, .int x16), (17, .int x17), (18, .int x18), (19, .int x19), (20, .int x20), (21, .int x21), (22, .int x22), (25, .int x25), (26, .int x26), (27, .int x27)]) (hf : m_L_shift_489 r0 x1 x2 r3 r4 r5 r6 x7 x8 x9 x10 x11 x12 x13 x14 x15 x16 x17 x18 x19 x20 x21 x22 x25 x26 x27 B225 B361 Q t0 σ) : W p l e R s m args below meth c H locs cells slots QW (F0 m 489 ls [.int t0]) := by
  have hx := S.1.1
  have hb := S.1.2.1
  unfold m_L_shift_489 at hf
  refine lv_istore (lv' := [(28, .int t0), (0, .ref (ad r0)), (1, .int x1), (2, .int x2), (3, .ref (ad r3)), (4, .ref (ad r4)), (5, .ref (ad r5)), (6, .ref (ad r6)), (7, .int x7), (8, .int x8), (9, .int x9), (10, .int x10), (11, .int x11), (12, .int x12), (13, .int x13), (14, .int x14), (15, .int x15), (16, .int x16), (17, .int x17), (18, .int x18), (19, .int x19), (20, .int x20), (21, .int x21), (22, .int x22), (25, .int x25), (26, .int x26), (27, .int x27)]) hx hb d_L_shift_489 hl (by decide) rfl (fun ls hl => ?_)
  refine lv_aload_n hx hb d_L_shift_491 rfl (lv_at hl 4 rfl) ?_
  refine lv_iload hx hb d_L_shift_492 (lv_at hl 25 rfl) ?_
  refine lv_dup2_11 hx hb d_L_shift_494 rfl rfl ?_
  refine mla S hG h4 30 rfl hk_r3 hf.1 d_L_shift_495 ?_
  have hf := hf.2
  refine lv_iload hx hb d_L_shift_496 (lv_at hl 0 rfl) ?_
  refine lv_isub hx hb d_L_shift_498 ?_
  refine mls S hG h4 30 rfl hk_r3 hf.1 d_L_shift_499 (fun σ_1 eσ_1 H locs hG => ?_)
  have hf := hf.2 σ_1 eσ_1
  refine lv_iload hx hb d_L_shift_500 (lv_at hl 10 rfl) ?_
  refine lv_iload hx hb d_L_shift_502 (lv_at hl 0 rfl) ?_
  refine lv_iadd hx hb d_L_shift_504 ?_
  refine lv_topi (fun x9_2 ex9_2 => ?_)
  have hf := hf x9_2 ex9_2
  refine lv_istore (lv' := [(9, .int x9_2), (28, .int t0), (0, .ref (ad r0)), (1, .int x1), (2, .int x2), (3, .ref (ad r3)), (4, .ref (ad r4)), (5, .ref (ad r5)), (6, .ref (ad r6)), (7, .int x7), (8, .int x8), (10, .int x10), (11, .int x11), (12, .int x12), (13, .int x13), (14, .int x14), (15, .int x15), (16, .int x16), (17, .int x17), (18, .int x18), (19, .int x19), (20, .int x20), (21, .int x21), (22, .int x22), (25, .int x25), (26, .int x26), (27, .int x27)]) hx hb d_L_shift_505 hl (by decide) rfl (fun ls hl => ?_)
  refine lv_iload hx hb d_L_shift_507 (lv_at hl 19 rfl) ?_
  refine lv_iload hx hb d_L_shift_509 (lv_at hl 1 rfl) ?_
  refine lv_iadd hx hb d_L_shift_511 ?_
  refine lv_topi (fun x18_3 ex18_3 => ?_)
  have hf := hf x18_3 ex18_3
  refine lv_istore (lv' := [(18, .int x18_3), (9, .int x9_2), (28, .int t0), (0, .ref (ad r0)), (1, .int x1), (2, .int x2), (3, .ref (ad r3)), (4, .ref (ad r4)), (5, .ref (ad r5)), (6, .ref (ad r6)), (7, .int x7), (8, .int x8), (10, .int x10), (11, .int x11), (12, .int x12), (13, .int x13), (14, .int x14), (15, .int x15), (16, .int x16), (17, .int x17), (19, .int x19), (20, .int x20), (21, .int x21), (22, .int x22), (25, .int x25), (26, .int x26), (27, .int x27)]) hx hb d_L_shift_512 hl (by decide) rfl (fun ls hl => ?_)
  refine lv_aload hx hb d_L_shift_514 (lv_at hl 9 rfl) ?_
  refine lv_iload hx hb d_L_shift_516 (lv_at hl 21 rfl) ?_
  refine lv_dup2_11 hx hb d_L_shift_518 rfl rfl ?_
  refine mla S hG h4 33 rfl hk_r6 hf.1 d_L_shift_519 ?_
  have hf := hf.2
  refine lv_iload hx hb d_L_shift_520 (lv_at hl 2 rfl) ?_
  refine lv_iadd hx hb d_L_shift_522 ?_
  refine mls S hG h4 33 rfl hk_r6 hf.1 d_L_shift_523 (fun σ_4 eσ_4 H locs hG => ?_)
  have hf := hf.2 σ_4 eσ_4
  refine lv_iconst (v := (1 : Int32)) hx hb d_L_shift_524 (by decide) ?_
  refine lv_iload hx hb d_L_shift_525 (lv_at hl 2 rfl) ?_
  refine lv_iload hx hb d_L_shift_527 (lv_at hl 10 rfl) ?_
  refine lv_imul hx hb d_L_shift_529 ?_
  refine lv_bipush (v := (20 : Int32)) hx hb d_L_shift_530 (by decide) ?_
  refine lv_idiv hx hb d_L_shift_532 (by decide) ?_
  refine lv_iadd hx hb d_L_shift_533 ?_
  refine lv_topi (fun x29_5 ex29_5 => ?_)
  have hf := hf x29_5 ex29_5
  refine lv_istore (lv' := [(29, .int x29_5), (18, .int x18_3), (9, .int x9_2), (28, .int t0), (0, .ref (ad r0)), (1, .int x1), (2, .int x2), (3, .ref (ad r3)), (4, .ref (ad r4)), (5, .ref (ad r5)), (6, .ref (ad r6)), (7, .int x7), (8, .int x8), (10, .int x10), (11, .int x11), (12, .int x12), (13, .int x13), (14, .int x14), (15, .int x15), (16, .int x16), (17, .int x17), (19, .int x19), (20, .int x20), (21, .int x21), (22, .int x22), (25, .int x25), (26, .int x26), (27, .int x27)]) hx hb d_L_shift_534 hl (by decide) rfl (fun ls hl => ?_)
  refine lv_iload hx hb d_L_shift_536 (lv_at hl 0 rfl) ?_
  refine lv_iload hx hb d_L_shift_538 (lv_at hl 12 rfl) ?_
  refine lv_icmp_ge (tgt := 548) hx hb d_L_shift_540 (by decide) (fun hc => ?_) (fun hc => ?_)
  · have hf := hf.1 hc
    refine lv_iload hx hb d_L_shift_548 (lv_at hl 12 rfl) ?_
    exact w_L_shift_550 S hR h4 hk_r0 hk_r3 hk_r4 hk_r5 hk_r6   hB225 hB361 hG (lv_sub hl [4, 5, 6, 7, 8, 9, 10, 11, 12, 2, 13, 14, 15, 16, 17, 18, 19, 20, 1, 21, 22, 23, 24, 25, 27, 3] rfl) hf
  · have hf := hf.2 hc
    refine lv_iload hx hb d_L_shift_543 (lv_at hl 0 rfl) ?_
    refine lv_goto (tgt := 550) hx hb d_L_shift_545 (by decide) ?_
    exact w_L_shift_550 S hR h4 hk_r0 hk_r3 hk_r4 hk_r5 hk_r6   hB225 hB361 hG (lv_sub hl [4, 5, 6, 7, 8, 9, 10, 11, 12, 2, 13, 14, 15, 16, 17, 18, 19, 20, 1, 21, 22, 23, 24, 25, 27, 3] rfl) hf
set_option maxHeartbeats 4000000 in
set_option maxRecDepth 100000 in
theorem w_L_shift_467 {r0 : Nat} {x1 : Int32} {x2 : Int32} {r3 : Nat} {r4 : Nat} {r5 : Nat} {r6 : Nat} {x7 : Int32} {x8 : Int32} {x9 : Int32} {x10 : Int32} {x11 : Int32} {x12 : Int32} {x13 : Int32} {x14 : Int32} {x15 : Int32} {x16 : Int32} {x17 : Int32} {x18 : Int32} {x19 : Int32} {x20 : Int32} {x21 : Int32} {x22 : Int32} {x25 : Int32} {x26 : Int32} {B225 : Int32 → Int32 → Int32 → Int32 → Int32 → Int32 → Int32 → Int32 → Int32 → Int32 → St → Prop} {B361 : Int32 → Int32 → Int32 → Int32 → Int32 → Int32 → Int32 → Int32 → St → Prop} {Q : Int32 → St → Prop} {t0 : Int32} {σ : St} {H : Heap} {locs : List Loc} {ls : Array Slot} (S : SC A D ac st p m c method_6_code 30 s args "SweeperRoundsLaw" R cells slots 6 142) (hR : RtZ A D ac ad p l e R s m args below meth c method_6_code cells slots QW Q) (h4 : ad 999 = 4) (hk_r0 : kd r0 = 9) (hk_r3 : kd r3 = 30) (hk_r4 : kd r4 = 31) (hk_r5 : kd r5 = 32) (hk_r6 : kd r6 = 33) (hB225 : ∀ (x8 : Int32) (x9 : Int32) (x12 : Int32) (x14 : Int32) (x15 : Int32) (x16 : Int32) (x17 : Int32) (x18 : Int32) (x19 : Int32) (x20 : Int32) (σ : St) (H : Heap) (locs : List Loc) (ls : Array Slot), DG A D ac ad s σ H locs → lv_has ls 30 [(0, .ref (ad r0)), (1, .int x1), (2, .int x2), (3, .ref (ad r3)), (4, .ref (ad r4)), (5, .ref (ad r5)), (6, .ref (ad r6)), (7, .int x7), (8, .int x8), (9, .int x9), (10, .int x10), (11, .int x11), (12, .int x12), (13, .int x13), (14, .int x14), (15, .int x15), (16, .int x16), (17, .int x17), (18, .int x18), (19, .int x19), (20, .int x20)] → B225 x8 x9 x12 x14 x15 x16 x17 x18 x19 x20 σ → W p l e R s m args below meth c H locs cells slots QW (F0 m 225 ls [])) (hB361 : ∀ (x8 : Int32) (x9 : Int32) (x12 : Int32) (x14 : Int32) (x16 : Int32) (x17 : Int32) (x18 : Int32) (x19 : Int32) (σ : St) (H : Heap) (locs : List Loc) (ls : Array Slot), DG A D ac ad s σ H locs → lv_has ls 30 [(0, .ref (ad r0)), (1, .int x1), (2, .int x2), (3, .ref (ad r3)), (4, .ref (ad r4)), (5, .ref (ad r5)), (6, .ref (ad r6)), (7, .int x7), (8, .int x8), (9, .int x9), (10, .int x10), (11, .int x11), (12, .int x12), (13, .int x13), (14, .int x14), (15, .int x15), (16, .int x16), (17, .int x17), (18, .int x18), (19, .int x19), (20, .int x20), (21, .int x21), (22, .int x22), (25, .int x25)] → B361 x8 x9 x12 x14 x16 x17 x18 x19 σ → W p l e R s m args below meth c H locs cells slots QW (F0 m 361 ls [])) (hG : DG A D ac ad s σ H locs) (hl : lv_has ls 30 [(0, .ref (ad r0)), (1, .int x1), (2, .int x2), (3, .ref (ad r3)), (4, .ref (ad r4)), (5, .ref (ad r5)), (6, .ref (ad r6)), (7, .int x7), (8, .int x8), (9, .int x9), (10, .int x10), (11, .int x11), (12, .int x12), (13, .int x13), (14, .int x14), (15, .int x15), (16, .int x16), (17, .int x17), (18, .int x18), (19, .int x19), (20, .int x20), (21, .int x21), (22, .int x22), (25, .int x25), (26, .int x26)]) (hf : m_L_shift_467 r0 x1 x2 r3 r4 r5 r6 x7 x8 x9 x10 x11 x12 x13 x14 x15 x16 x17 x18 x19 x20 x21 x22 x25 x26 B225 B361 Q t0 σ) : W p l e R s m args below meth c H locs cells slots QW (F0 m 467 ls [.int t0]) := by
  have hx := S.1.1
  have hb := S.1.2.1
  unfold m_L_shift_467 at hf
  refine lv_istore (lv' := [(27, .int t0), (0, .ref (ad r0)), (1, .int x1), (2, .int x2), (3, .ref (ad r3)), (4, .ref (ad r4)), (5, .ref (ad r5)), (6, .ref (ad r6)), (7, .int x7), (8, .int x8), (9, .int x9), (10, .int x10), (11, .int x11), (12, .int x12), (13, .int x13), (14, .int x14), (15, .int x15), (16, .int x16), (17, .int x17), (18, .int x18), (19, .int x19), (20, .int x20), (21, .int x21), (22, .int x22), (25, .int x25), (26, .int x26)]) hx hb d_L_shift_467 hl (by decide) rfl (fun ls hl => ?_)
  refine lv_iload hx hb d_L_shift_469 (lv_at hl 0 rfl) ?_
  refine lv_iload hx hb d_L_shift_471 (lv_at hl 11 rfl) ?_
  refine lv_iload hx hb d_L_shift_473 (lv_at hl 10 rfl) ?_
  refine lv_isub hx hb d_L_shift_475 ?_
  refine lv_icmp_ge (tgt := 484) hx hb d_L_shift_476 (by decide) (fun hc => ?_) (fun hc => ?_)
  · have hf := hf.1 hc
    refine lv_iload hx hb d_L_shift_484 (lv_at hl 11 rfl) ?_
    refine lv_iload hx hb d_L_shift_486 (lv_at hl 10 rfl) ?_
    refine lv_isub hx hb d_L_shift_488 ?_
    exact w_L_shift_489 S hR h4 hk_r0 hk_r3 hk_r4 hk_r5 hk_r6   hB225 hB361 hG (lv_sub hl [1, 2, 3, 4, 5, 6, 7, 8, 9, 10, 11, 12, 13, 14, 15, 16, 17, 18, 19, 20, 21, 22, 23, 24, 25, 0] rfl) hf
  · have hf := hf.2 hc
    refine lv_iload hx hb d_L_shift_479 (lv_at hl 0 rfl) ?_
    refine lv_goto (tgt := 489) hx hb d_L_shift_481 (by decide) ?_
    exact w_L_shift_489 S hR h4 hk_r0 hk_r3 hk_r4 hk_r5 hk_r6   hB225 hB361 hG (lv_sub hl [1, 2, 3, 4, 5, 6, 7, 8, 9, 10, 11, 12, 13, 14, 15, 16, 17, 18, 19, 20, 21, 22, 23, 24, 25, 0] rfl) hf
set_option maxHeartbeats 4000000 in
set_option maxRecDepth 100000 in
theorem w_L_shift_361 {r0 : Nat} {x1 : Int32} {x2 : Int32} {r3 : Nat} {r4 : Nat} {r5 : Nat} {r6 : Nat} {x7 : Int32} {x10 : Int32} {x11 : Int32} {x13 : Int32} {x15 : Int32} {x20 : Int32} {x21 : Int32} {x22 : Int32} {x25 : Int32} {B225 : Int32 → Int32 → Int32 → Int32 → Int32 → Int32 → Int32 → Int32 → Int32 → Int32 → St → Prop} {Q : Int32 → St → Prop} {B361 : Int32 → Int32 → Int32 → Int32 → Int32 → Int32 → Int32 → Int32 → St → Prop} {x8 : Int32} {x9 : Int32} {x12 : Int32} {x14 : Int32} {x16 : Int32} {x17 : Int32} {x18 : Int32} {x19 : Int32} {σ : St} {H : Heap} {locs : List Loc} {ls : Array Slot} (S : SC A D ac st p m c method_6_code 30 s args "SweeperRoundsLaw" R cells slots 6 142) (hR : RtZ A D ac ad p l e R s m args below meth c method_6_code cells slots QW Q) (h4 : ad 999 = 4) (hk_r0 : kd r0 = 9) (hk_r3 : kd r3 = 30) (hk_r4 : kd r4 = 31) (hk_r5 : kd r5 = 32) (hk_r6 : kd r6 = 33) (hB225 : ∀ (x8 : Int32) (x9 : Int32) (x12 : Int32) (x14 : Int32) (x15 : Int32) (x16 : Int32) (x17 : Int32) (x18 : Int32) (x19 : Int32) (x20 : Int32) (σ : St) (H : Heap) (locs : List Loc) (ls : Array Slot), DG A D ac ad s σ H locs → lv_has ls 30 [(0, .ref (ad r0)), (1, .int x1), (2, .int x2), (3, .ref (ad r3)), (4, .ref (ad r4)), (5, .ref (ad r5)), (6, .ref (ad r6)), (7, .int x7), (8, .int x8), (9, .int x9), (10, .int x10), (11, .int x11), (12, .int x12), (13, .int x13), (14, .int x14), (15, .int x15), (16, .int x16), (17, .int x17), (18, .int x18), (19, .int x19), (20, .int x20)] → B225 x8 x9 x12 x14 x15 x16 x17 x18 x19 x20 σ → W p l e R s m args below meth c H locs cells slots QW (F0 m 225 ls [])) (hB361 : ∀ (x8 : Int32) (x9 : Int32) (x12 : Int32) (x14 : Int32) (x16 : Int32) (x17 : Int32) (x18 : Int32) (x19 : Int32) (σ : St) (H : Heap) (locs : List Loc) (ls : Array Slot), DG A D ac ad s σ H locs → lv_has ls 30 [(0, .ref (ad r0)), (1, .int x1), (2, .int x2), (3, .ref (ad r3)), (4, .ref (ad r4)), (5, .ref (ad r5)), (6, .ref (ad r6)), (7, .int x7), (8, .int x8), (9, .int x9), (10, .int x10), (11, .int x11), (12, .int x12), (13, .int x13), (14, .int x14), (15, .int x15), (16, .int x16), (17, .int x17), (18, .int x18), (19, .int x19), (20, .int x20), (21, .int x21), (22, .int x22), (25, .int x25)] → B361 x8 x9 x12 x14 x16 x17 x18 x19 σ → W p l e R s m args below meth c H locs cells slots QW (F0 m 361 ls [])) (hG : DG A D ac ad s σ H locs) (hl : lv_has ls 30 [(0, .ref (ad r0)), (1, .int x1), (2, .int x2), (3, .ref (ad r3)), (4, .ref (ad r4)), (5, .ref (ad r5)), (6, .ref (ad r6)), (7, .int x7), (8, .int x8), (9, .int x9), (10, .int x10), (11, .int x11), (12, .int x12), (13, .int x13), (14, .int x14), (15, .int x15), (16, .int x16), (17, .int x17), (18, .int x18), (19, .int x19), (20, .int x20), (21, .int x21), (22, .int x22), (25, .int x25)]) (hf : m_L_shift_361 r0 x1 x2 r3 r4 r5 r6 x7 x10 x11 x13 x15 x20 x21 x22 x25 B225 Q B361 x8 x9 x12 x14 x16 x17 x18 x19 σ) : W p l e R s m args below meth c H locs cells slots QW (F0 m 361 ls []) := by
  have hx := S.1.1
  have hb := S.1.2.1
  unfold m_L_shift_361 at hf
  refine lv_aload hx hb d_L_shift_361 (lv_at hl 5 rfl) ?_
  refine lv_iload hx hb d_L_shift_363 (lv_at hl 20 rfl) ?_
  refine mla S hG h4 32 rfl hk_r5 hf.1 d_L_shift_365 ?_
  have hf := hf.2
  refine lv_iload hx hb d_L_shift_366 (lv_at hl 23 rfl) ?_
  refine lv_icmp_ge (tgt := 646) hx hb d_L_shift_368 (by decide) (fun hc => ?_) (fun hc => ?_)
  · have hf := hf.1 hc
    exact w_L_shift_646 S hR h4 hk_r0 hk_r3 hk_r4 hk_r5 hk_r6   hB225 hG (lv_sub hl [0, 1, 2, 3, 4, 5, 6, 7, 8, 9, 10, 11, 12, 13, 14, 15, 16, 17, 18, 19, 20] rfl) hf
  · have hf := hf.2 hc
    refine lv_iload hx hb d_L_shift_371 (lv_at hl 16 rfl) ?_
    refine lv_if_ne (tgt := 646) hx hb d_L_shift_373 (by decide) (fun hc => ?_) (fun hc => ?_)
    · have hf := hf.1 hc
      exact w_L_shift_646 S hR h4 hk_r0 hk_r3 hk_r4 hk_r5 hk_r6   hB225 hG (lv_sub hl [0, 1, 2, 3, 4, 5, 6, 7, 8, 9, 10, 11, 12, 13, 14, 15, 16, 17, 18, 19, 20] rfl) hf
    · have hf := hf.2 hc
      refine lv_bipush (v := (12 : Int32)) hx hb d_L_shift_376 (by decide) ?_
      refine lv_iload hx hb d_L_shift_378 (lv_at hl 21 rfl) ?_
      refine lv_imul hx hb d_L_shift_380 ?_
      refine lv_iload hx hb d_L_shift_381 (lv_at hl 23 rfl) ?_
      refine lv_aload_n hx hb d_L_shift_383 rfl (lv_at hl 0 rfl) ?_
      refine lv_iload hx hb d_L_shift_384 (lv_at hl 20 rfl) ?_
      refine lv_iconst (v := (1 : Int32)) hx hb d_L_shift_386 (by decide) ?_
      refine iv_L_52 S hl.1 hG hk_r0 (c_9_leg l hk_r0 hf) ⟨Nat.le_of_ble_eq_true rfl, Nat.le_of_ble_eq_true rfl⟩ (Nat.le_of_ble_eq_true rfl) d_L_shift_387 (fun v_2 σ_1 hf H locs hG => ?_)
      refine lv_imul hx hb d_L_shift_390 ?_
      refine lv_iadd hx hb d_L_shift_391 ?_
      refine lv_aload hx hb d_L_shift_392 (lv_at hl 5 rfl) ?_
      refine lv_iload hx hb d_L_shift_394 (lv_at hl 20 rfl) ?_
      refine mla S hG h4 32 rfl hk_r5 hf.1 d_L_shift_396 ?_
      have hf := hf.2
      refine lv_iadd hx hb d_L_shift_397 ?_
      refine lv_topi (fun x26_3 ex26_3 => ?_)
      have hf := hf x26_3 ex26_3
      refine lv_istore (lv' := [(26, .int x26_3), (0, .ref (ad r0)), (1, .int x1), (2, .int x2), (3, .ref (ad r3)), (4, .ref (ad r4)), (5, .ref (ad r5)), (6, .ref (ad r6)), (7, .int x7), (8, .int x8), (9, .int x9), (10, .int x10), (11, .int x11), (12, .int x12), (13, .int x13), (14, .int x14), (15, .int x15), (16, .int x16), (17, .int x17), (18, .int x18), (19, .int x19), (20, .int x20), (21, .int x21), (22, .int x22), (25, .int x25)]) hx hb d_L_shift_398 hl (by decide) rfl (fun ls hl => ?_)
      refine lv_bipush (v := (12 : Int32)) hx hb d_L_shift_400 (by decide) ?_
      refine lv_iload hx hb d_L_shift_402 (lv_at hl 8 rfl) ?_
      refine lv_idiv hx hb d_L_shift_404 hf.1 ?_
      have hf := hf.2
      refine lv_iload hx hb d_L_shift_405 (lv_at hl 23 rfl) ?_
      refine lv_iadd hx hb d_L_shift_407 ?_
      refine lv_iload hx hb d_L_shift_408 (lv_at hl 13 rfl) ?_
      refine lv_icmp_le (tgt := 419) hx hb d_L_shift_410 (by decide) (fun hc => ?_) (fun hc => ?_)
      · have hf := hf.1 hc
        refine lv_iload hx hb d_L_shift_419 (lv_at hl 13 rfl) ?_
        refine lv_bipush (v := (12 : Int32)) hx hb d_L_shift_421 (by decide) ?_
        refine lv_iload hx hb d_L_shift_423 (lv_at hl 8 rfl) ?_
        refine lv_idiv hx hb d_L_shift_425 hf.1 ?_
        have hf := hf.2
        refine lv_isub hx hb d_L_shift_426 ?_
        refine lv_topi (fun x12_4 ex12_4 => ?_)
        have hf := hf x12_4 ex12_4
        refine lv_istore (lv' := [(12, .int x12_4), (26, .int x26_3), (0, .ref (ad r0)), (1, .int x1), (2, .int x2), (3, .ref (ad r3)), (4, .ref (ad r4)), (5, .ref (ad r5)), (6, .ref (ad r6)), (7, .int x7), (8, .int x8), (9, .int x9), (10, .int x10), (11, .int x11), (13, .int x13), (14, .int x14), (15, .int x15), (16, .int x16), (17, .int x17), (18, .int x18), (19, .int x19), (20, .int x20), (21, .int x21), (22, .int x22), (25, .int x25)]) hx hb d_L_shift_427 hl (by decide) rfl (fun ls hl => ?_)
        refine lv_aload hx hb d_L_shift_429 (lv_at hl 6 rfl) ?_
        refine lv_iload hx hb d_L_shift_431 (lv_at hl 1 rfl) ?_
        refine mla S hG h4 31 rfl hk_r4 hf.1 d_L_shift_433 ?_
        have hf := hf.2
        refine lv_iconst (v := (1 : Int32)) hx hb d_L_shift_434 (by decide) ?_
        refine lv_icmp_ne (tgt := 442) hx hb d_L_shift_435 (by decide) (fun hc => ?_) (fun hc => ?_)
        · have hf := hf.1 hc
          refine lv_aload_n hx hb d_L_shift_442 rfl (lv_at hl 5 rfl) ?_
          refine lv_iload hx hb d_L_shift_443 (lv_at hl 1 rfl) ?_
          refine mla S hG h4 30 rfl hk_r3 hf.1 d_L_shift_445 ?_
          have hf := hf.2
          refine lv_bipush (v := (100 : Int32)) hx hb d_L_shift_446 (by decide) ?_
          refine lv_bipush (v := (15 : Int32)) hx hb d_L_shift_448 (by decide) ?_
          refine lv_iload hx hb d_L_shift_450 (lv_at hl 9 rfl) ?_
          refine lv_iconst (v := (1 : Int32)) hx hb d_L_shift_452 (by decide) ?_
          refine lv_isub hx hb d_L_shift_453 ?_
          refine lv_imul hx hb d_L_shift_454 ?_
          refine lv_isub hx hb d_L_shift_455 ?_
          refine lv_iload hx hb d_L_shift_456 (lv_at hl 10 rfl) ?_
          refine lv_imul hx hb d_L_shift_458 ?_
          refine lv_sipush (v := (1000 : Int32)) hx hb d_L_shift_459 (by decide) ?_
          refine lv_idiv hx hb d_L_shift_462 (by decide) ?_
          refine lv_imul hx hb d_L_shift_463 ?_
          refine lv_bipush (v := (100 : Int32)) hx hb d_L_shift_464 (by decide) ?_
          refine lv_idiv hx hb d_L_shift_466 (by decide) ?_
          exact w_L_shift_467 S hR h4 hk_r0 hk_r3 hk_r4 hk_r5 hk_r6   hB225 hB361 hG (lv_sub hl [2, 3, 4, 5, 6, 7, 8, 9, 10, 11, 12, 13, 0, 14, 15, 16, 17, 18, 19, 20, 21, 22, 23, 24, 1] rfl) hf
        · have hf := hf.2 hc
          refine lv_iconst (v := (0 : Int32)) hx hb d_L_shift_438 (by decide) ?_
          refine lv_goto (tgt := 467) hx hb d_L_shift_439 (by decide) ?_
          exact w_L_shift_467 S hR h4 hk_r0 hk_r3 hk_r4 hk_r5 hk_r6   hB225 hB361 hG (lv_sub hl [2, 3, 4, 5, 6, 7, 8, 9, 10, 11, 12, 13, 0, 14, 15, 16, 17, 18, 19, 20, 21, 22, 23, 24, 1] rfl) hf
      · have hf := hf.2 hc
        refine lv_iconst (v := (2 : Int32)) hx hb d_L_shift_413 (by decide) ?_
        refine lv_istore (lv' := [(16, .int (2 : Int32)), (26, .int x26_3), (0, .ref (ad r0)), (1, .int x1), (2, .int x2), (3, .ref (ad r3)), (4, .ref (ad r4)), (5, .ref (ad r5)), (6, .ref (ad r6)), (7, .int x7), (8, .int x8), (9, .int x9), (10, .int x10), (11, .int x11), (12, .int x12), (13, .int x13), (14, .int x14), (15, .int x15), (17, .int x17), (18, .int x18), (19, .int x19), (20, .int x20), (21, .int x21), (22, .int x22), (25, .int x25)]) hx hb d_L_shift_414 hl (by decide) rfl (fun ls hl => ?_)
        refine lv_goto (tgt := 643) hx hb d_L_shift_416 (by decide) ?_
        refine lv_goto (tgt := 361) hx hb d_L_shift_643 (by decide) ?_
        exact hB361 _ _ _ _ _ _ _ _ _ _ _ _   hG (lv_sub hl [2, 3, 4, 5, 6, 7, 8, 9, 10, 11, 12, 13, 14, 15, 16, 17, 0, 18, 19, 20, 21, 22, 23, 24] rfl) hf
set_option maxHeartbeats 4000000 in
set_option maxRecDepth 100000 in
theorem lp_L_shift_361 {r0 : Nat} {x1 : Int32} {x2 : Int32} {r3 : Nat} {r4 : Nat} {r5 : Nat} {r6 : Nat} {x7 : Int32} {x10 : Int32} {x11 : Int32} {x13 : Int32} {x15 : Int32} {x20 : Int32} {x21 : Int32} {x22 : Int32} {x25 : Int32} {B225 : Int32 → Int32 → Int32 → Int32 → Int32 → Int32 → Int32 → Int32 → Int32 → Int32 → St → Prop} {Q : Int32 → St → Prop} (S : SC A D ac st p m c method_6_code 30 s args "SweeperRoundsLaw" R cells slots 6 142) (hR : RtZ A D ac ad p l e R s m args below meth c method_6_code cells slots QW Q) (h4 : ad 999 = 4) (hk_r0 : kd r0 = 9) (hk_r3 : kd r3 = 30) (hk_r4 : kd r4 = 31) (hk_r5 : kd r5 = 32) (hk_r6 : kd r6 = 33) (hB225 : ∀ (x8 : Int32) (x9 : Int32) (x12 : Int32) (x14 : Int32) (x15 : Int32) (x16 : Int32) (x17 : Int32) (x18 : Int32) (x19 : Int32) (x20 : Int32) (σ : St) (H : Heap) (locs : List Loc) (ls : Array Slot), DG A D ac ad s σ H locs → lv_has ls 30 [(0, .ref (ad r0)), (1, .int x1), (2, .int x2), (3, .ref (ad r3)), (4, .ref (ad r4)), (5, .ref (ad r5)), (6, .ref (ad r6)), (7, .int x7), (8, .int x8), (9, .int x9), (10, .int x10), (11, .int x11), (12, .int x12), (13, .int x13), (14, .int x14), (15, .int x15), (16, .int x16), (17, .int x17), (18, .int x18), (19, .int x19), (20, .int x20)] → B225 x8 x9 x12 x14 x15 x16 x17 x18 x19 x20 σ → W p l e R s m args below meth c H locs cells slots QW (F0 m 225 ls [])) : ∀ (n : Nat) (x8 : Int32) (x9 : Int32) (x12 : Int32) (x14 : Int32) (x16 : Int32) (x17 : Int32) (x18 : Int32) (x19 : Int32) (σ : St) (H : Heap) (locs : List Loc) (ls : Array Slot), DG A D ac ad s σ H locs → lv_has ls 30 [(0, .ref (ad r0)), (1, .int x1), (2, .int x2), (3, .ref (ad r3)), (4, .ref (ad r4)), (5, .ref (ad r5)), (6, .ref (ad r6)), (7, .int x7), (8, .int x8), (9, .int x9), (10, .int x10), (11, .int x11), (12, .int x12), (13, .int x13), (14, .int x14), (15, .int x15), (16, .int x16), (17, .int x17), (18, .int x18), (19, .int x19), (20, .int x20), (21, .int x21), (22, .int x22), (25, .int x25)] → itN (m_L_shift_361 r0 x1 x2 r3 r4 r5 r6 x7 x10 x11 x13 x15 x20 x21 x22 x25 B225 Q) (fun _ _ _ _ _ _ _ _ _ => False) n x8 x9 x12 x14 x16 x17 x18 x19 σ → W p l e R s m args below meth c H locs cells slots QW (F0 m 361 ls []) := by
  intro n
  induction n with
  | zero =>
    intro x8 x9 x12 x14 x16 x17 x18 x19 σ H locs ls  hG hl hf
    exact hf.elim
  | succ n ih =>
    intro x8 x9 x12 x14 x16 x17 x18 x19 σ H locs ls  hG hl hf
    exact w_L_shift_361 S hR h4 hk_r0 hk_r3 hk_r4 hk_r5 hk_r6 hB225 ih hG hl hf
set_option maxHeartbeats 4000000 in
set_option maxRecDepth 100000 in
theorem w_L_shift_323 {r0 : Nat} {x1 : Int32} {x2 : Int32} {r3 : Nat} {r4 : Nat} {r5 : Nat} {r6 : Nat} {x7 : Int32} {x8 : Int32} {x9 : Int32} {x10 : Int32} {x11 : Int32} {x12 : Int32} {x13 : Int32} {x14 : Int32} {x15 : Int32} {x16 : Int32} {x17 : Int32} {x18 : Int32} {x19 : Int32} {x20 : Int32} {x21 : Int32} {x22 : Int32} {B225 : Int32 → Int32 → Int32 → Int32 → Int32 → Int32 → Int32 → Int32 → Int32 → Int32 → St → Prop} {Q : Int32 → St → Prop} {t0 : Int32} {σ : St} {H : Heap} {locs : List Loc} {ls : Array Slot} (S : SC A D ac st p m c method_6_code 30 s args "SweeperRoundsLaw" R cells slots 6 142) (hR : RtZ A D ac ad p l e R s m args below meth c method_6_code cells slots QW Q) (h4 : ad 999 = 4) (hk_r0 : kd r0 = 9) (hk_r3 : kd r3 = 30) (hk_r4 : kd r4 = 31) (hk_r5 : kd r5 = 32) (hk_r6 : kd r6 = 33) (hB225 : ∀ (x8 : Int32) (x9 : Int32) (x12 : Int32) (x14 : Int32) (x15 : Int32) (x16 : Int32) (x17 : Int32) (x18 : Int32) (x19 : Int32) (x20 : Int32) (σ : St) (H : Heap) (locs : List Loc) (ls : Array Slot), DG A D ac ad s σ H locs → lv_has ls 30 [(0, .ref (ad r0)), (1, .int x1), (2, .int x2), (3, .ref (ad r3)), (4, .ref (ad r4)), (5, .ref (ad r5)), (6, .ref (ad r6)), (7, .int x7), (8, .int x8), (9, .int x9), (10, .int x10), (11, .int x11), (12, .int x12), (13, .int x13), (14, .int x14), (15, .int x15), (16, .int x16), (17, .int x17), (18, .int x18), (19, .int x19), (20, .int x20)] → B225 x8 x9 x12 x14 x15 x16 x17 x18 x19 x20 σ → W p l e R s m args below meth c H locs cells slots QW (F0 m 225 ls [])) (hG : DG A D ac ad s σ H locs) (hl : lv_has ls 30 [(0, .ref (ad r0)), (1, .int x1), (2, .int x2), (3, .ref (ad r3)), (4, .ref (ad r4)), (5, .ref (ad r5)), (6, .ref (ad r6)), (7, .int x7), (8, .int x8), (9, .int x9), (10, .int x10), (11, .int x11), (12, .int x12), (13, .int x13), (14, .int x14), (15, .int x15), (16, .int x16), (17, .int x17), (18, .int x18), (19, .int x19), (20, .int x20), (21, .int x21), (22, .int x22)]) (hf : m_L_shift_323 r0 x1 x2 r3 r4 r5 r6 x7 x8 x9 x10 x11 x12 x13 x14 x15 x16 x17 x18 x19 x20 x21 x22 B225 Q t0 σ) : W p l e R s m args below meth c H locs cells slots QW (F0 m 323 ls [.int t0]) := by
  have hx := S.1.1
  have hb := S.1.2.1
  unfold m_L_shift_323 at hf
  refine lv_istore (lv' := [(24, .int t0), (0, .ref (ad r0)), (1, .int x1), (2, .int x2), (3, .ref (ad r3)), (4, .ref (ad r4)), (5, .ref (ad r5)), (6, .ref (ad r6)), (7, .int x7), (8, .int x8), (9, .int x9), (10, .int x10), (11, .int x11), (12, .int x12), (13, .int x13), (14, .int x14), (15, .int x15), (16, .int x16), (17, .int x17), (18, .int x18), (19, .int x19), (20, .int x20), (21, .int x21), (22, .int x22)]) hx hb d_L_shift_323 hl (by decide) rfl (fun ls hl => ?_)
  refine lv_iload hx hb d_L_shift_325 (lv_at hl 0 rfl) ?_
  refine lv_iload hx hb d_L_shift_327 (lv_at hl 23 rfl) ?_
  refine lv_iadd hx hb d_L_shift_329 ?_
  refine lv_iload hx hb d_L_shift_330 (lv_at hl 13 rfl) ?_
  refine lv_icmp_le (tgt := 341) hx hb d_L_shift_332 (by decide) (fun hc => ?_) (fun hc => ?_)
  · have hf := hf.1 hc
    refine lv_iload hx hb d_L_shift_341 (lv_at hl 13 rfl) ?_
    refine lv_iload hx hb d_L_shift_343 (lv_at hl 0 rfl) ?_
    refine lv_isub hx hb d_L_shift_345 ?_
    refine lv_topi (fun x12_1 ex12_1 => ?_)
    have hf := hf x12_1 ex12_1
    refine lv_istore (lv' := [(12, .int x12_1), (24, .int t0), (0, .ref (ad r0)), (1, .int x1), (2, .int x2), (3, .ref (ad r3)), (4, .ref (ad r4)), (5, .ref (ad r5)), (6, .ref (ad r6)), (7, .int x7), (8, .int x8), (9, .int x9), (10, .int x10), (11, .int x11), (13, .int x13), (14, .int x14), (15, .int x15), (16, .int x16), (17, .int x17), (18, .int x18), (19, .int x19), (20, .int x20), (21, .int x21), (22, .int x22)]) hx hb d_L_shift_346 hl (by decide) rfl (fun ls hl => ?_)
    refine lv_iload hx hb d_L_shift_348 (lv_at hl 22 rfl) ?_
    refine lv_istore (lv' := [(15, .int x21), (12, .int x12_1), (24, .int t0), (0, .ref (ad r0)), (1, .int x1), (2, .int x2), (3, .ref (ad r3)), (4, .ref (ad r4)), (5, .ref (ad r5)), (6, .ref (ad r6)), (7, .int x7), (8, .int x8), (9, .int x9), (10, .int x10), (11, .int x11), (13, .int x13), (14, .int x14), (16, .int x16), (17, .int x17), (18, .int x18), (19, .int x19), (20, .int x20), (21, .int x21), (22, .int x22)]) hx hb d_L_shift_350 hl (by decide) rfl (fun ls hl => ?_)
    refine lv_aload_n hx hb d_L_shift_352 rfl (lv_at hl 3 rfl) ?_
    refine lv_iload hx hb d_L_shift_353 (lv_at hl 22 rfl) ?_
    refine lv_iconst (v := (0 : Int32)) hx hb d_L_shift_355 (by decide) ?_
    refine iv_L_47 S hl.1 hG hk_r0 (c_9_street l hk_r0 hf) ⟨Nat.le_of_ble_eq_true rfl, Nat.le_of_ble_eq_true rfl⟩ (Nat.le_of_ble_eq_true rfl) d_L_shift_356 (fun v_3 σ_2 hf H locs hG => ?_)
    refine lv_istore (lv' := [(25, .int v_3), (15, .int x21), (12, .int x12_1), (24, .int t0), (0, .ref (ad r0)), (1, .int x1), (2, .int x2), (3, .ref (ad r3)), (4, .ref (ad r4)), (5, .ref (ad r5)), (6, .ref (ad r6)), (7, .int x7), (8, .int x8), (9, .int x9), (10, .int x10), (11, .int x11), (13, .int x13), (14, .int x14), (16, .int x16), (17, .int x17), (18, .int x18), (19, .int x19), (20, .int x20), (21, .int x21), (22, .int x22)]) hx hb d_L_shift_359 hl (by decide) rfl (fun ls hl => ?_)
    exact lp_L_shift_361 S hR h4 hk_r0 hk_r3 hk_r4 hk_r5 hk_r6 hB225 FU _ _ _ _ _ _ _ _ _ _ _ _  hG (lv_sub hl [4, 5, 6, 7, 8, 9, 10, 11, 12, 13, 14, 15, 2, 16, 17, 1, 18, 19, 20, 21, 22, 23, 24, 0] rfl) hf
  · have hf := hf.2 hc
    refine lv_iconst (v := (1 : Int32)) hx hb d_L_shift_335 (by decide) ?_
    refine lv_istore (lv' := [(16, .int (1 : Int32)), (24, .int t0), (0, .ref (ad r0)), (1, .int x1), (2, .int x2), (3, .ref (ad r3)), (4, .ref (ad r4)), (5, .ref (ad r5)), (6, .ref (ad r6)), (7, .int x7), (8, .int x8), (9, .int x9), (10, .int x10), (11, .int x11), (12, .int x12), (13, .int x13), (14, .int x14), (15, .int x15), (17, .int x17), (18, .int x18), (19, .int x19), (20, .int x20), (21, .int x21), (22, .int x22)]) hx hb d_L_shift_336 hl (by decide) rfl (fun ls hl => ?_)
    refine lv_goto (tgt := 646) hx hb d_L_shift_338 (by decide) ?_
    exact w_L_shift_646 S hR h4 hk_r0 hk_r3 hk_r4 hk_r5 hk_r6   hB225 hG (lv_sub hl [2, 3, 4, 5, 6, 7, 8, 9, 10, 11, 12, 13, 14, 15, 16, 17, 0, 18, 19, 20, 21] rfl) hf
set_option maxHeartbeats 4000000 in
set_option maxRecDepth 100000 in
theorem w_L_shift_281 {r0 : Nat} {x1 : Int32} {x2 : Int32} {r3 : Nat} {r4 : Nat} {r5 : Nat} {r6 : Nat} {x7 : Int32} {x8 : Int32} {x9 : Int32} {x10 : Int32} {x11 : Int32} {x12 : Int32} {x13 : Int32} {x14 : Int32} {x15 : Int32} {x16 : Int32} {x17 : Int32} {x18 : Int32} {x19 : Int32} {x20 : Int32} {x21 : Int32} {x22 : Int32} {B225 : Int32 → Int32 → Int32 → Int32 → Int32 → Int32 → Int32 → Int32 → Int32 → Int32 → St → Prop} {Q : Int32 → St → Prop} {t0 : Int32} {σ : St} {H : Heap} {locs : List Loc} {ls : Array Slot} (S : SC A D ac st p m c method_6_code 30 s args "SweeperRoundsLaw" R cells slots 6 142) (hR : RtZ A D ac ad p l e R s m args below meth c method_6_code cells slots QW Q) (h4 : ad 999 = 4) (hk_r0 : kd r0 = 9) (hk_r3 : kd r3 = 30) (hk_r4 : kd r4 = 31) (hk_r5 : kd r5 = 32) (hk_r6 : kd r6 = 33) (hB225 : ∀ (x8 : Int32) (x9 : Int32) (x12 : Int32) (x14 : Int32) (x15 : Int32) (x16 : Int32) (x17 : Int32) (x18 : Int32) (x19 : Int32) (x20 : Int32) (σ : St) (H : Heap) (locs : List Loc) (ls : Array Slot), DG A D ac ad s σ H locs → lv_has ls 30 [(0, .ref (ad r0)), (1, .int x1), (2, .int x2), (3, .ref (ad r3)), (4, .ref (ad r4)), (5, .ref (ad r5)), (6, .ref (ad r6)), (7, .int x7), (8, .int x8), (9, .int x9), (10, .int x10), (11, .int x11), (12, .int x12), (13, .int x13), (14, .int x14), (15, .int x15), (16, .int x16), (17, .int x17), (18, .int x18), (19, .int x19), (20, .int x20)] → B225 x8 x9 x12 x14 x15 x16 x17 x18 x19 x20 σ → W p l e R s m args below meth c H locs cells slots QW (F0 m 225 ls [])) (hG : DG A D ac ad s σ H locs) (hl : lv_has ls 30 [(0, .ref (ad r0)), (1, .int x1), (2, .int x2), (3, .ref (ad r3)), (4, .ref (ad r4)), (5, .ref (ad r5)), (6, .ref (ad r6)), (7, .int x7), (8, .int x8), (9, .int x9), (10, .int x10), (11, .int x11), (12, .int x12), (13, .int x13), (14, .int x14), (15, .int x15), (16, .int x16), (17, .int x17), (18, .int x18), (19, .int x19), (20, .int x20), (21, .int x21), (22, .int x22)]) (hf : m_L_shift_281 r0 x1 x2 r3 r4 r5 r6 x7 x8 x9 x10 x11 x12 x13 x14 x15 x16 x17 x18 x19 x20 x21 x22 B225 Q t0 σ) : W p l e R s m args below meth c H locs cells slots QW (F0 m 281 ls [.int t0]) := by
  have hx := S.1.1
  have hb := S.1.2.1
  unfold m_L_shift_281 at hf
  refine lv_istore (lv' := [(23, .int t0), (0, .ref (ad r0)), (1, .int x1), (2, .int x2), (3, .ref (ad r3)), (4, .ref (ad r4)), (5, .ref (ad r5)), (6, .ref (ad r6)), (7, .int x7), (8, .int x8), (9, .int x9), (10, .int x10), (11, .int x11), (12, .int x12), (13, .int x13), (14, .int x14), (15, .int x15), (16, .int x16), (17, .int x17), (18, .int x18), (19, .int x19), (20, .int x20), (21, .int x21), (22, .int x22)]) hx hb d_L_shift_281 hl (by decide) rfl (fun ls hl => ?_)
  refine lv_iload hx hb d_L_shift_283 (lv_at hl 16 rfl) ?_
  refine lv_if_ge (tgt := 293) hx hb d_L_shift_285 (by decide) (fun hc => ?_) (fun hc => ?_)
  · have hf := hf.1 hc
    refine lv_iload hx hb d_L_shift_293 (lv_at hl 16 rfl) ?_
    refine lv_iload hx hb d_L_shift_295 (lv_at hl 22 rfl) ?_
    refine lv_icmp_ne (tgt := 304) hx hb d_L_shift_297 (by decide) (fun hc => ?_) (fun hc => ?_)
    · have hf := hf.1 hc
      refine lv_bipush (v := (10 : Int32)) hx hb d_L_shift_304 (by decide) ?_
      refine lv_iload hx hb d_L_shift_306 (lv_at hl 0 rfl) ?_
      refine lv_if_ge (tgt := 317) hx hb d_L_shift_308 (by decide) (fun hc => ?_) (fun hc => ?_)
      · have hf := hf.1 hc
        refine lv_iload hx hb d_L_shift_317 (lv_at hl 0 rfl) ?_
        refine lv_imul hx hb d_L_shift_319 ?_
        refine lv_bipush (v := (50 : Int32)) hx hb d_L_shift_320 (by decide) ?_
        refine lv_iadd hx hb d_L_shift_322 ?_
        exact w_L_shift_323 S hR h4 hk_r0 hk_r3 hk_r4 hk_r5 hk_r6   hB225 hG (lv_sub hl [1, 2, 3, 4, 5, 6, 7, 8, 9, 10, 11, 12, 13, 14, 15, 16, 17, 18, 19, 20, 21, 22, 23] rfl) hf
      · have hf := hf.2 hc
        refine lv_iload hx hb d_L_shift_311 (lv_at hl 0 rfl) ?_
        refine lv_ineg hx hb d_L_shift_313 ?_
        refine lv_goto (tgt := 319) hx hb d_L_shift_314 (by decide) ?_
        refine lv_imul hx hb d_L_shift_319 ?_
        refine lv_bipush (v := (50 : Int32)) hx hb d_L_shift_320 (by decide) ?_
        refine lv_iadd hx hb d_L_shift_322 ?_
        exact w_L_shift_323 S hR h4 hk_r0 hk_r3 hk_r4 hk_r5 hk_r6   hB225 hG (lv_sub hl [1, 2, 3, 4, 5, 6, 7, 8, 9, 10, 11, 12, 13, 14, 15, 16, 17, 18, 19, 20, 21, 22, 23] rfl) hf
    · have hf := hf.2 hc
      refine lv_iconst (v := (0 : Int32)) hx hb d_L_shift_300 (by decide) ?_
      refine lv_goto (tgt := 323) hx hb d_L_shift_301 (by decide) ?_
      exact w_L_shift_323 S hR h4 hk_r0 hk_r3 hk_r4 hk_r5 hk_r6   hB225 hG (lv_sub hl [1, 2, 3, 4, 5, 6, 7, 8, 9, 10, 11, 12, 13, 14, 15, 16, 17, 18, 19, 20, 21, 22, 23] rfl) hf
  · have hf := hf.2 hc
    refine lv_iload hx hb d_L_shift_288 (lv_at hl 23 rfl) ?_
    refine lv_goto (tgt := 323) hx hb d_L_shift_290 (by decide) ?_
    exact w_L_shift_323 S hR h4 hk_r0 hk_r3 hk_r4 hk_r5 hk_r6   hB225 hG (lv_sub hl [1, 2, 3, 4, 5, 6, 7, 8, 9, 10, 11, 12, 13, 14, 15, 16, 17, 18, 19, 20, 21, 22, 23] rfl) hf
set_option maxHeartbeats 4000000 in
set_option maxRecDepth 100000 in
theorem w_L_shift_225 {r0 : Nat} {x1 : Int32} {x2 : Int32} {r3 : Nat} {r4 : Nat} {r5 : Nat} {r6 : Nat} {x7 : Int32} {x10 : Int32} {x11 : Int32} {x13 : Int32} {Q : Int32 → St → Prop} {B225 : Int32 → Int32 → Int32 → Int32 → Int32 → Int32 → Int32 → Int32 → Int32 → Int32 → St → Prop} {x8 : Int32} {x9 : Int32} {x12 : Int32} {x14 : Int32} {x15 : Int32} {x16 : Int32} {x17 : Int32} {x18 : Int32} {x19 : Int32} {x20 : Int32} {σ : St} {H : Heap} {locs : List Loc} {ls : Array Slot} (S : SC A D ac st p m c method_6_code 30 s args "SweeperRoundsLaw" R cells slots 6 142) (hR : RtZ A D ac ad p l e R s m args below meth c method_6_code cells slots QW Q) (h4 : ad 999 = 4) (hk_r0 : kd r0 = 9) (hk_r3 : kd r3 = 30) (hk_r4 : kd r4 = 31) (hk_r5 : kd r5 = 32) (hk_r6 : kd r6 = 33) (hB225 : ∀ (x8 : Int32) (x9 : Int32) (x12 : Int32) (x14 : Int32) (x15 : Int32) (x16 : Int32) (x17 : Int32) (x18 : Int32) (x19 : Int32) (x20 : Int32) (σ : St) (H : Heap) (locs : List Loc) (ls : Array Slot), DG A D ac ad s σ H locs → lv_has ls 30 [(0, .ref (ad r0)), (1, .int x1), (2, .int x2), (3, .ref (ad r3)), (4, .ref (ad r4)), (5, .ref (ad r5)), (6, .ref (ad r6)), (7, .int x7), (8, .int x8), (9, .int x9), (10, .int x10), (11, .int x11), (12, .int x12), (13, .int x13), (14, .int x14), (15, .int x15), (16, .int x16), (17, .int x17), (18, .int x18), (19, .int x19), (20, .int x20)] → B225 x8 x9 x12 x14 x15 x16 x17 x18 x19 x20 σ → W p l e R s m args below meth c H locs cells slots QW (F0 m 225 ls [])) (hG : DG A D ac ad s σ H locs) (hl : lv_has ls 30 [(0, .ref (ad r0)), (1, .int x1), (2, .int x2), (3, .ref (ad r3)), (4, .ref (ad r4)), (5, .ref (ad r5)), (6, .ref (ad r6)), (7, .int x7), (8, .int x8), (9, .int x9), (10, .int x10), (11, .int x11), (12, .int x12), (13, .int x13), (14, .int x14), (15, .int x15), (16, .int x16), (17, .int x17), (18, .int x18), (19, .int x19), (20, .int x20)]) (hf : m_L_shift_225 r0 x1 x2 r3 r4 r5 r6 x7 x10 x11 x13 Q B225 x8 x9 x12 x14 x15 x16 x17 x18 x19 x20 σ) : W p l e R s m args below meth c H locs cells slots QW (F0 m 225 ls []) := by
  have hx := S.1.1
  have hb := S.1.2.1
  unfold m_L_shift_225 at hf
  refine lv_iload hx hb d_L_shift_225 (lv_at hl 20 rfl) ?_
  refine lv_iload_n hx hb d_L_shift_227 rfl (lv_at hl 2 rfl) ?_
  refine lv_icmp_ge (tgt := 664) hx hb d_L_shift_228 (by decide) (fun hc => ?_) (fun hc => ?_)
  · have hf := hf.1 hc
    exact w_L_shift_664 S hR h4 hk_r0 hk_r3 hk_r5 hk_r6    hG (lv_sub hl [0, 1, 2, 3, 5, 6, 7, 8, 9, 10, 11, 12, 13, 14, 15, 16, 17, 18, 19, 20] rfl) hf
  · have hf := hf.2 hc
    refine lv_iload hx hb d_L_shift_231 (lv_at hl 16 rfl) ?_
    refine lv_if_ne (tgt := 664) hx hb d_L_shift_233 (by decide) (fun hc => ?_) (fun hc => ?_)
    · have hf := hf.1 hc
      exact w_L_shift_664 S hR h4 hk_r0 hk_r3 hk_r5 hk_r6    hG (lv_sub hl [0, 1, 2, 3, 5, 6, 7, 8, 9, 10, 11, 12, 13, 14, 15, 16, 17, 18, 19, 20] rfl) hf
    · have hf := hf.2 hc
      refine lv_aload_n hx hb d_L_shift_236 rfl (lv_at hl 0 rfl) ?_
      refine lv_iload hx hb d_L_shift_237 (lv_at hl 20 rfl) ?_
      refine lv_iconst (v := (0 : Int32)) hx hb d_L_shift_239 (by decide) ?_
      refine iv_L_52 S hl.1 hG hk_r0 (c_9_leg l hk_r0 hf) ⟨Nat.le_of_ble_eq_true rfl, Nat.le_of_ble_eq_true rfl⟩ (Nat.le_of_ble_eq_true rfl) d_L_shift_240 (fun v_2 σ_1 hf H locs hG => ?_)
      refine lv_istore (lv' := [(21, .int v_2), (0, .ref (ad r0)), (1, .int x1), (2, .int x2), (3, .ref (ad r3)), (4, .ref (ad r4)), (5, .ref (ad r5)), (6, .ref (ad r6)), (7, .int x7), (8, .int x8), (9, .int x9), (10, .int x10), (11, .int x11), (12, .int x12), (13, .int x13), (14, .int x14), (15, .int x15), (16, .int x16), (17, .int x17), (18, .int x18), (19, .int x19), (20, .int x20)]) hx hb d_L_shift_243 hl (by decide) rfl (fun ls hl => ?_)
      refine lv_bipush (v := (10 : Int32)) hx hb d_L_shift_245 (by decide) ?_
      refine lv_aload_n hx hb d_L_shift_247 rfl (lv_at hl 1 rfl) ?_
      refine lv_iload hx hb d_L_shift_248 (lv_at hl 0 rfl) ?_
      refine lv_iconst (v := (1 : Int32)) hx hb d_L_shift_250 (by decide) ?_
      refine iv_L_47 S hl.1 hG hk_r0 (c_9_street l hk_r0 hf) ⟨Nat.le_of_ble_eq_true rfl, Nat.le_of_ble_eq_true rfl⟩ (Nat.le_of_ble_eq_true rfl) d_L_shift_251 (fun v_4 σ_3 hf H locs hG => ?_)
      refine lv_imul hx hb d_L_shift_254 ?_
      refine lv_topi (fun x22_5 ex22_5 => ?_)
      have hf := hf x22_5 ex22_5
      refine lv_istore (lv' := [(22, .int x22_5), (21, .int v_2), (0, .ref (ad r0)), (1, .int x1), (2, .int x2), (3, .ref (ad r3)), (4, .ref (ad r4)), (5, .ref (ad r5)), (6, .ref (ad r6)), (7, .int x7), (8, .int x8), (9, .int x9), (10, .int x10), (11, .int x11), (12, .int x12), (13, .int x13), (14, .int x14), (15, .int x15), (16, .int x16), (17, .int x17), (18, .int x18), (19, .int x19), (20, .int x20)]) hx hb d_L_shift_255 hl (by decide) rfl (fun ls hl => ?_)
      refine lv_iload hx hb d_L_shift_257 (lv_at hl 17 rfl) ?_
      refine lv_if_ge (tgt := 266) hx hb d_L_shift_259 (by decide) (fun hc => ?_) (fun hc => ?_)
      · have hf := hf.1 hc
        refine lv_aload_n hx hb d_L_shift_266 rfl (lv_at hl 2 rfl) ?_
        refine lv_iload hx hb d_L_shift_267 (lv_at hl 17 rfl) ?_
        refine lv_iconst (v := (1 : Int32)) hx hb d_L_shift_269 (by decide) ?_
        refine iv_L_47 S hl.1 hG hk_r0 (c_9_street l hk_r0 hf) ⟨Nat.le_of_ble_eq_true rfl, Nat.le_of_ble_eq_true rfl⟩ (Nat.le_of_ble_eq_true rfl) d_L_shift_270 (fun v_7 σ_6 hf H locs hG => ?_)
        refine lv_aload_n hx hb d_L_shift_273 rfl (lv_at hl 2 rfl) ?_
        refine lv_iload hx hb d_L_shift_274 (lv_at hl 1 rfl) ?_
        refine lv_iconst (v := (1 : Int32)) hx hb d_L_shift_276 (by decide) ?_
        refine iv_L_47 S hl.1 hG hk_r0 (c_9_street l hk_r0 hf) ⟨Nat.le_of_ble_eq_true rfl, Nat.le_of_ble_eq_true rfl⟩ (Nat.le_of_ble_eq_true rfl) d_L_shift_277 (fun v_9 σ_8 hf H locs hG => ?_)
        refine lv_isub hx hb d_L_shift_280 ?_
        exact w_L_shift_281 S hR h4 hk_r0 hk_r3 hk_r4 hk_r5 hk_r6   hB225 hG (lv_sub hl [2, 3, 4, 5, 6, 7, 8, 9, 10, 11, 12, 13, 14, 15, 16, 17, 18, 19, 20, 21, 22, 1, 0] rfl) hf
      · have hf := hf.2 hc
        refine lv_iconst (v := (0 : Int32)) hx hb d_L_shift_262 (by decide) ?_
        refine lv_goto (tgt := 281) hx hb d_L_shift_263 (by decide) ?_
        exact w_L_shift_281 S hR h4 hk_r0 hk_r3 hk_r4 hk_r5 hk_r6   hB225 hG (lv_sub hl [2, 3, 4, 5, 6, 7, 8, 9, 10, 11, 12, 13, 14, 15, 16, 17, 18, 19, 20, 21, 22, 1, 0] rfl) hf
set_option maxHeartbeats 4000000 in
set_option maxRecDepth 100000 in
theorem lp_L_shift_225 {r0 : Nat} {x1 : Int32} {x2 : Int32} {r3 : Nat} {r4 : Nat} {r5 : Nat} {r6 : Nat} {x7 : Int32} {x10 : Int32} {x11 : Int32} {x13 : Int32} {Q : Int32 → St → Prop} (S : SC A D ac st p m c method_6_code 30 s args "SweeperRoundsLaw" R cells slots 6 142) (hR : RtZ A D ac ad p l e R s m args below meth c method_6_code cells slots QW Q) (h4 : ad 999 = 4) (hk_r0 : kd r0 = 9) (hk_r3 : kd r3 = 30) (hk_r4 : kd r4 = 31) (hk_r5 : kd r5 = 32) (hk_r6 : kd r6 = 33) : ∀ (n : Nat) (x8 : Int32) (x9 : Int32) (x12 : Int32) (x14 : Int32) (x15 : Int32) (x16 : Int32) (x17 : Int32) (x18 : Int32) (x19 : Int32) (x20 : Int32) (σ : St) (H : Heap) (locs : List Loc) (ls : Array Slot), DG A D ac ad s σ H locs → lv_has ls 30 [(0, .ref (ad r0)), (1, .int x1), (2, .int x2), (3, .ref (ad r3)), (4, .ref (ad r4)), (5, .ref (ad r5)), (6, .ref (ad r6)), (7, .int x7), (8, .int x8), (9, .int x9), (10, .int x10), (11, .int x11), (12, .int x12), (13, .int x13), (14, .int x14), (15, .int x15), (16, .int x16), (17, .int x17), (18, .int x18), (19, .int x19), (20, .int x20)] → itN (m_L_shift_225 r0 x1 x2 r3 r4 r5 r6 x7 x10 x11 x13 Q) (fun _ _ _ _ _ _ _ _ _ _ _ => False) n x8 x9 x12 x14 x15 x16 x17 x18 x19 x20 σ → W p l e R s m args below meth c H locs cells slots QW (F0 m 225 ls []) := by
  intro n
  induction n with
  | zero =>
    intro x8 x9 x12 x14 x15 x16 x17 x18 x19 x20 σ H locs ls  hG hl hf
    exact hf.elim
  | succ n ih =>
    intro x8 x9 x12 x14 x15 x16 x17 x18 x19 x20 σ H locs ls  hG hl hf
    exact w_L_shift_225 S hR h4 hk_r0 hk_r3 hk_r4 hk_r5 hk_r6  ih hG hl hf
set_option maxHeartbeats 4000000 in
set_option maxRecDepth 100000 in
theorem w_L_shift_47 {r0 : Nat} {x1 : Int32} {x2 : Int32} {r3 : Nat} {r4 : Nat} {r5 : Nat} {r6 : Nat} {x7 : Int32} {B38 : Int32 → St → Prop} {Q : Int32 → St → Prop} {B47 : Int32 → St → Prop} {x8 : Int32} {σ : St} {H : Heap} {locs : List Loc} {ls : Array Slot} (S : SC A D ac st p m c method_6_code 30 s args "SweeperRoundsLaw" R cells slots 6 142) (hR : RtZ A D ac ad p l e R s m args below meth c method_6_code cells slots QW Q) (h4 : ad 999 = 4) (hk_r0 : kd r0 = 9) (hk_r3 : kd r3 = 30) (hk_r4 : kd r4 = 31) (hk_r5 : kd r5 = 32) (hk_r6 : kd r6 = 33) (hB38 : ∀ (x7 : Int32) (σ : St) (H : Heap) (locs : List Loc) (ls : Array Slot), DG A D ac ad s σ H locs → lv_has ls 30 [(0, .ref (ad r0)), (1, .int x1), (2, .int x2), (3, .ref (ad r3)), (4, .ref (ad r4)), (5, .ref (ad r5)), (6, .ref (ad r6)), (7, .int x7)] → B38 x7 σ → W p l e R s m args below meth c H locs cells slots QW (F0 m 38 ls [])) (hB47 : ∀ (x8 : Int32) (σ : St) (H : Heap) (locs : List Loc) (ls : Array Slot), DG A D ac ad s σ H locs → lv_has ls 30 [(0, .ref (ad r0)), (1, .int x1), (2, .int x2), (3, .ref (ad r3)), (4, .ref (ad r4)), (5, .ref (ad r5)), (6, .ref (ad r6)), (7, .int x7), (8, .int x8)] → B47 x8 σ → W p l e R s m args below meth c H locs cells slots QW (F0 m 47 ls [])) (hG : DG A D ac ad s σ H locs) (hl : lv_has ls 30 [(0, .ref (ad r0)), (1, .int x1), (2, .int x2), (3, .ref (ad r3)), (4, .ref (ad r4)), (5, .ref (ad r5)), (6, .ref (ad r6)), (7, .int x7), (8, .int x8)]) (hf : m_L_shift_47 r0 x1 x2 r3 r4 r5 r6 x7 B38 Q B47 x8 σ) : W p l e R s m args below meth c H locs cells slots QW (F0 m 47 ls []) := by
  have hx := S.1.1
  have hb := S.1.2.1
  unfold m_L_shift_47 at hf
  refine lv_iload hx hb d_L_shift_47 (lv_at hl 8 rfl) ?_
  refine lv_iconst (v := (2 : Int32)) hx hb d_L_shift_49 (by decide) ?_
  refine lv_aload_n hx hb d_L_shift_50 rfl (lv_at hl 0 rfl) ?_
  refine lv_iload hx hb d_L_shift_51 (lv_at hl 7 rfl) ?_
  refine lv_iconst (v := (0 : Int32)) hx hb d_L_shift_53 (by decide) ?_
  refine iv_L_47 S hl.1 hG hk_r0 (c_9_street l hk_r0 hf) ⟨Nat.le_of_ble_eq_true rfl, Nat.le_of_ble_eq_true rfl⟩ (Nat.le_of_ble_eq_true rfl) d_L_shift_54 (fun v_2 σ_1 hf H locs hG => ?_)
  refine lv_imul hx hb d_L_shift_57 ?_
  refine lv_icmp_ge (tgt := 142) hx hb d_L_shift_58 (by decide) (fun hc => ?_) (fun hc => ?_)
  · have hf := hf.1 hc
    obtain ⟨x7_3, ex7_3⟩ : ∃ y : Int32, y = x7 + 1 := ⟨_, rfl⟩
    have hf := hf x7_3 ex7_3
    refine lv_iinc (v := x7_3) (lv' := [(7, .int x7_3), (0, .ref (ad r0)), (1, .int x1), (2, .int x2), (3, .ref (ad r3)), (4, .ref (ad r4)), (5, .ref (ad r5)), (6, .ref (ad r6)), (8, .int x8)]) hx hb d_L_shift_142 hl (k := 7) rfl (by rw [ex7_3]; rfl) (by decide) rfl (fun ls hl => ?_)
    refine lv_goto (tgt := 38) hx hb d_L_shift_145 (by decide) ?_
    exact hB38 _ _ _ _ _   hG (lv_sub hl [1, 2, 3, 4, 5, 6, 7, 0] rfl) hf
  · have hf := hf.2 hc
    refine lv_aload_n hx hb d_L_shift_61 rfl (lv_at hl 3 rfl) ?_
    refine lv_bipush (v := (12 : Int32)) hx hb d_L_shift_62 (by decide) ?_
    refine lv_iload hx hb d_L_shift_64 (lv_at hl 7 rfl) ?_
    refine lv_imul hx hb d_L_shift_66 ?_
    refine lv_iload hx hb d_L_shift_67 (lv_at hl 8 rfl) ?_
    refine lv_iadd hx hb d_L_shift_69 ?_
    refine lv_aload_n hx hb d_L_shift_70 rfl (lv_at hl 0 rfl) ?_
    refine lv_iload hx hb d_L_shift_71 (lv_at hl 7 rfl) ?_
    refine lv_iload hx hb d_L_shift_73 (lv_at hl 8 rfl) ?_
    refine lv_aload_n hx hb d_L_shift_75 rfl (lv_at hl 0 rfl) ?_
    refine lv_iload hx hb d_L_shift_76 (lv_at hl 7 rfl) ?_
    refine lv_iconst (v := (0 : Int32)) hx hb d_L_shift_78 (by decide) ?_
    refine iv_L_47 S hl.1 hG hk_r0 (c_9_street l hk_r0 hf) ⟨Nat.le_of_ble_eq_true rfl, Nat.le_of_ble_eq_true rfl⟩ (Nat.le_of_ble_eq_true rfl) d_L_shift_79 (fun v_5 σ_4 hf H locs hG => ?_)
    refine lv_idiv hx hb d_L_shift_82 hf.1 ?_
    have hf := hf.2
    refine lv_iload hx hb d_L_shift_83 (lv_at hl 8 rfl) ?_
    refine lv_aload_n hx hb d_L_shift_85 rfl (lv_at hl 0 rfl) ?_
    refine lv_iload hx hb d_L_shift_86 (lv_at hl 7 rfl) ?_
    refine lv_iconst (v := (0 : Int32)) hx hb d_L_shift_88 (by decide) ?_
    refine iv_L_47 S hl.1 hG hk_r0 (c_9_street l hk_r0 hf) ⟨Nat.le_of_ble_eq_true rfl, Nat.le_of_ble_eq_true rfl⟩ (Nat.le_of_ble_eq_true rfl) d_L_shift_89 (fun v_7 σ_6 hf H locs hG => ?_)
    refine lv_irem hx hb d_L_shift_92 hf.1 ?_
    have hf := hf.2
    refine lv_iconst (v := (0 : Int32)) hx hb d_L_shift_93 (by decide) ?_
    refine iv_L_50 S hl.1 hG hk_r0 (c_9_cell l hk_r0 hf) ⟨Nat.le_of_ble_eq_true rfl, Nat.le_of_ble_eq_true rfl⟩ (Nat.le_of_ble_eq_true rfl) d_L_shift_94 (fun v_9 σ_8 hf H locs hG => ?_)
    refine mls S hG h4 30 rfl hk_r3 hf.1 d_L_shift_97 (fun σ_10 eσ_10 H locs hG => ?_)
    have hf := hf.2 σ_10 eσ_10
    refine lv_aload hx hb d_L_shift_98 (lv_at hl 4 rfl) ?_
    refine lv_bipush (v := (12 : Int32)) hx hb d_L_shift_100 (by decide) ?_
    refine lv_iload hx hb d_L_shift_102 (lv_at hl 7 rfl) ?_
    refine lv_imul hx hb d_L_shift_104 ?_
    refine lv_iload hx hb d_L_shift_105 (lv_at hl 8 rfl) ?_
    refine lv_iadd hx hb d_L_shift_107 ?_
    refine lv_aload_n hx hb d_L_shift_108 rfl (lv_at hl 0 rfl) ?_
    refine lv_iload hx hb d_L_shift_109 (lv_at hl 7 rfl) ?_
    refine lv_iload hx hb d_L_shift_111 (lv_at hl 8 rfl) ?_
    refine lv_aload_n hx hb d_L_shift_113 rfl (lv_at hl 0 rfl) ?_
    refine lv_iload hx hb d_L_shift_114 (lv_at hl 7 rfl) ?_
    refine lv_iconst (v := (0 : Int32)) hx hb d_L_shift_116 (by decide) ?_
    refine iv_L_47 S hl.1 hG hk_r0 (c_9_street l hk_r0 hf) ⟨Nat.le_of_ble_eq_true rfl, Nat.le_of_ble_eq_true rfl⟩ (Nat.le_of_ble_eq_true rfl) d_L_shift_117 (fun v_12 σ_11 hf H locs hG => ?_)
    refine lv_idiv hx hb d_L_shift_120 hf.1 ?_
    have hf := hf.2
    refine lv_iload hx hb d_L_shift_121 (lv_at hl 8 rfl) ?_
    refine lv_aload_n hx hb d_L_shift_123 rfl (lv_at hl 0 rfl) ?_
    refine lv_iload hx hb d_L_shift_124 (lv_at hl 7 rfl) ?_
    refine lv_iconst (v := (0 : Int32)) hx hb d_L_shift_126 (by decide) ?_
    refine iv_L_47 S hl.1 hG hk_r0 (c_9_street l hk_r0 hf) ⟨Nat.le_of_ble_eq_true rfl, Nat.le_of_ble_eq_true rfl⟩ (Nat.le_of_ble_eq_true rfl) d_L_shift_127 (fun v_14 σ_13 hf H locs hG => ?_)
    refine lv_irem hx hb d_L_shift_130 hf.1 ?_
    have hf := hf.2
    refine lv_iconst (v := (1 : Int32)) hx hb d_L_shift_131 (by decide) ?_
    refine iv_L_50 S hl.1 hG hk_r0 (c_9_cell l hk_r0 hf) ⟨Nat.le_of_ble_eq_true rfl, Nat.le_of_ble_eq_true rfl⟩ (Nat.le_of_ble_eq_true rfl) d_L_shift_132 (fun v_16 σ_15 hf H locs hG => ?_)
    refine mls S hG h4 31 rfl hk_r4 hf.1 d_L_shift_135 (fun σ_17 eσ_17 H locs hG => ?_)
    have hf := hf.2 σ_17 eσ_17
    obtain ⟨x8_18, ex8_18⟩ : ∃ y : Int32, y = x8 + 1 := ⟨_, rfl⟩
    have hf := hf x8_18 ex8_18
    refine lv_iinc (v := x8_18) (lv' := [(8, .int x8_18), (0, .ref (ad r0)), (1, .int x1), (2, .int x2), (3, .ref (ad r3)), (4, .ref (ad r4)), (5, .ref (ad r5)), (6, .ref (ad r6)), (7, .int x7)]) hx hb d_L_shift_136 hl (k := 8) rfl (by rw [ex8_18]; rfl) (by decide) rfl (fun ls hl => ?_)
    refine lv_goto (tgt := 47) hx hb d_L_shift_139 (by decide) ?_
    exact hB47 _ _ _ _ _   hG (lv_sub hl [1, 2, 3, 4, 5, 6, 7, 8, 0] rfl) hf
set_option maxHeartbeats 4000000 in
set_option maxRecDepth 100000 in
theorem lp_L_shift_47 {r0 : Nat} {x1 : Int32} {x2 : Int32} {r3 : Nat} {r4 : Nat} {r5 : Nat} {r6 : Nat} {x7 : Int32} {B38 : Int32 → St → Prop} {Q : Int32 → St → Prop} (S : SC A D ac st p m c method_6_code 30 s args "SweeperRoundsLaw" R cells slots 6 142) (hR : RtZ A D ac ad p l e R s m args below meth c method_6_code cells slots QW Q) (h4 : ad 999 = 4) (hk_r0 : kd r0 = 9) (hk_r3 : kd r3 = 30) (hk_r4 : kd r4 = 31) (hk_r5 : kd r5 = 32) (hk_r6 : kd r6 = 33) (hB38 : ∀ (x7 : Int32) (σ : St) (H : Heap) (locs : List Loc) (ls : Array Slot), DG A D ac ad s σ H locs → lv_has ls 30 [(0, .ref (ad r0)), (1, .int x1), (2, .int x2), (3, .ref (ad r3)), (4, .ref (ad r4)), (5, .ref (ad r5)), (6, .ref (ad r6)), (7, .int x7)] → B38 x7 σ → W p l e R s m args below meth c H locs cells slots QW (F0 m 38 ls [])) : ∀ (n : Nat) (x8 : Int32) (σ : St) (H : Heap) (locs : List Loc) (ls : Array Slot), DG A D ac ad s σ H locs → lv_has ls 30 [(0, .ref (ad r0)), (1, .int x1), (2, .int x2), (3, .ref (ad r3)), (4, .ref (ad r4)), (5, .ref (ad r5)), (6, .ref (ad r6)), (7, .int x7), (8, .int x8)] → itN (m_L_shift_47 r0 x1 x2 r3 r4 r5 r6 x7 B38 Q) (fun _ _ => False) n x8 σ → W p l e R s m args below meth c H locs cells slots QW (F0 m 47 ls []) := by
  intro n
  induction n with
  | zero =>
    intro x8 σ H locs ls  hG hl hf
    exact hf.elim
  | succ n ih =>
    intro x8 σ H locs ls  hG hl hf
    exact w_L_shift_47 S hR h4 hk_r0 hk_r3 hk_r4 hk_r5 hk_r6 hB38 ih hG hl hf
set_option maxHeartbeats 4000000 in
set_option maxRecDepth 100000 in
theorem w_L_shift_38 {r0 : Nat} {x1 : Int32} {x2 : Int32} {r3 : Nat} {r4 : Nat} {r5 : Nat} {r6 : Nat} {Q : Int32 → St → Prop} {B38 : Int32 → St → Prop} {x7 : Int32} {σ : St} {H : Heap} {locs : List Loc} {ls : Array Slot} (S : SC A D ac st p m c method_6_code 30 s args "SweeperRoundsLaw" R cells slots 6 142) (hR : RtZ A D ac ad p l e R s m args below meth c method_6_code cells slots QW Q) (h4 : ad 999 = 4) (hk_r0 : kd r0 = 9) (hk_r3 : kd r3 = 30) (hk_r4 : kd r4 = 31) (hk_r5 : kd r5 = 32) (hk_r6 : kd r6 = 33) (hB38 : ∀ (x7 : Int32) (σ : St) (H : Heap) (locs : List Loc) (ls : Array Slot), DG A D ac ad s σ H locs → lv_has ls 30 [(0, .ref (ad r0)), (1, .int x1), (2, .int x2), (3, .ref (ad r3)), (4, .ref (ad r4)), (5, .ref (ad r5)), (6, .ref (ad r6)), (7, .int x7)] → B38 x7 σ → W p l e R s m args below meth c H locs cells slots QW (F0 m 38 ls [])) (hG : DG A D ac ad s σ H locs) (hl : lv_has ls 30 [(0, .ref (ad r0)), (1, .int x1), (2, .int x2), (3, .ref (ad r3)), (4, .ref (ad r4)), (5, .ref (ad r5)), (6, .ref (ad r6)), (7, .int x7)]) (hf : m_L_shift_38 r0 x1 x2 r3 r4 r5 r6 Q B38 x7 σ) : W p l e R s m args below meth c H locs cells slots QW (F0 m 38 ls []) := by
  have hx := S.1.1
  have hb := S.1.2.1
  unfold m_L_shift_38 at hf
  refine lv_iload hx hb d_L_shift_38 (lv_at hl 7 rfl) ?_
  refine lv_iload_n hx hb d_L_shift_40 rfl (lv_at hl 1 rfl) ?_
  refine lv_icmp_ge (tgt := 148) hx hb d_L_shift_41 (by decide) (fun hc => ?_) (fun hc => ?_)
  · have hf := hf.1 hc
    refine lv_aload_n hx hb d_L_shift_148 rfl (lv_at hl 0 rfl) ?_
    refine lv_iconst (v := (2 : Int32)) hx hb d_L_shift_149 (by decide) ?_
    refine iv_L_44 S hl.1 hG hk_r0 (c_9_count l hk_r0 hf) ⟨Nat.le_of_ble_eq_true rfl, Nat.le_of_ble_eq_true rfl⟩ (Nat.le_of_ble_eq_true rfl) d_L_shift_150 (fun v_2 σ_1 hf H locs hG => ?_)
    refine lv_istore (lv' := [(7, .int v_2), (0, .ref (ad r0)), (1, .int x1), (2, .int x2), (3, .ref (ad r3)), (4, .ref (ad r4)), (5, .ref (ad r5)), (6, .ref (ad r6))]) hx hb d_L_shift_153 hl (by decide) rfl (fun ls hl => ?_)
    refine lv_aload_n hx hb d_L_shift_155 rfl (lv_at hl 1 rfl) ?_
    refine lv_iconst (v := (3 : Int32)) hx hb d_L_shift_156 (by decide) ?_
    refine iv_L_44 S hl.1 hG hk_r0 (c_9_count l hk_r0 hf) ⟨Nat.le_of_ble_eq_true rfl, Nat.le_of_ble_eq_true rfl⟩ (Nat.le_of_ble_eq_true rfl) d_L_shift_157 (fun v_4 σ_3 hf H locs hG => ?_)
    refine lv_istore (lv' := [(8, .int v_4), (7, .int v_2), (0, .ref (ad r0)), (1, .int x1), (2, .int x2), (3, .ref (ad r3)), (4, .ref (ad r4)), (5, .ref (ad r5)), (6, .ref (ad r6))]) hx hb d_L_shift_160 hl (by decide) rfl (fun ls hl => ?_)
    refine lv_aload_n hx hb d_L_shift_162 rfl (lv_at hl 2 rfl) ?_
    refine lv_iconst (v := (4 : Int32)) hx hb d_L_shift_163 (by decide) ?_
    refine iv_L_44 S hl.1 hG hk_r0 (c_9_count l hk_r0 hf) ⟨Nat.le_of_ble_eq_true rfl, Nat.le_of_ble_eq_true rfl⟩ (Nat.le_of_ble_eq_true rfl) d_L_shift_164 (fun v_6 σ_5 hf H locs hG => ?_)
    refine lv_istore (lv' := [(9, .int v_6), (8, .int v_4), (7, .int v_2), (0, .ref (ad r0)), (1, .int x1), (2, .int x2), (3, .ref (ad r3)), (4, .ref (ad r4)), (5, .ref (ad r5)), (6, .ref (ad r6))]) hx hb d_L_shift_167 hl (by decide) rfl (fun ls hl => ?_)
    refine lv_aload_n hx hb d_L_shift_169 rfl (lv_at hl 3 rfl) ?_
    refine lv_iconst (v := (5 : Int32)) hx hb d_L_shift_170 (by decide) ?_
    refine iv_L_44 S hl.1 hG hk_r0 (c_9_count l hk_r0 hf) ⟨Nat.le_of_ble_eq_true rfl, Nat.le_of_ble_eq_true rfl⟩ (Nat.le_of_ble_eq_true rfl) d_L_shift_171 (fun v_8 σ_7 hf H locs hG => ?_)
    refine lv_istore (lv' := [(10, .int v_8), (9, .int v_6), (8, .int v_4), (7, .int v_2), (0, .ref (ad r0)), (1, .int x1), (2, .int x2), (3, .ref (ad r3)), (4, .ref (ad r4)), (5, .ref (ad r5)), (6, .ref (ad r6))]) hx hb d_L_shift_174 hl (by decide) rfl (fun ls hl => ?_)
    refine lv_aload_n hx hb d_L_shift_176 rfl (lv_at hl 4 rfl) ?_
    refine lv_bipush (v := (6 : Int32)) hx hb d_L_shift_177 (by decide) ?_
    refine iv_L_44 S hl.1 hG hk_r0 (c_9_count l hk_r0 hf) ⟨Nat.le_of_ble_eq_true rfl, Nat.le_of_ble_eq_true rfl⟩ (Nat.le_of_ble_eq_true rfl) d_L_shift_179 (fun v_10 σ_9 hf H locs hG => ?_)
    refine lv_istore (lv' := [(11, .int v_10), (10, .int v_8), (9, .int v_6), (8, .int v_4), (7, .int v_2), (0, .ref (ad r0)), (1, .int x1), (2, .int x2), (3, .ref (ad r3)), (4, .ref (ad r4)), (5, .ref (ad r5)), (6, .ref (ad r6))]) hx hb d_L_shift_182 hl (by decide) rfl (fun ls hl => ?_)
    refine lv_aload_n hx hb d_L_shift_184 rfl (lv_at hl 5 rfl) ?_
    refine lv_bipush (v := (7 : Int32)) hx hb d_L_shift_185 (by decide) ?_
    refine iv_L_44 S hl.1 hG hk_r0 (c_9_count l hk_r0 hf) ⟨Nat.le_of_ble_eq_true rfl, Nat.le_of_ble_eq_true rfl⟩ (Nat.le_of_ble_eq_true rfl) d_L_shift_187 (fun v_12 σ_11 hf H locs hG => ?_)
    refine lv_istore (lv' := [(12, .int v_12), (11, .int v_10), (10, .int v_8), (9, .int v_6), (8, .int v_4), (7, .int v_2), (0, .ref (ad r0)), (1, .int x1), (2, .int x2), (3, .ref (ad r3)), (4, .ref (ad r4)), (5, .ref (ad r5)), (6, .ref (ad r6))]) hx hb d_L_shift_190 hl (by decide) rfl (fun ls hl => ?_)
    refine lv_aload_n hx hb d_L_shift_192 rfl (lv_at hl 6 rfl) ?_
    refine lv_bipush (v := (8 : Int32)) hx hb d_L_shift_193 (by decide) ?_
    refine iv_L_44 S hl.1 hG hk_r0 (c_9_count l hk_r0 hf) ⟨Nat.le_of_ble_eq_true rfl, Nat.le_of_ble_eq_true rfl⟩ (Nat.le_of_ble_eq_true rfl) d_L_shift_195 (fun v_14 σ_13 hf H locs hG => ?_)
    refine lv_istore (lv' := [(13, .int v_14), (12, .int v_12), (11, .int v_10), (10, .int v_8), (9, .int v_6), (8, .int v_4), (7, .int v_2), (0, .ref (ad r0)), (1, .int x1), (2, .int x2), (3, .ref (ad r3)), (4, .ref (ad r4)), (5, .ref (ad r5)), (6, .ref (ad r6))]) hx hb d_L_shift_198 hl (by decide) rfl (fun ls hl => ?_)
    refine lv_aload_n hx hb d_L_shift_200 rfl (lv_at hl 7 rfl) ?_
    refine lv_iconst (v := (5 : Int32)) hx hb d_L_shift_201 (by decide) ?_
    refine iv_L_40 S hl.1 hG hk_r0 (c_9_account l hk_r0 hf) ⟨Nat.le_of_ble_eq_true rfl, Nat.le_of_ble_eq_true rfl⟩ (Nat.le_of_ble_eq_true rfl) d_L_shift_202 (fun v_16 σ_15 hf H locs hG => ?_)
    refine lv_istore (lv' := [(14, .int v_16), (13, .int v_14), (12, .int v_12), (11, .int v_10), (10, .int v_8), (9, .int v_6), (8, .int v_4), (7, .int v_2), (0, .ref (ad r0)), (1, .int x1), (2, .int x2), (3, .ref (ad r3)), (4, .ref (ad r4)), (5, .ref (ad r5)), (6, .ref (ad r6))]) hx hb d_L_shift_205 hl (by decide) rfl (fun ls hl => ?_)
    refine lv_iconst (v := (-1 : Int32)) hx hb d_L_shift_207 (by decide) ?_
    refine lv_istore (lv' := [(15, .int (-1 : Int32)), (14, .int v_16), (13, .int v_14), (12, .int v_12), (11, .int v_10), (10, .int v_8), (9, .int v_6), (8, .int v_4), (7, .int v_2), (0, .ref (ad r0)), (1, .int x1), (2, .int x2), (3, .ref (ad r3)), (4, .ref (ad r4)), (5, .ref (ad r5)), (6, .ref (ad r6))]) hx hb d_L_shift_208 hl (by decide) rfl (fun ls hl => ?_)
    refine lv_iconst (v := (0 : Int32)) hx hb d_L_shift_210 (by decide) ?_
    refine lv_istore (lv' := [(16, .int (0 : Int32)), (15, .int (-1 : Int32)), (14, .int v_16), (13, .int v_14), (12, .int v_12), (11, .int v_10), (10, .int v_8), (9, .int v_6), (8, .int v_4), (7, .int v_2), (0, .ref (ad r0)), (1, .int x1), (2, .int x2), (3, .ref (ad r3)), (4, .ref (ad r4)), (5, .ref (ad r5)), (6, .ref (ad r6))]) hx hb d_L_shift_211 hl (by decide) rfl (fun ls hl => ?_)
    refine lv_iconst (v := (0 : Int32)) hx hb d_L_shift_213 (by decide) ?_
    refine lv_istore (lv' := [(17, .int (0 : Int32)), (16, .int (0 : Int32)), (15, .int (-1 : Int32)), (14, .int v_16), (13, .int v_14), (12, .int v_12), (11, .int v_10), (10, .int v_8), (9, .int v_6), (8, .int v_4), (7, .int v_2), (0, .ref (ad r0)), (1, .int x1), (2, .int x2), (3, .ref (ad r3)), (4, .ref (ad r4)), (5, .ref (ad r5)), (6, .ref (ad r6))]) hx hb d_L_shift_214 hl (by decide) rfl (fun ls hl => ?_)
    refine lv_iconst (v := (0 : Int32)) hx hb d_L_shift_216 (by decide) ?_
    refine lv_istore (lv' := [(18, .int (0 : Int32)), (17, .int (0 : Int32)), (16, .int (0 : Int32)), (15, .int (-1 : Int32)), (14, .int v_16), (13, .int v_14), (12, .int v_12), (11, .int v_10), (10, .int v_8), (9, .int v_6), (8, .int v_4), (7, .int v_2), (0, .ref (ad r0)), (1, .int x1), (2, .int x2), (3, .ref (ad r3)), (4, .ref (ad r4)), (5, .ref (ad r5)), (6, .ref (ad r6))]) hx hb d_L_shift_217 hl (by decide) rfl (fun ls hl => ?_)
    refine lv_iconst (v := (0 : Int32)) hx hb d_L_shift_219 (by decide) ?_
    refine lv_istore (lv' := [(19, .int (0 : Int32)), (18, .int (0 : Int32)), (17, .int (0 : Int32)), (16, .int (0 : Int32)), (15, .int (-1 : Int32)), (14, .int v_16), (13, .int v_14), (12, .int v_12), (11, .int v_10), (10, .int v_8), (9, .int v_6), (8, .int v_4), (7, .int v_2), (0, .ref (ad r0)), (1, .int x1), (2, .int x2), (3, .ref (ad r3)), (4, .ref (ad r4)), (5, .ref (ad r5)), (6, .ref (ad r6))]) hx hb d_L_shift_220 hl (by decide) rfl (fun ls hl => ?_)
    refine lv_iconst (v := (0 : Int32)) hx hb d_L_shift_222 (by decide) ?_
    refine lv_istore (lv' := [(20, .int (0 : Int32)), (19, .int (0 : Int32)), (18, .int (0 : Int32)), (17, .int (0 : Int32)), (16, .int (0 : Int32)), (15, .int (-1 : Int32)), (14, .int v_16), (13, .int v_14), (12, .int v_12), (11, .int v_10), (10, .int v_8), (9, .int v_6), (8, .int v_4), (7, .int v_2), (0, .ref (ad r0)), (1, .int x1), (2, .int x2), (3, .ref (ad r3)), (4, .ref (ad r4)), (5, .ref (ad r5)), (6, .ref (ad r6))]) hx hb d_L_shift_223 hl (by decide) rfl (fun ls hl => ?_)
    exact lp_L_shift_225 S hR h4 hk_r0 hk_r3 hk_r4 hk_r5 hk_r6  FU _ _ _ _ _ _ _ _ _ _ _ _ _ _  hG (lv_sub hl [14, 15, 16, 17, 18, 19, 20, 13, 12, 11, 10, 9, 8, 7, 6, 5, 4, 3, 2, 1, 0] rfl) hf
  · have hf := hf.2 hc
    refine lv_iconst (v := (0 : Int32)) hx hb d_L_shift_44 (by decide) ?_
    refine lv_istore (lv' := [(8, .int (0 : Int32)), (0, .ref (ad r0)), (1, .int x1), (2, .int x2), (3, .ref (ad r3)), (4, .ref (ad r4)), (5, .ref (ad r5)), (6, .ref (ad r6)), (7, .int x7)]) hx hb d_L_shift_45 hl (by decide) rfl (fun ls hl => ?_)
    exact lp_L_shift_47 S hR h4 hk_r0 hk_r3 hk_r4 hk_r5 hk_r6 hB38 FU _ _ _ _ _  hG (lv_sub hl [1, 2, 3, 4, 5, 6, 7, 8, 0] rfl) hf
set_option maxHeartbeats 4000000 in
set_option maxRecDepth 100000 in
theorem lp_L_shift_38 {r0 : Nat} {x1 : Int32} {x2 : Int32} {r3 : Nat} {r4 : Nat} {r5 : Nat} {r6 : Nat} {Q : Int32 → St → Prop} (S : SC A D ac st p m c method_6_code 30 s args "SweeperRoundsLaw" R cells slots 6 142) (hR : RtZ A D ac ad p l e R s m args below meth c method_6_code cells slots QW Q) (h4 : ad 999 = 4) (hk_r0 : kd r0 = 9) (hk_r3 : kd r3 = 30) (hk_r4 : kd r4 = 31) (hk_r5 : kd r5 = 32) (hk_r6 : kd r6 = 33) : ∀ (n : Nat) (x7 : Int32) (σ : St) (H : Heap) (locs : List Loc) (ls : Array Slot), DG A D ac ad s σ H locs → lv_has ls 30 [(0, .ref (ad r0)), (1, .int x1), (2, .int x2), (3, .ref (ad r3)), (4, .ref (ad r4)), (5, .ref (ad r5)), (6, .ref (ad r6)), (7, .int x7)] → itN (m_L_shift_38 r0 x1 x2 r3 r4 r5 r6 Q) (fun _ _ => False) n x7 σ → W p l e R s m args below meth c H locs cells slots QW (F0 m 38 ls []) := by
  intro n
  induction n with
  | zero =>
    intro x7 σ H locs ls  hG hl hf
    exact hf.elim
  | succ n ih =>
    intro x7 σ H locs ls  hG hl hf
    exact w_L_shift_38 S hR h4 hk_r0 hk_r3 hk_r4 hk_r5 hk_r6  ih hG hl hf
set_option maxHeartbeats 4000000 in
set_option maxRecDepth 100000 in
theorem w_L_shift_35 {r0 : Nat} {x1 : Int32} {x2 : Int32} {r3 : Nat} {r4 : Nat} {r5 : Nat} {r6 : Nat} {Q : Int32 → St → Prop} {σ : St} {H : Heap} {locs : List Loc} {ls : Array Slot} (S : SC A D ac st p m c method_6_code 30 s args "SweeperRoundsLaw" R cells slots 6 142) (hR : RtZ A D ac ad p l e R s m args below meth c method_6_code cells slots QW Q) (h4 : ad 999 = 4) (hk_r0 : kd r0 = 9) (hk_r3 : kd r3 = 30) (hk_r4 : kd r4 = 31) (hk_r5 : kd r5 = 32) (hk_r6 : kd r6 = 33) (hG : DG A D ac ad s σ H locs) (hl : lv_has ls 30 [(0, .ref (ad r0)), (1, .int x1), (2, .int x2), (3, .ref (ad r3)), (4, .ref (ad r4)), (5, .ref (ad r5)), (6, .ref (ad r6))]) (hf : m_L_shift_35 r0 x1 x2 r3 r4 r5 r6 Q σ) : W p l e R s m args below meth c H locs cells slots QW (F0 m 35 ls []) := by
  have hx := S.1.1
  have hb := S.1.2.1
  unfold m_L_shift_35 at hf
  refine lv_iconst (v := (0 : Int32)) hx hb d_L_shift_35 (by decide) ?_
  refine lv_istore (lv' := [(7, .int (0 : Int32)), (0, .ref (ad r0)), (1, .int x1), (2, .int x2), (3, .ref (ad r3)), (4, .ref (ad r4)), (5, .ref (ad r5)), (6, .ref (ad r6))]) hx hb d_L_shift_36 hl (by decide) rfl (fun ls hl => ?_)
  exact lp_L_shift_38 S hR h4 hk_r0 hk_r3 hk_r4 hk_r5 hk_r6  FU _ _ _ _ _  hG (lv_sub hl [1, 2, 3, 4, 5, 6, 7, 0] rfl) hf
end MB
def zer4 (σ : St) : St := wrA (wrA (wrA (wrA σ 354 (fun _ => 0)) 355 (fun _ => 0)) 356 (fun _ => 0)) 357 (fun _ => 0)
def m_L_shift (r0 : Nat) (Q : Int32 → St → Prop) (σ : St) : Prop :=
  m_9_count r0 (0 : Int32) (fun (v_2 : Int32) (σ_1 : St) => m_9_count r0 (1 : Int32) (fun (v_4 : Int32) (σ_3 : St) => ∀ σ_5 : St, σ_5 = zer4 σ_3 → m_L_shift_35 r0 v_2 v_4 354 355 356 357 Q σ_5) σ_1) σ
theorem arrV_same {cA : ClassId} {n : Nat} {f g : Nat → Value} (h : ∀ j, j < n → f j = g j) : arrV cA n f = arrV cA n g := by
  unfold arrV
  congr 1
  apply Array.ext
  · simp
  · intro i h1 h2
    simp only [Array.getElem_ofFn]
    exact h i (by simpa using h1)
theorem cellQ {cA : ClassId} {n : Nat} {f g : Nat → Option Nat} (h : ∀ j, j < n → f j = g j) : vp_cell cA (n, .inr (.inr (.inr (.inr f)))) = vp_cell cA (n, .inr (.inr (.inr (.inr g)))) := by
  show arrV cA n (fun j => va_rf (f j)) = arrV cA n (fun j => va_rf (g j))
  exact arrV_same fun j hj => by rw [h j hj]
theorem kd_cases : ∀ a, a < 358 → kd a < 10 ∨ kd a = 23 ∨ kd a = 24 ∨ kd a = 25 ∨ isPK (kd a) = true ∨ isLK (kd a) = true := by decide +kernel
theorem fg_0 {ad ad' : Nat → Nat} {σ σ' : St} {k : Nat} (h : kd k = 0) (hA : ∀ k, k < 354 → ad' k = ad k) (hσ : σ'.1 k = σ.1 k) : fsOf ad' σ' k 0 = fsOf ad σ k 0 := by simp only [fsOf, hσ, hA _ (kd_lo (kr_0_0 h) (by decide))]
theorem fg_1 {ad ad' : Nat → Nat} {σ σ' : St} {k : Nat} (h : kd k = 1) (hA : ∀ k, k < 354 → ad' k = ad k) (hσ : σ'.1 k = σ.1 k) : fsOf ad' σ' k 1 = fsOf ad σ k 1 := by simp only [fsOf, hσ]
theorem fg_2 {ad ad' : Nat → Nat} {σ σ' : St} {k : Nat} (h : kd k = 2) (hA : ∀ k, k < 354 → ad' k = ad k) (hσ : σ'.1 k = σ.1 k) : fsOf ad' σ' k 2 = fsOf ad σ k 2 := by simp only [fsOf, hσ, hA _ (kd_lo (kr_2_0 h) (by decide)), hA _ (kd_lo (kr_2_2 h) (by decide))]
theorem fg_3 {ad ad' : Nat → Nat} {σ σ' : St} {k : Nat} (h : kd k = 3) (hA : ∀ k, k < 354 → ad' k = ad k) (hσ : σ'.1 k = σ.1 k) : fsOf ad' σ' k 3 = fsOf ad σ k 3 := by simp only [fsOf, hσ, hA _ (kd_lo (kr_3_0 h) (by decide))]
theorem fg_4 {ad ad' : Nat → Nat} {σ σ' : St} {k : Nat} (h : kd k = 4) (hA : ∀ k, k < 354 → ad' k = ad k) (hσ : σ'.1 k = σ.1 k) : fsOf ad' σ' k 4 = fsOf ad σ k 4 := by simp only [fsOf, hσ]
theorem fg_5 {ad ad' : Nat → Nat} {σ σ' : St} {k : Nat} (h : kd k = 5) (hA : ∀ k, k < 354 → ad' k = ad k) (hσ : σ'.1 k = σ.1 k) : fsOf ad' σ' k 5 = fsOf ad σ k 5 := by simp only [fsOf, hσ, hA _ (kd_lo (kr_5_0 h) (by decide))]
theorem fg_6 {ad ad' : Nat → Nat} {σ σ' : St} {k : Nat} (h : kd k = 6) (hA : ∀ k, k < 354 → ad' k = ad k) (hσ : σ'.1 k = σ.1 k) : fsOf ad' σ' k 6 = fsOf ad σ k 6 := by simp only [fsOf, hσ, hA _ (kd_lo (kr_6_3 h) (by decide)), hA _ (kd_lo (kr_6_4 h) (by decide))]
theorem fg_7 {ad ad' : Nat → Nat} {σ σ' : St} {k : Nat} (h : kd k = 7) (hA : ∀ k, k < 354 → ad' k = ad k) (hσ : σ'.1 k = σ.1 k) : fsOf ad' σ' k 7 = fsOf ad σ k 7 := by simp only [fsOf, hσ, hA _ (kd_lo (kr_7_0 h) (by decide))]
theorem fg_8 {ad ad' : Nat → Nat} {σ σ' : St} {k : Nat} (h : kd k = 8) (hA : ∀ k, k < 354 → ad' k = ad k) (hσ : σ'.1 k = σ.1 k) : fsOf ad' σ' k 8 = fsOf ad σ k 8 := by simp only [fsOf, hσ, hA _ (kd_lo (kr_8_0 h) (by decide)), hA _ (kd_lo (kr_8_2 h) (by decide)), hA _ (kd_lo (kr_8_5 h) (by decide)), hA _ (kd_lo (kr_8_8 h) (by decide)), hA _ (kd_lo (kr_8_9 h) (by decide))]
theorem fg_9 {ad ad' : Nat → Nat} {σ σ' : St} {k : Nat} (h : kd k = 9) (hA : ∀ k, k < 354 → ad' k = ad k) (hσ : σ'.1 k = σ.1 k) : fsOf ad' σ' k 9 = fsOf ad σ k 9 := by simp only [fsOf, hσ, hA _ (kd_lo (kr_9_0 h) (by decide)), hA _ (kd_lo (kr_9_1 h) (by decide)), hA _ (kd_lo (kr_9_2 h) (by decide)), hA _ (kd_lo (kr_9_3 h) (by decide)), hA _ (kd_lo (kr_9_4 h) (by decide)), hA _ (kd_lo (kr_9_5 h) (by decide)), hA _ (kd_lo (kr_9_6 h) (by decide)), hA _ (kd_lo (kr_9_7 h) (by decide))]
theorem fg_all {ad ad' : Nat → Nat} {σ σ' : St} {k ci : Nat} (hc : ci < 10) (h : kd k = ci) (hA : ∀ k, k < 354 → ad' k = ad k) (hσ : σ'.1 k = σ.1 k) : fsOf ad' σ' k ci = fsOf ad σ k ci := by
  match ci, hc with
  | 0, _ => exact fg_0 h hA hσ
  | 1, _ => exact fg_1 h hA hσ
  | 2, _ => exact fg_2 h hA hσ
  | 3, _ => exact fg_3 h hA hσ
  | 4, _ => exact fg_4 h hA hσ
  | 5, _ => exact fg_5 h hA hσ
  | 6, _ => exact fg_6 h hA hσ
  | 7, _ => exact fg_7 h hA hσ
  | 8, _ => exact fg_8 h hA hσ
  | 9, _ => exact fg_9 h hA hσ
theorem im_at {D : va_G} {ac : Nat → ClassId} {ad ad' : Nat → Nat} {σ σ' : St} {k q : Nat} {H : Heap} (hk : k < 354) (hA : ∀ k, k < 354 → ad' k = ad k) (hσ : σ'.1 k = σ.1 k) (hv : va_at D classes (q, imgE ac ad σ k) H) : va_at D classes (q, imgE ac ad' σ' k) H := by
  rcases kd_cases k (by omega) with c | c | c | c | c | c
  · have e : imgE ac ad' σ' k = imgE ac ad σ k := by
      unfold imgE
      rw [if_pos (by omega), if_pos (by omega), fg_all c rfl hA hσ]
    rw [e]
    exact hv
  · have e1 : ∀ (a : Nat → Nat) (s : St), imgE ac a s k = .inl (ac 3, 6, .inr (.inr (.inr (.inr (fun j => some (a (k + 5 + 3 * j))))))) := fun a s => by simp [imgE, c]
    rw [e1] at hv ⊢
    exact Eq.trans hv (congrArg some (cellQ fun j hj => by rw [hA _ (kd_lo (ke_23 c hj) (by decide))]))
  · have e1 : ∀ (a : Nat → Nat) (s : St), imgE ac a s k = .inl (ac 4, 10, .inr (.inr (.inr (.inr (fun j => some (a (k + 22 + j))))))) := fun a s => by simp [imgE, c]
    rw [e1] at hv ⊢
    exact Eq.trans hv (congrArg some (cellQ fun j hj => by rw [hA _ (kd_lo (ke_24 c hj) (by decide))]))
  · have e1 : ∀ (a : Nat → Nat) (s : St), imgE ac a s k = .inl (ac 5, 8, .inr (.inr (.inr (.inr (fun j => some (a (k + 1 + 34 * j))))))) := fun a s => by simp [imgE, c]
    rw [e1] at hv ⊢
    exact Eq.trans hv (congrArg some (cellQ fun j hj => by rw [hA _ (kd_lo (ke_25 c hj) (by decide))]))
  · rw [imgE_pk rfl (Or.inl c)] at hv ⊢
    rw [hσ]
    exact hv
  · rw [imgE_pk rfl (Or.inr c)] at hv ⊢
    rw [hσ]
    exact hv
/-- the four rows beside the class's cells -/
def la4 (ac : Nat → ClassId) (q0 q1 q2 q3 : Nat) (σ : St) : va_W := [(q0, .inl (ac 0, 36, .inl (σ.1 354))), (q1, .inl (ac 0, 36, .inl (σ.1 355))), (q2, .inl (ac 0, 10, .inl (σ.1 356))), (q3, .inl (ac 0, 10, .inl (σ.1 357)))]
def ad4 (ad : Nat → Nat) (q0 q1 q2 q3 : Nat) : Nat → Nat := fun k => if k = 354 then q0 else if k = 355 then q1 else if k = 356 then q2 else if k = 357 then q3 else if k = 999 then 4 else ad k
theorem ad4_lo {ad : Nat → Nat} {q0 q1 q2 q3 k : Nat} (h : k < 354) : ad4 ad q0 q1 q2 q3 k = ad k := by
  unfold ad4
  rw [if_neg (by omega), if_neg (by omega), if_neg (by omega), if_neg (by omega), if_neg (by omega)]
theorem ad4_4 {ad : Nat → Nat} {q0 q1 q2 q3 : Nat} : ad4 ad q0 q1 q2 q3 999 = 4 := rfl
theorem la_len {ac : Nat → ClassId} {ad : Nat → Nat} {σ : St} (h0 : ad 999 = 0) : (wsL ac ad σ).length = 354 := by
  simp [wsL, h0]
theorem la_up {ac : Nat → ClassId} {ad : Nat → Nat} {σ σ' : St} {q0 q1 q2 q3 i : Nat} (h0 : ad 999 = 0) (hi : i < 358) : (i < 354 ∧ (wsL ac ad σ ++ la4 ac q0 q1 q2 q3 σ')[i]? = some (ad i, imgE ac ad σ i)) ∨ (wsL ac ad σ ++ la4 ac q0 q1 q2 q3 σ')[i]? = some (ad4 ad q0 q1 q2 q3 i, imgE ac (ad4 ad q0 q1 q2 q3) σ' i) := by
  rcases Nat.lt_or_ge i 354 with h | h
  · left
    refine ⟨h, ?_⟩
    rw [List.getElem?_append_left (by rw [la_len h0]; exact h)]
    exact wsL_get (by omega)
  · right
    rw [List.getElem?_append_right (by rw [la_len h0]; exact h), la_len h0]
    have : i = 354 ∨ i = 355 ∨ i = 356 ∨ i = 357 := by omega
    rcases this with e | e | e | e <;> subst e
    · rw [imgE_pk (c := 30) (by decide +kernel) (Or.inr rfl)]; rfl
    · rw [imgE_pk (c := 31) (by decide +kernel) (Or.inr rfl)]; rfl
    · rw [imgE_pk (c := 32) (by decide +kernel) (Or.inr rfl)]; rfl
    · rw [imgE_pk (c := 33) (by decide +kernel) (Or.inr rfl)]; rfl
theorem wsL_ix {ac : Nat → ClassId} {ad : Nat → Nat} {σ : St} {i : Nat} {q : Nat × va_E} (h : (wsL ac ad σ)[i]? = some q) : i < 354 + ad 999 ∧ q = (ad i, imgE ac ad σ i) := by
  have hi : i < 354 + ad 999 := by
    have := (List.getElem?_eq_some_iff.mp h).1
    simpa [wsL] using this
  rw [wsL_get hi] at h
  exact ⟨hi, (Option.some.inj h).symm⟩
theorem up_P {D : va_G} {ac : Nat → ClassId} {ad : Nat → Nat} {σ σ' : St} {q0 q1 q2 q3 : Nat} {H : Heap} (h0 : ad 999 = 0) (hσ : ∀ k, k < 354 → σ'.1 k = σ.1 k) (h : va_P D classes (wsL ac ad σ ++ la4 ac q0 q1 q2 q3 σ') H) : va_P D classes (wsL ac (ad4 ad q0 q1 q2 q3) σ') H := by
  intro i q hq
  obtain ⟨hi, e⟩ := wsL_ix hq
  subst e
  have hi : i < 358 := hi
  rcases la_up (ac := ac) (σ := σ) (σ' := σ') (q0 := q0) (q1 := q1) (q2 := q2) (q3 := q3) h0 hi with ⟨h1, h2⟩ | h2
  · rw [ad4_lo h1]
    exact im_at h1 (fun k hk => ad4_lo hk) (hσ i h1) (h i _ h2)
  · exact h i _ h2
theorem up_D {A : Nat → Prop} {ac : Nat → ClassId} {ad : Nat → Nat} {σ σ' : St} {q0 q1 q2 q3 : Nat} (h0 : ad 999 = 0) (h : va_D A (wsL ac ad σ ++ la4 ac q0 q1 q2 q3 σ')) : va_D A (wsL ac (ad4 ad q0 q1 q2 q3) σ') := by
  have key : ∀ (i : Nat) (q : Nat × va_E), (wsL ac (ad4 ad q0 q1 q2 q3) σ')[i]? = some q → ∃ q', (wsL ac ad σ ++ la4 ac q0 q1 q2 q3 σ')[i]? = some q' ∧ q'.1 = q.1 := by
    intro i q hq
    obtain ⟨hi, e⟩ := wsL_ix hq
    subst e
    have hi : i < 358 := hi
    rcases la_up (ac := ac) (σ := σ) (σ' := σ') (q0 := q0) (q1 := q1) (q2 := q2) (q3 := q3) h0 hi with ⟨h1, h2⟩ | h2
    · exact ⟨_, h2, (ad4_lo h1).symm⟩
    · exact ⟨_, h2, rfl⟩
  refine ⟨fun i j p q hi hj hpq => ?_, fun i q hi => ?_⟩
  · obtain ⟨p', h1, h2⟩ := key i p hi
    obtain ⟨q', h3, h4⟩ := key j q hj
    exact h.1 i j p' q' h1 h3 (by rw [h2, h4]; exact hpq)
  · obtain ⟨q', h1, h2⟩ := key i q hi
    rw [← h2]
    exact h.2 i q' h1
theorem dn_P {D : va_G} {ac : Nat → ClassId} {ad ad' : Nat → Nat} {u : St} {H : Heap} (h0 : ad 999 = 0) (hA : ∀ k, k < 354 → ad' k = ad k) (h : va_P D classes (wsL ac ad' u) H) : va_P D classes (wsL ac ad u) H := by
  intro i q hq
  obtain ⟨hi, e⟩ := wsL_ix hq
  subst e
  have hi : i < 354 := by omega
  rw [← hA i hi]
  exact im_at hi (fun k hk => (hA k hk).symm) rfl (h i _ (wsL_get (by omega)))
theorem dn_D {A : Nat → Prop} {ac : Nat → ClassId} {ad ad' : Nat → Nat} {u : St} (h0 : ad 999 = 0) (hA : ∀ k, k < 354 → ad' k = ad k) (h : va_D A (wsL ac ad' u)) : va_D A (wsL ac ad u) := by
  have key : ∀ (i : Nat) (q : Nat × va_E), (wsL ac ad u)[i]? = some q → ∃ q', (wsL ac ad' u)[i]? = some q' ∧ q'.1 = q.1 := by
    intro i q hq
    obtain ⟨hi, e⟩ := wsL_ix hq
    subst e
    have hi : i < 354 := by omega
    exact ⟨_, wsL_get (by omega), hA i hi⟩
  refine ⟨fun i j p q hi hj hpq => ?_, fun i q hi => ?_⟩
  · obtain ⟨p', h1, h2⟩ := key i p hi
    obtain ⟨q', h3, h4⟩ := key j q hj
    exact h.1 i j p' q' h1 h3 (by rw [h2, h4]; exact hpq)
  · obtain ⟨q', h1, h2⟩ := key i q hi
    rw [← h2]
    exact h.2 i q' h1
def GSs (A : Nat → Prop) (D : va_G) (ac : Nat → ClassId) (ad : Nat → Nat) (st : SS) (σ : St) (U : State) : Prop := GSt A D ac ad st σ U ∧ ∀ q, U.heap.size ≤ q → A q
theorem GSs.blind {A : Nat → Prop} {D : va_G} {ac : Nat → ClassId} {ad : Nat → Nat} {st : SS} {σ : St} {vals : List Value} : FrameBlind (va_Pc vals (GSs A D ac ad st σ)) := fun _ _ _ _ q => ⟨q.1, ⟨q.2.1.1, q.2.1.2.1, q.2.1.2.2.calling⟩, q.2.2⟩
set_option maxHeartbeats 4000000 in
set_option maxRecDepth 100000 in
theorem c_L_shift (l : Launch) {D : va_G} {ac : Nat → ClassId} {ad : Nat → Nat} {st : SS} {A : Nat → Prop} {σ : St} {r0 : Nat} {Q : Int32 → St → Prop} (h0 : ad 999 = 0) (hk_r0 : kd r0 = 9) (hf : m_L_shift r0 Q σ) : Met l y_L_shift (Cond.code y_L_shift method_6_code 30 (some .boolean) :: wA) { frames := 6, cells := 4, slots := 92, locals := 142 } (va_Pc [.ref (ad r0)] (GSs A D ac ad st σ)) (va_Qi Q (GSt A D ac ad st) A) 4 92 A := by
  refine Met.ofW (cc := method_6_code) (maxL := 30) (ret := (some .boolean)) (by decide +kernel) rfl ?_
  intro p e s m args below meth c s₁ B hml hv
  obtain ⟨rfl, ⟨hP, hD, hK⟩, hAA⟩ := hv
  have hx := B.exec
  have hb := B.bytes
  have hr := B.returns
  have hts : ∀ w ∈ wA, w.before ([.ref (ad r0)] : List Value).toArray s = true := fun w hw => atoms_spec (ws := Cond.code y_L_shift method_6_code 30 (some .boolean) :: wA) B.pre w (List.mem_cons_of_mem _ hw)
  have hown : s.vm.findClass "SweeperRoundsLaw" = some m.cls := findClass_of_methodNamed B.named
  have hlocks := B.notSynchronized
  have hl := lv_entry ([.ref (ad r0)] : List Value) (n := 30) (Nat.le_of_ble_eq_true rfl)
  rw [lg_entry_eq]
  generalize (lg_sl ([.ref (ad r0)] : List Value) ++ List.replicate (30 - (lg_sl ([.ref (ad r0)] : List Value)).length) Slot.unset).toArray = ls at hl ⊢
  have hl : lv_has ls 30 [(0, .ref (ad r0))] := hl
  have S : SC A D ac st p m c method_6_code 30 s ([.ref (ad r0)] : List Value).toArray "SweeperRoundsLaw" { frames := 6, cells := 4, slots := 92, locals := 142 } 0 0 6 142 := ⟨⟨hx, hb, hml, hown, hts⟩, hK, ⟨Nat.le_of_ble_eq_true rfl, Nat.le_of_ble_eq_true rfl⟩, Nat.le_refl _, Nat.le_refl _⟩
  have hG : DG A D ac ad s σ s.heap [] := ⟨hP, hD, va_S.rf⟩
  unfold m_L_shift at hf
  refine lv_aload_n hx hb d_L_shift_0 rfl (lv_at hl 0 rfl) ?_
  refine lv_iconst (v := (0 : Int32)) hx hb d_L_shift_1 (by decide) ?_
  refine iv_L_44 S hl.1 hG hk_r0 (c_9_count l hk_r0 hf) ⟨Nat.le_of_ble_eq_true rfl, Nat.le_of_ble_eq_true rfl⟩ (Nat.le_of_ble_eq_true rfl) d_L_shift_2 (fun v_2 σ_1 hf H locs hG => ?_)
  refine lv_istore_n (lv' := [(1, .int v_2), (0, .ref (ad r0))]) hx hb d_L_shift_5 rfl hl (by decide) rfl (fun ls hl => ?_)
  refine lv_aload_n hx hb d_L_shift_6 rfl (lv_at hl 1 rfl) ?_
  refine lv_iconst (v := (1 : Int32)) hx hb d_L_shift_7 (by decide) ?_
  refine iv_L_44 S hl.1 hG hk_r0 (c_9_count l hk_r0 hf) ⟨Nat.le_of_ble_eq_true rfl, Nat.le_of_ble_eq_true rfl⟩ (Nat.le_of_ble_eq_true rfl) d_L_shift_8 (fun v_4 σ_3 hf H locs hG => ?_)
  refine lv_istore_n (lv' := [(2, .int v_4), (1, .int v_2), (0, .ref (ad r0))]) hx hb d_L_shift_11 rfl hl (by decide) rfl (fun ls hl => ?_)
  have hac : ∀ (cA : ClassId), va_RA s cA .int → cA = ac 0 := fun cA h => by
    have h2 := (S.2.1.1.2 0 _ rfl).2
    exact Option.some.inj (h.symm.trans h2)
  refine lv_bipush (v := (36 : Int32)) hx hb d_L_shift_12 (by decide) ?_
  refine va_newa (atype := .int) (ty := .int) (n := 36) (N' := 36) (a0 := (36, .inl (fun _ => 0))) hx hb (hts _ wm_83) rfl S.2.1.1 hG.1 hG.2.1 hG.2.2 hAA (fun _ => rfl) (by decide) (by decide) (by decide) (by decide) (by decide) d_L_shift_14 (fun q0 a0 H K1 P1 D1 S1 => ?_)
  have e0 : a0 = ac 0 := hac a0 (K1.2 6 _ rfl).2
  subst e0
  refine lv_astore_n (lv' := [(3, .ref q0), (2, .int v_4), (1, .int v_2), (0, .ref (ad r0))]) hx hb d_L_shift_16 rfl hl (by decide) rfl (fun ls hl => ?_)
  refine lv_bipush (v := (36 : Int32)) hx hb d_L_shift_17 (by decide) ?_
  refine va_newa (atype := .int) (ty := .int) (n := 36) (N' := 36) (a0 := (36, .inl (fun _ => 0))) hx hb (hts _ wm_83) rfl S.2.1.1 P1 D1 S1 hAA (fun _ => rfl) (by decide) (by decide) (by decide) (by decide) (by decide) d_L_shift_19 (fun q1 a1 H K1 P1 D1 S1 => ?_)
  have e1 : a1 = ac 0 := hac a1 (K1.2 6 _ rfl).2
  subst e1
  refine lv_astore (lv' := [(4, .ref q1), (3, .ref q0), (2, .int v_4), (1, .int v_2), (0, .ref (ad r0))]) hx hb d_L_shift_21 hl (by decide) rfl (fun ls hl => ?_)
  refine lv_bipush (v := (10 : Int32)) hx hb d_L_shift_23 (by decide) ?_
  refine va_newa (atype := .int) (ty := .int) (n := 10) (N' := 10) (a0 := (10, .inl (fun _ => 0))) hx hb (hts _ wm_83) rfl S.2.1.1 P1 D1 S1 hAA (fun _ => rfl) (by decide) (by decide) (by decide) (by decide) (by decide) d_L_shift_25 (fun q2 a2 H K1 P1 D1 S1 => ?_)
  have e2 : a2 = ac 0 := hac a2 (K1.2 6 _ rfl).2
  subst e2
  refine lv_astore (lv' := [(5, .ref q2), (4, .ref q1), (3, .ref q0), (2, .int v_4), (1, .int v_2), (0, .ref (ad r0))]) hx hb d_L_shift_27 hl (by decide) rfl (fun ls hl => ?_)
  refine lv_bipush (v := (10 : Int32)) hx hb d_L_shift_29 (by decide) ?_
  refine va_newa (atype := .int) (ty := .int) (n := 10) (N' := 10) (a0 := (10, .inl (fun _ => 0))) hx hb (hts _ wm_83) rfl S.2.1.1 P1 D1 S1 hAA (fun _ => rfl) (by decide) (by decide) (by decide) (by decide) (by decide) d_L_shift_31 (fun q3 a3 H K1 P1 D1 S1 => ?_)
  have e3 : a3 = ac 0 := hac a3 (K1.2 6 _ rfl).2
  subst e3
  refine lv_astore (lv' := [(6, .ref q3), (5, .ref q2), (4, .ref q1), (3, .ref q0), (2, .int v_4), (1, .int v_2), (0, .ref (ad r0))]) hx hb d_L_shift_33 hl (by decide) rfl (fun ls hl => ?_)
  have hσ : ∀ k, k < 354 → (zer4 σ_3).1 k = σ_3.1 k := fun k hk => by
    unfold zer4
    rw [wrA_ne (by omega), wrA_ne (by omega), wrA_ne (by omega), wrA_ne (by omega)]
  have P2 : va_P D classes (wsL ac ad σ_3 ++ la4 ac q0 q1 q2 q3 (zer4 σ_3)) H := by
    rw [List.append_assoc, List.append_assoc, List.append_assoc] at P1
    exact P1
  have D2 : va_D A (wsL ac ad σ_3 ++ la4 ac q0 q1 q2 q3 (zer4 σ_3)) := by
    rw [List.append_assoc, List.append_assoc, List.append_assoc] at D1
    exact D1
  have S' : SC A D ac st p m c method_6_code 30 s ([.ref (ad r0)] : List Value).toArray "SweeperRoundsLaw" { frames := 6, cells := 4, slots := 92, locals := 142 } 4 92 6 142 := ⟨S.1, S.2.1, ⟨Nat.le_refl _, Nat.le_refl _⟩, Nat.le_refl _, Nat.le_refl _⟩
  have hk0 := kd_lo hk_r0 (by decide)
  refine w_L_shift_35 (ad := ad4 ad q0 q1 q2 q3) (r0 := r0) (r3 := 354) (r4 := 355) (r5 := 356) (r6 := 357) S' ?_ ad4_4 hk_r0 (by decide +kernel) (by decide +kernel) (by decide +kernel) (by decide +kernel) ⟨up_P h0 hσ P2, up_D h0 D2, S1⟩ ?_ (hf (zer4 σ_3) rfl)
  · intro v u H locs pc ls hG hv hq hdg
    exact W.zret hx hb hr (isB_nar hv) (fun t ht hW => ⟨⟨v, u, rfl, hq, by rw [ht]; exact dn_P h0 (fun k hk => ad4_lo hk) hG.1, dn_D h0 (fun k hk => ad4_lo hk) hG.2.1, hK.on hW hG.2.2 ht⟩, hG.2.2.F ht⟩) hG.2.2.2.2 hdg
  · have e : ad4 ad q0 q1 q2 q3 r0 = ad r0 := ad4_lo hk0
    rw [e]
    exact lv_sub hl [6, 5, 4, 3, 2, 1, 0] rfl
