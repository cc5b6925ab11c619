-- a shift, on the class's side: legs
theorem cellsF_stop {j i s k : Nat} {P : Nat → Int32} (h : cellsF j i s k P 549 ≠ 0) : ∀ d, cellsF j i s (k + d) P = cellsF j i s k P := by
  intro d
  induction d with
  | zero => rfl
  | succ d ih =>
    have e : cellsF j i s (k + (d + 1)) P = if cellsF j i s (k + d) P 549 = 0 then cellF j i s (k + d) 7000 (cellsF j i s (k + d) P) else cellsF j i s (k + d) P := rfl
    rw [e, ih, if_neg h]
theorem legsF_stop {o : Nat → Nat} {k : Nat} {P : Nat → Int32} (h : (legsF o P k).1 549 ≠ 0) : ∀ d, legsF o P (k + d) = legsF o P k ∧ doneF o P (k + d) = doneF o P k := by
  intro d
  induction d with
  | zero => exact ⟨rfl, rfl⟩
  | succ d ih =>
    have e : legsF o P (k + (d + 1)) = if (legsF o P (k + d)).1 549 = 0 then legF (o (k + d)) (legsF o P (k + d)).1 (legsF o P (k + d)).2 else legsF o P (k + d) := rfl
    have e2 : doneF o P (k + (d + 1)) = if (legsF o P (k + d)).1 549 = 0 ∧ (legsF o P (k + d + 1)).1 549 = 0 then k + d + 1 else doneF o P (k + d) := rfl
    rw [e, e2, ih.1, if_neg h, if_neg (fun q => h q.1)]
    exact ⟨rfl, ih.2⟩
theorem legsF_on {o : Nat → Nat} {P : Nat → Int32} : ∀ k, (legsF o P k).1 549 = 0 → doneF o P k = k := by
  intro k
  induction k with
  | zero => intro _; rfl
  | succ k ih =>
    intro h
    by_cases q : (legsF o P k).1 549 = 0
    · exact if_pos ⟨q, h⟩
    · have := (legsF_stop q 1).1
      rw [this] at h
      exact absurd h q
theorem subnn {a b : Nat} (ha : a < 1000001) (hb : b < 1000001) : 0 ≤ nI a - nI b ↔ b ≤ a := by
  rw [Int32.le_iff_toInt_le, pk_sub_toInt (by omega) (by omega), show (0 : Int32).toInt = 0 from rfl]
  omega
theorem s_5_driveTo {c n l : Nat} {σ0 σ : St} {B R i : Nat} {P : Nat → Int32} {pos : Int32} {Q : Int32 → St → Prop} (hR : rfR R = B) (t : toW σ0 σ B P) (ok : okP c n l P) (hp : σ.1 R 1 = pos) (hpo : posO n pos) (hi : i < n) (hQ : Q (driV P pos i) σ) : m_5_driveTo R (nI i) Q σ := by
  have h6 := ok.1.2.1
  unfold m_5_driveTo
  rw [tn i (by omega), hR, gst σ B (k := 1) (by omega) (by omega), t.g, show 1 + 83 * i + 1 = 2 + 83 * i by omega, hp]
  refine ⟨vin (by omega), fun x2 e2 => ⟨fun q1 => ⟨fun q2 => ?_, fun q2 => ?_⟩, fun q1 => ?_⟩⟩
  · rcases hpo with q | ⟨a, ha, rfl⟩
    · exact absurd q q1
    rw [tn a (by omega)]
    refine ⟨vin (by omega), fun x3 e3 => ?_⟩
    rw [gst σ B (k := 1) (by omega) (by omega), t.g, show 1 + 83 * a + 1 = 2 + 83 * a by omega, e2] at e3
    unfold driV at hQ
    rw [if_neg q2, if_neg q1, tn a (by omega)] at hQ
    have : x3 = (if 0 ≤ P (2 + 83 * a) - P (2 + 83 * i) then P (2 + 83 * a) - P (2 + 83 * i) else -(P (2 + 83 * a) - P (2 + 83 * i))) := by
      rw [e3]
      obtain ⟨d, d1, d2⟩ := ok.ds hi
      obtain ⟨b, b1, b2⟩ := ok.ds ha
      rw [d1, b1]
      by_cases z1 : b ≤ d
      · rw [if_pos ((subnn (by omega) (by omega)).mpr z1)]
        by_cases z2 : d ≤ b
        · rw [if_pos ((subnn (by omega) (by omega)).mpr z2), show d = b by omega]
        · rw [if_neg (fun z3 => z2 ((subnn (by omega) (by omega)).mp z3))]
          grind
      · rw [if_neg (fun z3 => z1 ((subnn (by omega) (by omega)).mp z3)), if_pos ((subnn (by omega) (by omega)).mpr (by omega))]
        grind
    rw [this]
    exact hQ
  · unfold driV at hQ
    rw [if_pos q2] at hQ
    exact hQ
  · unfold driV at hQ
    rw [if_neg (fun z => ?_), if_pos q1] at hQ
    · rw [e2]; exact hQ
    · rw [q1] at z
      exact nn0 (j := i) (by omega) (z ▸ (by decide))
theorem s_5_driveToLeg {c n l : Nat} {σ0 σ : St} {B R j : Nat} {P : Nat → Int32} {pos : Int32} {Q : Int32 → St → Prop} (hR : rfR R = B) (hRB : R < B ∨ B + 34 ≤ R) (t : toW σ0 σ B P) (ok : okP c n l P) (hp : σ.1 R 1 = pos) (hpo : posO n pos) (hj : j < l)
    (h0 : P 502 < P 550 + driV P pos (lgI P j) + 10 * P (2 + 83 * lgI P j) → Q 1 σ)
    (h1 : ¬ P 502 < P 550 + driV P pos (lgI P j) + 10 * P (2 + 83 * lgI P j) → ∀ τ, pgW τ B = upd P 550 (P 550 + driV P pos (lgI P j)) → τ.1 R 1 = nI (lgI P j) → (∀ a, (a < B ∨ B + 34 ≤ a) → a ≠ R → τ.1 a = σ.1 a) → Q 0 τ) : m_5_driveToLeg R (B + 2 + 22 + j) (B + 1 + 5 + 3 * lgI P j) Q σ := by
  have h6 := ok.1.2.1
  have h10 := ok.1.2.2.2
  obtain ⟨a1, a2, a3, a4⟩ := ok.lego.1 j hj
  unfold m_5_driveToLeg
  have ef : σ.1 (B + 2 + 22 + j) 0 = nI (lgI P j) := by rw [gle σ B (by omega) (by omega), t.g]; exact a2
  rw [ef]
  refine s_5_driveTo hR t ok hp hpo a1 ?_
  refine s_5_fits hR t (by omega) (fun q => ⟨fun q2 => absurd rfl q2, fun _ => h0 q⟩) (fun q => ⟨fun _ σ5 e5 σ6 e6 => ?_, fun q2 => absurd q2 (by decide)⟩)
  rw [hR, grep σ B (k := 1) (by omega), t.g, show (549 + 1 : Nat) = 550 from rfl] at e5
  have t5 := tw_rep t (k := 1) (v := P 550 + driV P pos (lgI P j)) (by omega)
  rw [← e5] at t5
  have ef5 : σ5.1 (B + 2 + 22 + j) 0 = nI (lgI P j) := by rw [gle σ5 B (by omega) (by omega), t5.g, upd_n (by omega)]; exact a2
  rw [ef5] at e6
  refine h1 q σ6 ?_ (by rw [e6, wr_same]) (fun a ha hr => ?_)
  · rw [e6, pgW_cg (σ := σ5) (fun a x1 x2 => wr_cell (by omega)), t5.1]
  · have t5' := tw_rep (toW.rf (σ := σ) (B := B)) (k := 1) (v := P 550 + driV P pos (lgI P j)) (by omega)
    rw [← e5] at t5'
    rw [e6, wr_cell hr, t5'.2.1 a ha]
/-- the cells of a leg, one after the other -/
theorem s_5_cells {c n l u : Nat} {σ0 σ : St} {B R j x2 : Nat} {P : Nat → Int32} {Q : St → Prop} {A : Int32 → St → Prop} (hR : rfR R = B) (t : toW σ0 σ B P) (ok : okU c n l u P) (z : P 549 = 0 ∨ True) (hj : j < l)
    (hQ : ∀ τ u', toW σ0 τ B (cellsF j (lgI P j) (lgS P j) (cellsN P (lgI P j)) P) → okU c n l u' (upd (cellsF j (lgI P j) (lgS P j) (cellsN P (lgI P j)) P) 549 0) → (∀ y, kp y → cellsF j (lgI P j) (lgS P j) (cellsN P (lgI P j)) P y = P y) → m_5_carryOut_163 R (B + 5) (nI x2) A Q τ) : itN (m_5_carryOut_120 R (B + 5) (nI x2) (B + 2 + 22 + j) (B + 1 + 5 + 3 * lgI P j) A Q) (fun _ _ => False) FU 0 σ := by
  have h6 := ok.1.1.2.1
  have h10 := ok.1.1.2.2.2
  obtain ⟨a1, a2, a3, a4⟩ := ok.1.lego.1 j hj
  obtain ⟨cv, cv1, cv2⟩ := ok.1.cells a1
  have kc : kp (1 + 83 * lgI P j) := Or.inr (Or.inl ⟨lgI P j, 0, by omega, by omega, by omega⟩)
  have kl : kp (508 + 4 * j + 1) := Or.inr (Or.inr (Or.inr (Or.inr (Or.inl ⟨by omega, by omega, by omega⟩))))
  refine it_cnt (fun (k : Nat) (D : Int32 → St → Prop) => ∀ τ u', toW σ0 τ B (cellsF j (lgI P j) (lgS P j) k P) → okU c n l u' (upd (cellsF j (lgI P j) (lgS P j) k P) 549 0) → (∀ y, kp y → cellsF j (lgI P j) (lgS P j) k P y = P y) → D (nI k) τ) (cellsN P (lgI P j)) (by omega) ?_ ?_ σ u t ⟨ok.1.inert (inert_hi (by omega) (by omega)), by show upd P 549 0 550 = nI u; rw [upd_n (by omega)]; exact ok.2.1, ok.2.2⟩ (fun _ _ => rfl)
  · intro k hk D hD τ u' tk okk kk
    unfold m_5_carryOut_120
    rw [gst τ B (k := 0) (by omega) (by omega), tk.g, show 1 + 83 * lgI P j + 0 = 1 + 83 * lgI P j from rfl, kk _ kc, cv]
    refine ⟨fun q => absurd q (nle_of hk (by omega)), fun _ => ?_⟩
    rw [grep τ B (k := 0) (by omega), tk.g, show (549 + 0 : Nat) = 549 from rfl]
    refine ⟨fun q => ?_, fun q => ?_⟩
    · have st := cellsF_stop q (cellsN P (lgI P j) - k)
      rw [show k + (cellsN P (lgI P j) - k) = cellsN P (lgI P j) by omega] at st
      exact hQ τ u' (by rw [st]; exact tk) (by rw [st]; exact okk) (fun y hy => by rw [st]; exact kk y hy)
    · rw [gle τ B (f := 1) (by omega) (by omega), tk.g, kk _ kl, a4]
      refine s_9_placeOf ?_
      have okk' : okU c n l u' (cellsF j (lgI P j) (lgS P j) k P) := by
        rw [upd_self q] at okk
        exact okk
      refine s_5_finishCell hR tk okk' q a1 (by omega) a3 (by omega) (fun τ1 P1 r u1 t1 ok1 z1 k1 e1 σ5 e5 x5 ex => ?_)
      rw [ex, li 1, nI_add]
      have t5 := tw_rep t1 (k := 0) (v := r) (by omega)
      rw [← e5, show (549 + 0 : Nat) = 549 from rfl, e1] at t5
      have ec : cellsF j (lgI P j) (lgS P j) (k + 1) P = cellF j (lgI P j) (lgS P j) k 7000 (cellsF j (lgI P j) (lgS P j) k P) := if_pos q
      refine hD σ5 u1 (by rw [ec]; exact t5) ?_ (fun y hy => ?_)
      · rw [ec, ← e1, upd_upd, upd_self z1]
        exact ok1
      · rw [ec, ← e1, upd_n (kp_x hy).2.2.2.2.1, k1 y hy]
        exact kk y hy
  · intro D τ u' tk okk kk
    unfold m_5_carryOut_120
    rw [gst τ B (k := 0) (by omega) (by omega), tk.g, show 1 + 83 * lgI P j + 0 = 1 + 83 * lgI P j from rfl, kk _ kc, cv]
    exact ⟨fun _ => hQ τ u' tk okk kk, fun q => absurd ((lei (by omega) (by omega)).mpr (Nat.le_refl _)) q⟩
