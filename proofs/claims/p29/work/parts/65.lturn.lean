theorem cD_550 {i : Nat} {X C : Nat → Int32} : cD i X C 550 = C 550 + cT i X := by
  unfold cD dmp
  rw [upd_n (by omega), upd_n (by omega), upd_n (by omega), upd_s]
theorem cD_551 {i : Nat} {X C : Nat → Int32} : cD i X C 551 = C 551 + 1 := by
  unfold cD dmp
  rw [upd_n (by omega), upd_n (by omega), upd_s]
theorem cD_561 {i : Nat} {X C : Nat → Int32} : cD i X C 561 = C 561 + C 506 := by
  unfold cD dmp
  rw [upd_n (by omega), upd_s, upd_n (by omega), upd_n (by omega), upd_n (by omega), upd_n (by omega)]
theorem cD_506 {i : Nat} {X C : Nat → Int32} : cD i X C 506 = 0 := by
  unfold cD dmp
  rw [upd_s]
theorem cC_hi {X : Nat → Int32} {j i s k y : Nat} (hj : j < 10) (hi : i < 6) (hs : s < 2) (hk : k < 20) (h1 : 549 ≤ y ∨ (499 ≤ y ∧ y < 505)) (h2 : y ≠ 550) (h3 : y ≠ 552) (h4 : y ≠ 553) : cC j i s k X y = X y := by
  unfold cC
  rw [cnt2_ne (by omega), swp_ne (by omega) (by omega) (by omega) (by omega) (by omega) (by omega), cB_ne h2]
theorem cC_550 {X : Nat → Int32} {j i s k : Nat} (hj : j < 10) (hi : i < 6) (hs : s < 2) (hk : k < 20) : cC j i s k X 550 = X 550 + 12 / X 499 := by
  unfold cC
  rw [cnt2_ne (by omega), swp_ne (by omega) (by omega) (by omega) (by omega) (by omega) (by omega)]
  exact upd_s
theorem cC_506 {X : Nat → Int32} {j i s k : Nat} (hj : j < 10) : cC j i s k X 506 = X 506 + mnI (coV (cB X) (83 * i + (20 * s + k))) (X 500 - X 506) := by
  unfold cC
  rw [cnt2_ne (by omega), swp_506, cB_ne (by omega), cB_ne (by omega)]
theorem cC_552 {X : Nat → Int32} {j i s k : Nat} (hj : j < 10) : cC j i s k X 552 = X 552 + mnI (coV (cB X) (83 * i + (20 * s + k))) (X 500 - X 506) := by
  unfold cC
  rw [cnt2_ne (by omega), swp_552, cB_ne (by omega), cB_ne (by omega), cB_ne (by omega)]
theorem cC_505 {X : Nat → Int32} {j i s k : Nat} (hj : j < 10) : cC j i s k X 505 = X 505 - mnI (1 + mnI (coV (cB X) (83 * i + (20 * s + k))) (X 500 - X 506) * X 499 / 20) (X 505) := by
  unfold cC
  rw [cnt2_ne (by omega), swp_505, cB_ne (show 505 ≠ 550 by omega), cB_ne (show 500 ≠ 550 by omega), cB_ne (show 506 ≠ 550 by omega), cB_ne (show 499 ≠ 550 by omega)]
theorem cC_553 {X : Nat → Int32} {j i s k : Nat} (hj : j < 10) : cC j i s k X 553 = X 553 + mnI (1 + mnI (coV (cB X) (83 * i + (20 * s + k))) (X 500 - X 506) * X 499 / 20) (X 505) := by
  unfold cC
  rw [cnt2_ne (by omega), swp_553, cB_ne (show 553 ≠ 550 by omega), cB_ne (show 505 ≠ 550 by omega), cB_ne (show 500 ≠ 550 by omega), cB_ne (show 506 ≠ 550 by omega), cB_ne (show 499 ≠ 550 by omega)]
theorem kp_s {y : Nat} (h : 499 ≤ y ∧ y < 505) : kp y := Or.inr (Or.inr (Or.inl h))
theorem kp_t {i r : Nat} (hi : i < 6) (hr : r < 3) : kp (1 + 83 * i + r) := Or.inr (Or.inl ⟨i, r, hr, rfl, by omega⟩)
theorem L_turn {c n l u i s k j : Nat} {P X : Nat → Int32} {σ : St} {x11 : Int32} {x13 : Int32} {B225 : Int32 → Int32 → Int32 → Int32 → Int32 → Int32 → Int32 → Int32 → Int32 → Int32 → St → Prop} {Q : Int32 → St → Prop} {B361 : Int32 → Int32 → Int32 → Int32 → Int32 → Int32 → Int32 → Int32 → St → Prop}
    (ok : okP c n l P) (sm : SM n l P) (hj : j < l) (hi : i < n) (hs : s < 2) (hk : k < cellsN P i) (e1 : P (508 + 4 * j + 1) = nI s) (w : LW n P σ) (d : LD n l P X σ) (oX : okU c n l u X) (kX : KX n P X) (z : X 549 = 0) (ek : X (508 + 4 * j + 2) = nI k)
    (h2 : X 502 < X 550 + 12 / X 499 + 10 * X (2 + 83 * i) → LD n l P (upd X 549 2) σ → at8 B361 (upd X 549 2) σ)
    (h3 : ∀ σ', LW n P σ' → ¬ X 502 < X 550 + 12 / X 499 + 10 * X (2 + 83 * i) → cC j i s k X 506 = cC j i s k X 500 → cC j i s k X 502 < cC j i s k X 550 + cT i X + 10 * X (2 + 83 * i) → LD n l P (upd (cC j i s k X) 549 3) σ' → at8 B361 (upd (cC j i s k X) 549 3) σ')
    (h4 : ∀ σ', LW n P σ' → ¬ X 502 < X 550 + 12 / X 499 + 10 * X (2 + 83 * i) → cC j i s k X 506 = cC j i s k X 500 → ¬ cC j i s k X 502 < cC j i s k X 550 + cT i X + 10 * X (2 + 83 * i) → LD n l P (cD i X (cC j i s k X)) σ' → at8 B361 (cD i X (cC j i s k X)) σ')
    (h5 : ∀ σ', LW n P σ' → ¬ X 502 < X 550 + 12 / X 499 + 10 * X (2 + 83 * i) → ¬ cC j i s k X 506 = cC j i s k X 500 → LD n l P (cC j i s k X) σ' → at8 B361 (cC j i s k X) σ') : m_L_shift_361 0 (nI n) (nI l) 354 355 356 357 (P 499) (P 500) x11 x13 (nI i) (nI j) (nI i) (10 * P (2 + 83 * i)) (nI (cellsN P i)) B225 Q B361 (X 505) (X 506) (X 502 - X 550) (X 561) (X 549) (X 551) (X 552) (X 553) σ := by
  obtain ⟨s1, s2, s3⟩ := id sm
  have h6 := ok.1.2.1
  have h10 := ok.1.2.2.2
  have c6 := s3 i hi
  have hc20 : ∀ i, i < n → cellsN P i ≤ 20 := fun i hi => (ok.cells hi).2.2
  have p499 : P 499 = X 499 := (kX.1 499 (kp_s (by omega))).symm
  have p500 : P 500 = X 500 := (kX.1 500 (kp_s (by omega))).symm
  have pd : P (2 + 83 * i) = X (2 + 83 * i) := by
    have := kX.1 (1 + 83 * i + 1) (kp_t (by omega) (by omega))
    rw [show 1 + 83 * i + 1 = 2 + 83 * i by omega] at this
    exact this.symm
  have tj := tn j (by omega)
  have hNs : cellsN P i * s ≤ 6 := by
    rcases (by omega : s = 0 ∨ s = 1) with e | e <;> rw [e] <;> omega
  have ha : 12 * i + cellsN P i * s + k < 36 := by omega
  have ta := tn (12 * i + cellsN P i * s + k) (by omega)
  obtain ⟨vv, v1, v2, v3⟩ := oX.1.spd
  have x0 : ¬ X 499 = 0 := by rw [v1]; exact fun q => absurd ((eqi (b := 0) (by omega) (by omega)).mp q) (by omega)
  obtain ⟨len, l1, l2⟩ := oX.1.len
  obtain ⟨dd, d1, d2⟩ := oX.1.ds hi
  obtain ⟨-, u1, u2⟩ := id oX
  have dv : 12 / X 499 = nI (12 / vv) := by rw [v1, show (12 : Int32) = nI 12 from rfl, pk_div (by decide) (by omega) (by omega)]
  have d12 : 12 / vv ≤ 12 := Nat.div_le_self _ _
  have fit : 12 / X 499 + 10 * X (2 + 83 * i) ≤ X 502 - X 550 ↔ ¬ X 502 < X 550 + 12 / X 499 + 10 * X (2 + 83 * i) := by
    rw [dv, d1, l1, u1, li 10, pk_mul, nI_add, nI_add, nI_add, leL (by omega) (by omega) (by omega), lti (by omega) (by omega)]
    omega
  have e5 : σ.1 356 j = nI k := by rw [(d.2 j hj).1, ek]
  rw [p499, p500, pd]
  unfold m_L_shift_361
  rw [tj, e5]
  refine ⟨vin (by omega), fun q => absurd q (nle_of hk (by omega)), fun _ => ⟨fun q => absurd z q, fun _ => ?_⟩⟩
  refine a_leg (c := c) (n := n) (l := l) (j := j) (r := 1) (by rw [w.1]; exact ok) hj (by omega) (fun q => by omega) ?_
  rw [w.1, e1]
  refine ⟨vin (by omega), fun x26 e26 => ?_⟩
  rw [e5, li 12, pk_mul, pk_mul, nI_add, nI_add] at e26
  subst e26
  rw [ta]
  refine ⟨x0, fun q => ⟨x0, fun x12 e12 => ⟨vin ha, ?_⟩⟩, fun q => ?_⟩
  rotate_left
  · have h := h2 (Decidable.not_not.mp (mt fit.mpr q)) (d.cg h6 h10 hc20 (fun y hy => upd_n (by omega)))
    unfold at8 at h
    rw [upd_n (show (505 : Nat) ≠ 549 by omega), upd_n (show (506 : Nat) ≠ 549 by omega), upd_n (show (502 : Nat) ≠ 549 by omega), upd_n (show (550 : Nat) ≠ 549 by omega), upd_n (show (561 : Nat) ≠ 549 by omega), upd_s, upd_n (show (551 : Nat) ≠ 549 by omega), upd_n (show (552 : Nat) ≠ 549 by omega), upd_n (show (553 : Nat) ≠ 549 by omega)] at h
    exact h
  have hfit := fit.mp q
  have eK : σ.1 355 (12 * i + cellsN P i * s + k) = P (44 + 83 * i + (20 * s + k)) := w.2.2 i s k hi hs hk
  have eD : σ.1 354 (12 * i + cellsN P i * s + k) = X (4 + 83 * i + (20 * s + k)) := d.1 i s k hi hs hk
  rw [eK, eD]
  have pk : P (44 + 83 * i + (20 * s + k)) = X (44 + 83 * i + (20 * s + k)) := (kX.2 i (20 * s + k) hi (by omega)).symm
  have hb : isB (P (44 + 83 * i + (20 * s + k))) := (ok.2.2.1 i (20 * s + k) hi (by omega)).2
  have ecB : cB X (44 + (83 * i + (20 * s + k))) = P (44 + 83 * i + (20 * s + k)) := by
    rw [cB_ne (by omega), pk, show 44 + (83 * i + (20 * s + k)) = 44 + 83 * i + (20 * s + k) by omega]
  have eW0 : P (44 + 83 * i + (20 * s + k)) = 0 → coV (cB X) (83 * i + (20 * s + k)) = X (4 + 83 * i + (20 * s + k)) * ((100 - 15 * (X 499 - 1)) * X 505 / 1000) / 100 := fun h0 => by
    unfold coV
    rw [if_pos (by rw [ecB]; exact h0)]
    unfold grV
    rw [cB_ne (by omega), cB_ne (by omega), cB_ne (by omega), show 4 + (83 * i + (20 * s + k)) = 4 + 83 * i + (20 * s + k) by omega]
  have eW1 : P (44 + 83 * i + (20 * s + k)) = 1 → coV (cB X) (83 * i + (20 * s + k)) = 0 := fun h0 => by
    unfold coV
    rw [if_neg (by rw [ecB, h0]; decide)]
  obtain ⟨u1', cap, g, cv, b1, b2, b3, b4, b5, b6, b7, b8, b9, b10, b11, b12, b13, b14, b15, b16⟩ := oX.cell hi hs (show k < 20 by omega) (show j < 10 by omega) hfit
  have c550 := cC_550 (X := X) (j := j) (i := i) (s := s) (k := k) (by omega) (by omega) hs (by omega)
  have c502 : cC j i s k X 502 = X 502 := cC_hi (by omega) (by omega) hs (by omega) (by omega) (by omega) (by omega) (by omega)
  have c500 : cC j i s k X 500 = X 500 := cC_hi (by omega) (by omega) hs (by omega) (by omega) (by omega) (by omega) (by omega)
  have c549 : cC j i s k X 549 = X 549 := cC_hi (by omega) (by omega) hs (by omega) (by omega) (by omega) (by omega) (by omega)
  have c551 : cC j i s k X 551 = X 551 := cC_hi (by omega) (by omega) hs (by omega) (by omega) (by omega) (by omega) (by omega)
  have c561 : cC j i s k X 561 = X 561 := cC_hi (by omega) (by omega) hs (by omega) (by omega) (by omega) (by omega) (by omega)
  have c506 := cC_506 (X := X) (j := j) (i := i) (s := s) (k := k) (by omega)
  have c552 := cC_552 (X := X) (j := j) (i := i) (s := s) (k := k) (by omega)
  have c505 := cC_505 (X := X) (j := j) (i := i) (s := s) (k := k) (by omega)
  have c553 := cC_553 (X := X) (j := j) (i := i) (s := s) (k := k) (by omega)
  have D5 := d.turn sm hj hi hs hk
  have full : X 506 + mnI (coV (cB X) (83 * i + (20 * s + k))) (X 500 - X 506) = X 500 ↔ cC j i s k X 506 = cC j i s k X 500 := by rw [c506, c500]
  have e12' : x12 = cC j i s k X 502 - cC j i s k X 550 := by
    rw [e12, c502, c550]
    grind
  have dfit : 3 * (10 * X (2 + 83 * i)) + 100 ≤ x12 ↔ ¬ cC j i s k X 502 < cC j i s k X 550 + cT i X + 10 * X (2 + 83 * i) := by
    unfold cT
    rw [e12', c502, c550, b3, d1, l1, li 10, li 3, li 100, li 2, pk_mul, pk_mul, pk_mul, nI_add, nI_add, nI_add, nI_add, leL (by omega) (by omega) (by omega), lti (by omega) (by omega)]
    omega
  have main : m_L_shift_467 0 (nI n) (nI l) 354 355 356 357 (X 499) (X 505) (X 506) (X 500) x11 x12 x13 (X 561) (nI i) (X 549) (X 551) (X 552) (X 553) (nI j) (nI i) (10 * X (2 + 83 * i)) (nI (cellsN P i)) (nI (12 * i + cellsN P i * s + k)) B225 B361 Q (coV (cB X) (83 * i + (20 * s + k))) σ := by
    refine L_467 ha (by omega) (fun q => ?_) (fun q q2 => ?_) (fun q q2 => ?_) (fun q => ?_)
    · by_cases z2 : coV (cB X) (83 * i + (20 * s + k)) ≤ X 500 - X 506
      · rw [mnI_eq.mpr z2] at q
        exact absurd q (fun q => Int32.lt_irrefl q)
      · have e : mnI (coV (cB X) (83 * i + (20 * s + k))) (X 500 - X 506) = X 500 - X 506 := mnI_le (Int32.le_of_lt (Int32.not_le.mp z2))
        rw [e]
        grind
    · have h := h4 _ (((w.w (Or.inl rfl)).w (Or.inr (Or.inr rfl))).w (Or.inr (Or.inl rfl))) hfit (full.mp q) (dfit.mp q2) (D5.cg h6 h10 hc20 (fun y hy => cD_lo (by omega) (by omega) (by omega) (by omega)))
      unfold at8 at h
      have e : cC j i s k X 502 - (cC j i s k X 550 + cT i X) = x12 - (2 * (10 * X (2 + 83 * i)) + 100) := by
        rw [e12']
        unfold cT
        grind
      rw [cD_506, cD_550, cD_551, cD_561, cD_lo (show (505 : Nat) ≠ 550 by omega) (by omega) (by omega) (by omega), cD_lo (show (502 : Nat) ≠ 550 by omega) (by omega) (by omega) (by omega), cD_lo (show (549 : Nat) ≠ 550 by omega) (by omega) (by omega) (by omega), cD_lo (show (552 : Nat) ≠ 550 by omega) (by omega) (by omega) (by omega), cD_lo (show (553 : Nat) ≠ 550 by omega) (by omega) (by omega) (by omega), e, c505, c506, c549, c551, c552, c553, c561] at h
      exact h
    · have h := h3 _ (((w.w (Or.inl rfl)).w (Or.inr (Or.inr rfl))).w (Or.inr (Or.inl rfl))) hfit (full.mp q) (Decidable.not_not.mp (mt dfit.mpr q2)) (D5.cg h6 h10 hc20 (fun y hy => upd_n (by omega)))
      unfold at8 at h
      rw [upd_n (show (505 : Nat) ≠ 549 by omega), upd_n (show (506 : Nat) ≠ 549 by omega), upd_n (show (502 : Nat) ≠ 549 by omega), upd_n (show (550 : Nat) ≠ 549 by omega), upd_n (show (561 : Nat) ≠ 549 by omega), upd_s, upd_n (show (551 : Nat) ≠ 549 by omega), upd_n (show (552 : Nat) ≠ 549 by omega), upd_n (show (553 : Nat) ≠ 549 by omega), ← e12', c505, c506, c551, c552, c553, c561] at h
      exact h
    · have h := h5 _ (((w.w (Or.inl rfl)).w (Or.inr (Or.inr rfl))).w (Or.inr (Or.inl rfl))) hfit (fun z2 => q (full.mpr z2)) D5
      unfold at8 at h
      rw [← e12', c505, c506, c549, c551, c552, c553, c561] at h
      exact h
  rcases hb with hb | hb
  · refine ⟨fun _ => ⟨vin ha, ?_⟩, fun q2 => absurd (hb.symm.trans q2) (by decide)⟩
    rw [← eW0 hb]
    exact main
  · refine ⟨fun q2 => absurd hb q2, fun _ => ?_⟩
    have h := main
    rw [eW1 hb] at h
    exact h
