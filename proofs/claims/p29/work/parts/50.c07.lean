/-- the drive to the dump and back, in numbers -/
theorem okU.dump {c n l i u u1 : Nat} {P C : Nat → Int32} (h : okU c n l u P) (hC : okU c n l u1 C) (hi : i < n) (e1 : C 502 = P 502) (hfit : ¬ C 502 < C 550 + cT i P + 10 * P (2 + 83 * i)) : ∃ u2, u1 ≤ u2 ∧ okU c n l u2 (cD i P C) := by
  obtain ⟨ok, a1, a2⟩ := h
  obtain ⟨okc, b1, b2⟩ := hC
  obtain ⟨d, d1, d2⟩ := ok.ds hi
  obtain ⟨len, l1, l2⟩ := ok.len
  have eT : cT i P = nI (20 * d + 100) := by
    unfold cT
    rw [d1, li 10, pk_mul, li 2, pk_mul, show (100 : Int32) = nI 100 from rfl, nI_add]
    congr 1
    omega
  rw [e1, eT, b1, d1, l1, li 10, pk_mul, nI_add, nI_add, lti (by omega) (by omega)] at hfit
  refine ⟨u1 + (20 * d + 100), by omega, ?_, ?_, by omega⟩
  · unfold cD
    exact ((okc.inert (inert_hi (by omega) (by omega))).inert (inert_hi (by omega) (by omega))).dm
  · unfold cD dmp
    rw [upd_n (by omega), upd_n (by omega), upd_n (by omega), upd_s, eT, b1, nI_add]
-- a shift, on the class's side: a cell
def kp (y : Nat) : Prop := y = 0 ∨ (∃ a r, r < 3 ∧ y = 1 + 83 * a + r ∧ y < 499) ∨ (499 ≤ y ∧ y < 505) ∨ y = 507 ∨ (508 ≤ y ∧ y < 548 ∧ (y - 508) % 4 < 2) ∨ y = 548 ∨ y = 555 ∨ y = 562
theorem kp_d {y i s k : Nat} (h : kp y) (hs : s < 2) (hk : k < 20) : y ≠ 4 + 83 * i + (20 * s + k) ∨ 499 ≤ y := by
  by_cases q : 499 ≤ y
  · exact Or.inr q
  · left
    rcases h with h | ⟨a, r, hr, e, _⟩ | h | h | h | h | h | h
    · omega
    · intro q2; exact dne hs hk hr (q2.symm.trans e)
    · omega
    · omega
    · omega
    · omega
    · omega
    · omega
theorem kp_x {y : Nat} (h : kp y) : y ≠ 506 ∧ y ≠ 552 ∧ y ≠ 505 ∧ y ≠ 553 ∧ y ≠ 549 ∧ y ≠ 550 ∧ y ≠ 551 ∧ y ≠ 561 ∧ ∀ j f, j < 10 → 2 ≤ f → f < 4 → y ≠ 508 + 4 * j + f := by
  rcases h with h | ⟨a, r, hr, e, _⟩ | h | h | h | h | h | h
  all_goals refine ⟨by omega, by omega, by omega, by omega, by omega, by omega, by omega, by omega, fun j f h0 h1 h2 => ?_⟩
  all_goals omega
theorem swp_k {P : Nat → Int32} {i j s k y : Nat} (h : kp y) (hj : j < 10) (hi : i < 6) (hs : s < 2) (hk : k < 20) : swp P j i s k y = P y := by
  obtain ⟨k1, k2, k3, k4, k5, k6, k7, k8, k9⟩ := kp_x h
  refine swp_ne ?_ k1 (k9 j 3 hj (by omega) (by omega)) k2 k3 k4
  rcases kp_d (i := i) h hs hk with q | q
  · exact q
  · omega
theorem cC_k {P : Nat → Int32} {i j s k y : Nat} (h : kp y) (hj : j < 10) (hi : i < 6) (hs : s < 2) (hk : k < 20) : cC j i s k P y = P y := by
  obtain ⟨k1, k2, k3, k4, k5, k6, k7, k8, k9⟩ := kp_x h
  unfold cC
  rw [cnt2_ne (k9 j 2 hj (by omega) (by omega)), swp_k h hj hi hs hk]
  unfold cB
  rw [upd_n k6]
theorem cD_k {P C : Nat → Int32} {i y : Nat} (h : kp y) : cD i P C y = C y := by
  obtain ⟨k1, k2, k3, k4, k5, k6, k7, k8, k9⟩ := kp_x h
  unfold cD dmp
  rw [upd_n k1, upd_n k8, upd_n k7, upd_n k6]
theorem cellF_k {i j s k y : Nat} (h : kp y) (hj : j < 10) (hi : i < 6) (hs : s < 2) (hk : k < 20) : ∀ f (P : Nat → Int32), cellF j i s k f P y = P y := by
  obtain ⟨k1, k2, k3, k4, k5, k6, k7, k8, k9⟩ := kp_x h
  intro f
  induction f with
  | zero => intro P; rfl
  | succ f ih =>
    intro P
    rw [cellF_s]
    split
    · rw [upd_n k5]
    · split
      · split
        · rw [upd_n k5, cC_k h hj hi hs hk]
        · split
          · rw [cD_k h, cC_k h hj hi hs hk]
          · rw [ih, cD_k h, cC_k h hj hi hs hk]
      · rw [cC_k h hj hi hs hk]
theorem s_5_fits {σ0 σ : St} {B R i : Nat} {P : Nat → Int32} {x : Int32} {Q : Int32 → St → Prop} (hR : rfR R = B) (t : toW σ0 σ B P) (hi : i < 6) (h0 : P 502 < P 550 + x + 10 * P (2 + 83 * i) → Q 0 σ) (h1 : ¬ P 502 < P 550 + x + 10 * P (2 + 83 * i) → Q 1 σ) : m_5_fits R x (B + 1 + 5 + 3 * i) Q σ := by
  unfold m_5_fits m_6_driveToDump
  show vp_in 3 6 ∧ ((σ.1 (rfR R + 3) (3 : Int32).toNatClampNeg < σ.1 (rfR R + 5) 1 + x + (10 * σ.1 (B + 1 + 5 + 3 * i) 1) → Q 0 σ) ∧ (¬ σ.1 (rfR R + 3) (3 : Int32).toNatClampNeg < σ.1 (rfR R + 5) 1 + x + (10 * σ.1 (B + 1 + 5 + 3 * i) 1) → Q 1 σ))
  rw [hR, tn3, gset σ B (k := 3) (by omega), grep σ B (k := 1) (by omega), gst σ B (k := 1) hi (by omega), t.g, t.g, t.g, show 1 + 83 * i + 1 = 2 + 83 * i by omega]
  exact ⟨vi3, h0, h1⟩
theorem s_8_emptyHopper {σ0 σ : St} {B : Nat} {P : Nat → Int32} {Q : St → Prop} (t : toW σ0 σ B P) (hQ : ∀ τ, toW σ0 τ B (dmp P) → Q τ) : m_8_emptyHopper B Q σ := by
  unfold m_8_emptyHopper
  refine ⟨vi5, vi5, fun σ1 e1 σ2 e2 => ?_⟩
  rw [tn5, gsum σ B (k := 5) (by omega), g506, t.g, t.g] at e1
  have t1 := tw_sum t (k := 5) (v := P (556 + 5) + P 506) (by omega)
  rw [← e1] at t1
  have t2 := tw_n506 t1 (v := 0)
  rw [← e2] at t2
  exact hQ σ2 t2
theorem s_5_sweepOnce {c n l : Nat} {σ0 σ : St} {B R i j s k : Nat} {P : Nat → Int32} {Q : Int32 → St → Prop} (hR : rfR R = B) (t : toW σ0 σ B P) (ok : okP c n l P) (hi : i < n) (hj : j < 10) (hs : s < 2) (hk : k < 20) (hQ : ∀ τ, toW σ0 τ B (swp P j i s k) → Q (if coV P (83 * i + (20 * s + k)) ≤ P 500 - P 506 then 1 else 0) τ) : m_5_sweepOnce R (B + 2 + 22 + j) (B + 1 + 5 + 3 * i) (nI (20 * s + k)) Q σ := by
  have h6 := ok.1.2.1
  unfold m_5_sweepOnce
  rw [hR]
  refine s_8_grip ?_
  refine s_6_couldGive (by omega) ?_
  refine s_8_room ?_
  have ec : (if σ.1 (B + 1 + 5 + 3 * i + 2) (20 * s + k) = 0 then σ.1 (B + 1 + 5 + 3 * i + 1) (20 * s + k) * grV (pgW σ B) / 100 else 0) = coV P (83 * i + (20 * s + k)) := by
    unfold coV
    rw [gpa σ B (by omega) (by omega), gdi σ B (by omega) (by omega), t.g, t.g, t.1, show 44 + (83 * i + (20 * s + k)) = 44 + 83 * i + (20 * s + k) by omega, show 4 + (83 * i + (20 * s + k)) = 4 + 83 * i + (20 * s + k) by omega]
  rw [ec, t.1]
  intro x5 e5
  have e5 : x5 = mnI (coV P (83 * i + (20 * s + k))) (P 500 - P 506) := e5
  rw [tn _ (by omega)]
  refine ⟨vin (by omega), vin (by omega), fun σ8 e8 σ9 e9 σ10 e10 σ11 e11 => ⟨vi0, fun x6 e6 σ13 e13 σ14 e14 => ?_⟩⟩
  rw [gdi σ B (by omega) (by omega), t.g, e5] at e8
  have t8 := tw_di t (i := i) (k := 20 * s + k) (v := P (4 + 83 * i + (20 * s + k)) - mnI (coV P (83 * i + (20 * s + k))) (P 500 - P 506)) (by omega) (by omega)
  rw [← e8] at t8
  rw [g506, t8.g, upd_n (by omega), e5] at e9
  have t9 := tw_n506 t8 (v := P 506 + mnI (coV P (83 * i + (20 * s + k))) (P 500 - P 506))
  rw [← e9] at t9
  rw [gle σ9 B hj (by omega), t9.g, upd_n (by omega), upd_n (by omega), e5] at e10
  have t10 := tw_le t9 (a := j) (f := 3) (v := P (508 + 4 * j + 3) + mnI (coV P (83 * i + (20 * s + k))) (P 500 - P 506)) hj (by omega)
  rw [← e10] at t10
  rw [grep σ10 B (k := 3) (by omega), t10.g, upd_n (by omega), upd_n (by omega), upd_n (by omega), e5] at e11
  have t11 := tw_rep t10 (k := 3) (v := P (549 + 3) + mnI (coV P (83 * i + (20 * s + k))) (P 500 - P 506)) (by omega)
  rw [← e11] at t11
  obtain ⟨cap, g, cv, c1, c2, c3, c4, c5, c6, c7, c8, c9, c10, w, b, w1, w2, w3, w4, w5, w6⟩ := ok.sw hi hs hk hj
  have e6' : x6 = mnI (1 + mnI (coV P (83 * i + (20 * s + k))) (P 500 - P 506) * P 499 / 20) (P 505) := by
    rw [e6, tn0, gset σ11 B (k := 0) (by omega), g505, t11.g, t11.g, e5]
    rw [upd_n (by omega), upd_n (by omega), upd_n (by omega), upd_n (by omega), upd_n (by omega), upd_n (by omega), upd_n (by omega), upd_n (by omega), show (499 + 0 : Nat) = 499 from rfl, w5, w3, mnI_nat (by omega) (by omega)]
    by_cases q : 1 + min cv (cap - g) * (P 499).toNatClampNeg / 20 < b
    · rw [if_pos ((lti (by omega) (by omega)).mpr q)]
      exact congrArg nI (Nat.min_eq_left (Nat.le_of_lt q)).symm
    · rw [if_neg (fun q2 => q ((lti (by omega) (by omega)).mp q2))]
      exact congrArg nI (Nat.min_eq_right (Nat.le_of_not_lt q)).symm
  rw [g505, t11.g, e6'] at e13
  have t13 := tw_n505 t11 (v := P 505 - mnI (1 + mnI (coV P (83 * i + (20 * s + k))) (P 500 - P 506) * P 499 / 20) (P 505))
  rw [upd_n (by omega), upd_n (by omega), upd_n (by omega), upd_n (by omega)] at e13
  rw [← e13] at t13
  rw [grep σ13 B (k := 4) (by omega), t13.g, upd_n (by omega), upd_n (by omega), upd_n (by omega), upd_n (by omega), upd_n (by omega), e6'] at e14
  have t14 := tw_rep t13 (k := 4) (v := P (549 + 4) + mnI (1 + mnI (coV P (83 * i + (20 * s + k))) (P 500 - P 506) * P 499 / 20) (P 505)) (by omega)
  rw [← e14] at t14
  have hQ' := hQ σ14 t14
  have full : coV P (83 * i + (20 * s + k)) = x5 ↔ coV P (83 * i + (20 * s + k)) ≤ P 500 - P 506 := by
    rw [e5, c8, c5, c7, eqi (by omega) (by omega), lei (by omega) (by omega)]
    omega
  refine ⟨fun q => ?_, fun q => ?_⟩
  · rw [if_neg (fun q2 => q (full.mpr q2))] at hQ'
    exact hQ'
  · rw [if_pos (full.mp q)] at hQ'
    exact hQ'
theorem s_5_unitsForCell {c n l : Nat} {σ0 σ : St} {B R : Nat} {P : Nat → Int32} {Q : Int32 → St → Prop} (hR : rfR R = B) (t : toW σ0 σ B P) (ok : okP c n l P) (hQ : Q (12 / P 499) σ) : m_5_unitsForCell R Q σ := by
  obtain ⟨v, v1, v2, v3⟩ := ok.spd
  unfold m_5_unitsForCell
  rw [hR, tn0, gset σ B (k := 0) (by omega), t.g, show (499 + 0 : Nat) = 499 from rfl]
  have e : (if 1 < P 499 then P 499 else 1) = P 499 := by
    rw [v1]
    by_cases q : 1 < v
    · rw [if_pos (show (1 : Int32) < nI v from (lti (a := 1) (by omega) (by omega)).mpr q)]
    · rw [if_neg (show ¬ (1 : Int32) < nI v from fun q2 => q ((lti (a := 1) (by omega) (by omega)).mp q2)), show v = 1 by omega]
      rfl
  rw [e]
  refine ⟨vi0, fun z => ?_, hQ⟩
  rw [v1, show (0 : Int32) = nI 0 from rfl, eqi (by omega) (by omega)] at z
  omega
theorem s_5_finishCell {c n l u : Nat} {σ0 σ : St} {B R i j s k : Nat} {P0 : Nat → Int32} {Q : Int32 → St → Prop} (hR : rfR R = B) (t : toW σ0 σ B P0) (ok0 : okU c n l u P0) (z0 : P0 549 = 0) (hi : i < n) (hj : j < 10) (hs : s < 2) (hk : k < 20) (hQ : ∀ τ P' r u', toW σ0 τ B P' → okU c n l u' P' → P' 549 = 0 → (∀ y, kp y → P' y = P0 y) → upd P' 549 r = cellF j i s k 7000 P0 → Q r τ) : m_5_finishCell R (B + 2 + 22 + j) (B + 1 + 5 + 3 * i) (nI (20 * s + k)) Q σ := by
  have h6 := ok0.1.1.2.1
  unfold m_5_finishCell
  refine s_5_unitsForCell hR t ok0.1 ?_
  unfold m_6_driveToDump
  intro x5 e5
  rw [gst σ B (k := 1) (by omega) (by omega), t.g, show 1 + 83 * i + 1 = 2 + 83 * i by omega] at e5
  have e5 : x5 = cT i P0 := e5
  subst e5
  refine it_lt (fun (m : Nat) (A : Int32 → St → Prop) => ∀ τ P u cnt f, m + u = 6001 → m ≤ f → cnt ≤ u → toW σ0 τ B P → okU c n l u P → P 549 = 0 → (∀ y, kp y → P y = P0 y) → cellF j i s k f P = cellF j i s k 7000 P0 → A (nI cnt) τ) ?_ (6001 - u) (by omega) σ P0 u 0 7000 (by have := ok0.2.2; omega) (by omega) (by omega) t ok0 z0 (fun _ _ => rfl) rfl
  intro m A hA τ P u cnt f hm hf hc tP ok z kP hF
  have hu := ok.2.2
  obtain ⟨f, rfl⟩ : ∃ f', f = f' + 1 := ⟨f - 1, by omega⟩
  unfold m_5_finishCell_20
  refine ⟨fun q => absurd ((lei (a := 1000000) (by omega) (by omega)).mp q) (by omega), fun _ => ?_⟩
  have e499 : P0 499 = P 499 := (kP 499 (Or.inr (Or.inr (Or.inl ⟨by omega, by omega⟩)))).symm
  have eds : P (2 + 83 * i) = P0 (2 + 83 * i) := kP _ (Or.inr (Or.inl ⟨i, 1, by omega, by omega, by omega⟩))
  have eT : cT i P0 = cT i P := by unfold cT; rw [eds]
  rw [e499]
  rw [cellF_s] at hF
  refine s_5_fits hR tP (by omega) (fun q => ⟨fun q2 => absurd rfl q2, fun _ => ?_⟩) (fun q => ⟨fun _ σ3 e3 => ?_, fun q2 => absurd q2 (by decide)⟩)
  · rw [if_pos q] at hF
    exact hQ τ P 2 u tP ok z kP hF
  rw [if_neg q] at hF
  rw [hR, grep τ B (k := 1) (by omega), tP.g, show (549 + 1 : Nat) = 550 from rfl] at e3
  have t3 := tw_rep tP (k := 1) (v := P 550 + 12 / P 499) (by omega)
  rw [← e3] at t3
  have t3 : toW σ0 σ3 B (cB P) := t3
  obtain ⟨u1, cap, g, cv, u3, u6, eu, c1, c2, c3, c4, c5, c6, c7, okb, okc, c8, c9, c10, c11⟩ := ok.cell hi hs hk hj q
  have b56 : cB P 500 - cB P 506 = P 500 - P 506 := by unfold cB; rw [upd_n (by omega), upd_n (by omega)]
  refine s_5_sweepOnce hR t3 okb.1 hi hj hs hk (fun σ4 t4 => ?_)
  rw [b56, c6, c7]
  rw [c6, c7] at hF
  have fe : nI cv ≤ nI (cap - g) ↔ cv ≤ cap - g := lei (by omega) (by omega)
  have le : (nI (g + min cv (cap - g)) = nI cap) ↔ cap - g ≤ cv := by rw [eqi (by omega) (by omega)]; omega
  rw [c8, c9] at hF
  have kC : ∀ y, kp y → cC j i s k P y = P0 y := fun y hy => by rw [cC_k hy hj (by omega) hs hk]; exact kP y hy
  have zC : cC j i s k P 549 = 0 := by
    unfold cC
    rw [cnt2_ne (by omega), swp_ne (by omega) (by omega) (by omega) (by omega) (by omega) (by omega)]
    unfold cB
    rw [upd_n (by omega)]
    exact z
  -- the drive to the dump
  have dump : ∀ (v : Int32) τ', toW σ0 τ' B (cC j i s k P) → cap - g ≤ cv → (v = 1 ∧ cv ≤ cap - g ∨ v = 0 ∧ ¬ cv ≤ cap - g) → m_5_finishCell_92 R (B + 2 + 22 + j) (B + 1 + 5 + 3 * i) (nI (20 * s + k)) (12 / P 499) (cT i P0) (nI cnt) v A Q τ' := fun v τ' t' hle hv => by
    rw [if_pos (le.mpr hle)] at hF
    unfold m_5_finishCell_92
    have e502 : cC j i s k P 502 = P 502 := c10 502 (by omega) (by omega)
    have edc : cC j i s k P (2 + 83 * i) = P (2 + 83 * i) := by rw [eds]; exact kC _ (Or.inr (Or.inl ⟨i, 1, by omega, by omega, by omega⟩))
    refine s_5_fits hR t' (by omega) (fun q2 => ⟨fun q3 => absurd rfl q3, fun _ => ?_⟩) (fun q2 => ⟨fun _ σ5 e5 σ6 e6 => ?_, fun q3 => absurd q3 (by decide)⟩)
    · rw [eT, edc] at q2
      rw [if_pos q2] at hF
      exact hQ τ' _ 3 u1 t' okc zC kC hF
    · rw [eT, edc] at q2
      rw [if_neg q2] at hF
      obtain ⟨u2, d1, okd⟩ := ok.dump okc hi e502 q2
      rw [hR, grep τ' B (k := 1) (by omega), t'.g, show (549 + 1 : Nat) = 550 from rfl, eT] at e5
      have t5 := tw_rep t' (k := 1) (v := cC j i s k P 550 + cT i P) (by omega)
      rw [← e5] at t5
      rw [hR, grep σ5 B (k := 2) (by omega), t5.g, upd_n (by omega), show (549 + 2 : Nat) = 551 from rfl] at e6
      have t6 := tw_rep t5 (k := 2) (v := cC j i s k P 551 + 1) (by omega)
      rw [← e6] at t6
      rw [hR]
      refine s_8_emptyHopper t6 (fun σ7 t7 => ?_)
      have t7 : toW σ0 σ7 B (cD i P (cC j i s k P)) := t7
      have kD : ∀ y, kp y → cD i P (cC j i s k P) y = P0 y := fun y hy => by rw [cD_k hy]; exact kC y hy
      have zD : cD i P (cC j i s k P) 549 = 0 := by
        unfold cD dmp
        rw [upd_n (by omega), upd_n (by omega), upd_n (by omega), upd_n (by omega)]
        exact zC
      rcases hv with ⟨rfl, hv⟩ | ⟨rfl, hv⟩
      · rw [if_pos (fe.mpr hv)] at hF
        refine ⟨fun q3 => absurd q3 (by decide), fun _ => hQ σ7 _ 0 u2 t7 okd zD kD ?_⟩
        rw [upd_self zD]
        exact hF
      · rw [if_neg (fun q3 => hv (fe.mp q3))] at hF
        refine ⟨fun _ x6 e6 => ?_, fun q3 => absurd rfl q3⟩
        rw [e6, li 1, nI_add]
        exact hA (6001 - u2) (by omega) σ7 _ u2 (cnt + 1) f (by have := okd.2.2; omega) (by omega) (by omega) t7 okd zD kD hF
  by_cases full : cv ≤ cap - g
  · rw [if_pos (fe.mpr full)]
    refine ⟨fun q2 => absurd q2 (by decide), fun _ σ6 e6 => ?_⟩
    rw [gle σ4 B hj (by omega), t4.g] at e6
    have t6 := tw_le t4 (a := j) (f := 2) (v := swp (cB P) j i s k (508 + 4 * j + 2) + 1) hj (by omega)
    rw [← e6] at t6
    have ec : upd (swp (cB P) j i s k) (508 + 4 * j + 2) (swp (cB P) j i s k (508 + 4 * j + 2) + 1) = cC j i s k P := by
      unfold cC cnt2
      rw [b56, c6, c7, if_pos (fe.mpr full)]
    rw [ec] at t6
    rw [hR]
    refine s_8_room ?_
    rw [t6.1, c8, c9, pk_sub (by omega)]
    have hz : nI (cap - (g + min cv (cap - g))) ≤ 0 ↔ cap - g ≤ cv := by
      rw [show (0 : Int32) = nI 0 from rfl, lei (by omega) (by omega)]
      omega
    refine ⟨fun q2 => dump 1 σ6 t6 (hz.mp q2) (Or.inl ⟨rfl, full⟩), fun q2 => ?_⟩
    rw [if_neg (fun q3 => q2 (hz.mpr (le.mp q3)))] at hF
    refine hQ σ6 _ 0 u1 t6 okc zC kC ?_
    rw [upd_self zC]
    exact hF
  · rw [if_neg (fun q3 => full (fe.mp q3))]
    refine ⟨fun _ => ?_, fun q2 => absurd rfl q2⟩
    have ec : swp (cB P) j i s k = cC j i s k P := by
      unfold cC cnt2
      rw [b56, c6, c7, if_neg (fun q3 => full (fe.mp q3))]
    rw [ec] at t4
    exact dump 0 σ4 t4 (by omega) (Or.inr ⟨rfl, full⟩)
-- a shift, on the class's side: legs
theorem cellsF_stop {j i s k : Nat} {P : Nat → Int32} (h : cellsF j i s k P 549 ≠ 0) : ∀ d, cellsF j i s (k + d) P = cellsF j i s k P := by
  intro d
  induction d with
  | zero => rfl
  | succ d ih =>
    have e : cellsF j i s (k + (d + 1)) P = if cellsF j i s (k + d) P 549 = 0 then cellF j i s (k + d) 7000 (cellsF j i s (k + d) P) else cellsF j i s (k + d) P := rfl
    rw [e, ih, if_neg h]
theorem legsF_stop {o : Nat → Nat} {k : Nat} {P : Nat → Int32} (h : (legsF o P k).1 549 ≠ 0) : ∀ d, legsF o P (k + d) = legsF o P k ∧ doneF o P (k + d) = doneF o P k := by
  intro d
  induction d with
  | zero => exact ⟨rfl, rfl⟩
  | succ d ih =>
    have e : legsF o P (k + (d + 1)) = if (legsF o P (k + d)).1 549 = 0 then legF (o (k + d)) (legsF o P (k + d)).1 (legsF o P (k + d)).2 else legsF o P (k + d) := rfl
    have e2 : doneF o P (k + (d + 1)) = if (legsF o P (k + d)).1 549 = 0 ∧ (legsF o P (k + d + 1)).1 549 = 0 then k + d + 1 else doneF o P (k + d) := rfl
    rw [e, e2, ih.1, if_neg h, if_neg (fun q => h q.1)]
    exact ⟨rfl, ih.2⟩
theorem legsF_on {o : Nat → Nat} {P : Nat → Int32} : ∀ k, (legsF o P k).1 549 = 0 → doneF o P k = k := by
  intro k
  induction k with
  | zero => intro _; rfl
  | succ k ih =>
    intro h
    by_cases q : (legsF o P k).1 549 = 0
    · exact if_pos ⟨q, h⟩
    · have := (legsF_stop q 1).1
      rw [this] at h
      exact absurd h q
theorem subnn {a b : Nat} (ha : a < 1000001) (hb : b < 1000001) : 0 ≤ nI a - nI b ↔ b ≤ a := by
  rw [Int32.le_iff_toInt_le, pk_sub_toInt (by omega) (by omega), show (0 : Int32).toInt = 0 from rfl]
  omega
theorem s_5_driveTo {c n l : Nat} {σ0 σ : St} {B R i : Nat} {P : Nat → Int32} {pos : Int32} {Q : Int32 → St → Prop} (hR : rfR R = B) (t : toW σ0 σ B P) (ok : okP c n l P) (hp : σ.1 R 1 = pos) (hpo : posO n pos) (hi : i < n) (hQ : Q (driV P pos i) σ) : m_5_driveTo R (nI i) Q σ := by
  have h6 := ok.1.2.1
  unfold m_5_driveTo
  rw [tn i (by omega), hR, gst σ B (k := 1) (by omega) (by omega), t.g, show 1 + 83 * i + 1 = 2 + 83 * i by omega, hp]
  refine ⟨vin (by omega), fun x2 e2 => ⟨fun q1 => ⟨fun q2 => ?_, fun q2 => ?_⟩, fun q1 => ?_⟩⟩
  · rcases hpo with q | ⟨a, ha, rfl⟩
    · exact absurd q q1
    rw [tn a (by omega)]
    refine ⟨vin (by omega), fun x3 e3 => ?_⟩
    rw [gst σ B (k := 1) (by omega) (by omega), t.g, show 1 + 83 * a + 1 = 2 + 83 * a by omega, e2] at e3
    unfold driV at hQ
    rw [if_neg q2, if_neg q1, tn a (by omega)] at hQ
    have : x3 = (if 0 ≤ P (2 + 83 * a) - P (2 + 83 * i) then P (2 + 83 * a) - P (2 + 83 * i) else -(P (2 + 83 * a) - P (2 + 83 * i))) := by
      rw [e3]
      obtain ⟨d, d1, d2⟩ := ok.ds hi
      obtain ⟨b, b1, b2⟩ := ok.ds ha
      rw [d1, b1]
      by_cases z1 : b ≤ d
      · rw [if_pos ((subnn (by omega) (by omega)).mpr z1)]
        by_cases z2 : d ≤ b
        · rw [if_pos ((subnn (by omega) (by omega)).mpr z2), show d = b by omega]
        · rw [if_neg (fun z3 => z2 ((subnn (by omega) (by omega)).mp z3))]
          grind
      · rw [if_neg (fun z3 => z1 ((subnn (by omega) (by omega)).mp z3)), if_pos ((subnn (by omega) (by omega)).mpr (by omega))]
        grind
    rw [this]
    exact hQ
  · unfold driV at hQ
    rw [if_pos q2] at hQ
    exact hQ
  · unfold driV at hQ
    rw [if_neg (fun z => ?_), if_pos q1] at hQ
    · rw [e2]; exact hQ
    · rw [q1] at z
      exact nn0 (j := i) (by omega) (z ▸ (by decide))
