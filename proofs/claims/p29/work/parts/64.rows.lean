-- a turn of the law's inner loop, next to the class's page
/-- few streets, few legs, few cells -/
def SM (n l : Nat) (P : Nat → Int32) : Prop := n ≤ 3 ∧ l ≤ 5 ∧ ∀ i, i < n → cellsN P i ≤ 6
/-- what stays as it is while the law goes through a shift -/
def LW (n : Nat) (P : Nat → Int32) (σ : St) : Prop := pgW σ 7 = P ∧ hst σ ∧ ∀ i s k, i < n → s < 2 → k < cellsN P i → σ.1 355 (12 * i + cellsN P i * s + k) = P (44 + 83 * i + (20 * s + k))
/-- the law's rows beside a page X of the shift -/
def LD (n l : Nat) (P X : Nat → Int32) (σ : St) : Prop := (∀ i s k, i < n → s < 2 → k < cellsN P i → σ.1 354 (12 * i + cellsN P i * s + k) = X (4 + 83 * i + (20 * s + k))) ∧ ∀ j, j < l → σ.1 356 j = X (508 + 4 * j + 2) ∧ σ.1 357 j = X (508 + 4 * j + 3)
/-- what a shift leaves of the page -/
def KX (n : Nat) (P X : Nat → Int32) : Prop := (∀ y, kp y → X y = P y) ∧ ∀ i m, i < n → m < 40 → X (44 + 83 * i + m) = P (44 + 83 * i + m)
/-- the loop's numbers, off the page -/
def at8 (B : Int32 → Int32 → Int32 → Int32 → Int32 → Int32 → Int32 → Int32 → St → Prop) (X : Nat → Int32) (σ : St) : Prop := B (X 505) (X 506) (X 502 - X 550) (X 561) (X 549) (X 551) (X 552) (X 553) σ
theorem LD.cg {n l : Nat} {P X Y : Nat → Int32} {σ : St} (h : LD n l P X σ) (hn : n ≤ 6) (hl : l ≤ 10) (hc : ∀ i, i < n → cellsN P i ≤ 20) (e : ∀ y, y < 499 ∨ (508 ≤ y ∧ y < 548) → Y y = X y) : LD n l P Y σ := by
  refine ⟨fun i s k hi hs hk => ?_, fun j hj => ?_⟩
  · have := hc i hi
    rw [e _ (by omega)]
    exact h.1 i s k hi hs hk
  · rw [e _ (by omega), e _ (by omega)]
    exact h.2 j hj
theorem KX.rf {n : Nat} {P : Nat → Int32} : KX n P P := ⟨fun _ _ => rfl, fun _ _ _ _ => rfl⟩
theorem KX.up {n y : Nat} {P X : Nat → Int32} {v : Int32} (h : KX n P X) (hn : n ≤ 6) (h1 : ∀ z, kp z → z ≠ y) (h2 : 499 ≤ y) : KX n P (upd X y v) :=
  ⟨fun z hz => by rw [upd_n (h1 z hz)]; exact h.1 z hz, fun i m hi hm => by rw [upd_n (by omega)]; exact h.2 i m hi hm⟩
theorem cB_ne {X : Nat → Int32} {y : Nat} (h : y ≠ 550) : cB X y = X y := upd_n h
theorem swp_505 {X : Nat → Int32} {j i s k : Nat} : swp X j i s k 505 = X 505 - mnI (1 + mnI (coV X (83 * i + (20 * s + k))) (X 500 - X 506) * X 499 / 20) (X 505) := by
  unfold swp
  rw [upd_n (by omega), upd_s]
theorem swp_553 {X : Nat → Int32} {j i s k : Nat} : swp X j i s k 553 = X 553 + mnI (1 + mnI (coV X (83 * i + (20 * s + k))) (X 500 - X 506) * X 499 / 20) (X 505) := by
  unfold swp
  rw [upd_s]
theorem swp_552 {X : Nat → Int32} {j i s k : Nat} : swp X j i s k 552 = X 552 + mnI (coV X (83 * i + (20 * s + k))) (X 500 - X 506) := by
  unfold swp
  rw [upd_n (by omega), upd_n (by omega), upd_s]
theorem swp_506 {X : Nat → Int32} {j i s k : Nat} : swp X j i s k 506 = X 506 + mnI (coV X (83 * i + (20 * s + k))) (X 500 - X 506) := by
  unfold swp
  rw [upd_n (by omega), upd_n (by omega), upd_n (by omega), upd_n (by omega), upd_s]
theorem swp_L {X : Nat → Int32} {j i s k : Nat} (hj : j < 10) : swp X j i s k (508 + 4 * j + 3) = X (508 + 4 * j + 3) + mnI (coV X (83 * i + (20 * s + k))) (X 500 - X 506) := by
  unfold swp
  rw [upd_n (by omega), upd_n (by omega), upd_n (by omega), upd_s]
theorem swp_D {X : Nat → Int32} {j i s k : Nat} (hi : i < 6) (hs : s < 2) (hk : k < 20) : swp X j i s k (4 + 83 * i + (20 * s + k)) = X (4 + 83 * i + (20 * s + k)) - mnI (coV X (83 * i + (20 * s + k))) (X 500 - X 506) := by
  unfold swp
  rw [upd_n (by omega), upd_n (by omega), upd_n (by omega), upd_n (by omega), upd_n (by omega), upd_s]
theorem cC_2 {X : Nat → Int32} {j i s k : Nat} (hj : j < 10) (hi : i < 6) (hs : s < 2) (hk : k < 20) : cC j i s k X (508 + 4 * j + 2) = X (508 + 4 * j + 2) + (if coV (cB X) (83 * i + (20 * s + k)) ≤ X 500 - X 506 then 1 else 0) := by
  have e : swp (cB X) j i s k (508 + 4 * j + 2) = X (508 + 4 * j + 2) := by
    rw [swp_ne (by omega) (by omega) (by omega) (by omega) (by omega) (by omega), cB_ne (by omega)]
  unfold cC cnt2
  rw [cB_ne (show 500 ≠ 550 by omega), cB_ne (show 506 ≠ 550 by omega)]
  split
  · rw [upd_s, e]
  · rw [e, i0]
theorem idx_inj {i i' s s' k k' N N' : Nat} (hs : s < 2) (hs' : s' < 2) (hk : k < N) (hk' : k' < N') (hN : N ≤ 6) (hN' : N' ≤ 6) (eN : i = i' → N = N') (h : 12 * i + N * s + k = 12 * i' + N' * s' + k') : i = i' ∧ s = s' ∧ k = k' := by
  rcases (by omega : s = 0 ∨ s = 1) with rfl | rfl <;> rcases (by omega : s' = 0 ∨ s' = 1) with rfl | rfl
  · simp only [Nat.mul_zero, Nat.add_zero] at h
    omega
  · simp only [Nat.mul_zero, Nat.add_zero, Nat.mul_one] at h
    have : i = i' := by omega
    have := eN this
    omega
  · simp only [Nat.mul_zero, Nat.add_zero, Nat.mul_one] at h
    have : i = i' := by omega
    have := eN this
    omega
  · simp only [Nat.mul_one] at h
    have : i = i' := by omega
    have := eN this
    omega
theorem LW.w {n : Nat} {P : Nat → Int32} {σ : St} {a b : Nat} {v : Int32} (h : LW n P σ) (ha : a = 354 ∨ a = 356 ∨ a = 357) : LW n P (wr σ a b v) := by
  obtain ⟨h1, ⟨x, k, q1, q2, q3, q4⟩, h3⟩ := h
  refine ⟨?_, ⟨x, k, q1, q2, ?_, ?_⟩, fun i s k hi hs hk => ?_⟩
  · rw [← h1]
    exact pgW_cg (fun c c1 c2 => wr_cell (by omega))
  · rw [wr_cell (by omega)]; exact q3
  · rw [wr_cell (by omega)]; exact q4
  · rw [wr_cell (by omega)]; exact h3 i s k hi hs hk
theorem leL {a u len : Nat} (ha : a < 1000000) (hu : u < 1000000) (hl : len < 1000000) : nI a ≤ nI len - nI u ↔ a + u ≤ len := by
  rw [Int32.le_iff_toInt_le, pk_sub_toInt (by omega) (by omega), nI_toInt (by omega)]
  omega
theorem LD.turn {n l i s k j : Nat} {P X : Nat → Int32} {σ : St} (sm : SM n l P) (d : LD n l P X σ) (hj : j < l) (hi : i < n) (hs : s < 2) (hk : k < cellsN P i) : LD n l P (cC j i s k X) (wr (wr (wr σ 354 (12 * i + cellsN P i * s + k) (σ.1 354 (12 * i + cellsN P i * s + k) - mnI (coV (cB X) (83 * i + (20 * s + k))) (X 500 - X 506))) 357 j (σ.1 357 j + mnI (coV (cB X) (83 * i + (20 * s + k))) (X 500 - X 506))) 356 j (σ.1 356 j + (if coV (cB X) (83 * i + (20 * s + k)) ≤ X 500 - X 506 then 1 else 0))) := by
  obtain ⟨s1, s2, s3⟩ := sm
  have c6 := s3 i hi
  refine ⟨fun i' s' k' hi' hs' hk' => ?_, fun j' hj' => ?_⟩
  · have c6' := s3 i' hi'
    rw [wr_cell (by omega), wr_cell (by omega)]
    by_cases q : i' = i ∧ s' = s ∧ k' = k
    · obtain ⟨rfl, rfl, rfl⟩ := q
      rw [wr_same, d.1 i' s' k' hi hs hk]
      unfold cC
      rw [cnt2_ne (by omega), swp_D (by omega) hs (by omega), cB_ne (by omega), cB_ne (by omega), cB_ne (by omega)]
    · rw [wr_else (Or.inr (fun e => q (idx_inj hs' hs hk' hk c6' c6 (fun e => by rw [e]) e))), d.1 i' s' k' hi' hs' hk']
      unfold cC
      rw [cnt2_ne (by omega), swp_ne (fun e => q (ddi hs' (by omega) hs (by omega) e)) (by omega) (by omega) (by omega) (by omega) (by omega), cB_ne (by omega)]
  · by_cases q : j' = j
    · subst q
      rw [wr_same, wr_cell (by omega), wr_same, (d.2 j' hj).1, (d.2 j' hj).2, cC_2 (by omega) (by omega) hs (by omega)]
      refine ⟨rfl, ?_⟩
      unfold cC
      rw [cnt2_ne (by omega), swp_L (by omega), cB_ne (by omega), cB_ne (by omega), cB_ne (by omega)]
    · rw [wr_else (Or.inr q), wr_cell (show (356 : Nat) ≠ 357 by omega), wr_cell (show (356 : Nat) ≠ 354 by omega), wr_cell (show (357 : Nat) ≠ 356 by omega), wr_else (Or.inr q), wr_cell (show (357 : Nat) ≠ 354 by omega), (d.2 j' hj').1, (d.2 j' hj').2]
      unfold cC
      rw [cnt2_ne (by omega), cnt2_ne (by omega), swp_ne (by omega) (by omega) (by omega) (by omega) (by omega) (by omega), swp_ne (by omega) (by omega) (by omega) (by omega) (by omega) (by omega), cB_ne (by omega), cB_ne (by omega)]
      exact ⟨rfl, rfl⟩
theorem KX.turn {n i s k j : Nat} {P X : Nat → Int32} (h : KX n P X) (hn : n ≤ 6) (hj : j < 10) (hi : i < n) (hs : s < 2) (hk : k < 20) : KX n P (cC j i s k X) := by
  refine ⟨fun y hy => by rw [cC_k hy hj (by omega) hs hk]; exact h.1 y hy, fun i' m hi' hm => ?_⟩
  rw [← h.2 i' m hi' hm]
  show cnt2 (cB X) j i s k (44 + 83 * i' + m) = X (44 + 83 * i' + m)
  rw [cnt2_ne (by omega), swp_ne (dpk hs hk hm) (by omega) (by omega) (by omega) (by omega) (by omega), cB_ne (by omega)]
theorem KX.dump {n i : Nat} {P X C : Nat → Int32} (h : KX n P C) (hn : n ≤ 6) : KX n P (cD i X C) := by
  refine ⟨fun y hy => by rw [cD_k hy]; exact h.1 y hy, fun i' m hi' hm => ?_⟩
  rw [← h.2 i' m hi' hm]
  show dmp (upd (upd C 550 (C 550 + cT i X)) 551 (C 551 + 1)) (44 + 83 * i' + m) = C (44 + 83 * i' + m)
  unfold dmp
  rw [upd_n (by omega), upd_n (by omega), upd_n (by omega), upd_n (by omega)]
theorem cD_lo {i y : Nat} {X C : Nat → Int32} (h : y ≠ 550) (h1 : y ≠ 551) (h2 : y ≠ 561) (h3 : y ≠ 506) : cD i X C y = C y := by
  unfold cD dmp
  rw [upd_n h3, upd_n h2, upd_n h1, upd_n h]
