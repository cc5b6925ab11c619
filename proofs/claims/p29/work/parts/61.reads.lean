-- what the class's readers tell, place by place
theorem vAcc6 {c n l : Nat} {P : Nat → Int32} (ok : okP c n l P) : vAcc P 6 = oS P n := by
  have h6 := ok.1.2.1
  unfold vAcc
  rw [cif_f (by rintro ⟨k, hk, e⟩; exact absurd ((eqi (a := 6) (by omega) (by omega)).mp e) (by omega)), cif_t rfl, ok.1.1, tn n (by omega)]
theorem vAccK {P : Nat → Int32} {k : Nat} (hk : k < 6) : vAcc P (nI k) = P (556 + k) := by
  unfold vAcc
  rw [cif_t ⟨k, hk, rfl⟩, tn k (by omega)]
theorem a_acc {c n l k : Nat} {Q : Int32 → St → Prop} {σ : St} (ok : okP c n l (pgW σ 7)) (hk : k < 6) (h : Q (pgW σ 7 (556 + k)) σ) : m_9_account 0 (nI k) Q σ := by
  refine s_9_account (r0 := 0) ok ?_
  rw [vAccK hk]
  exact h
theorem a_acc6 {c n l : Nat} {Q : Int32 → St → Prop} {σ : St} (ok : okP c n l (pgW σ 7)) (h : Q (oS (pgW σ 7) n) σ) : m_9_account 0 6 Q σ := by
  refine s_9_account (r0 := 0) ok ?_
  rw [show (0 + 7 : Nat) = 7 from rfl, vAcc6 ok]
  exact h
/-- where count(k) reads -/
def cntA (k : Nat) : Nat := if k = 0 then 0 else if k = 1 then 507 else if k = 2 then 499 else if k = 3 then 505 else if k = 4 then 506 else if k = 5 then 500 else if k = 6 then 501 else if k = 7 then 502 else if k = 8 then 503 else if k = 9 then 504 else 562
theorem vCntK {P : Nat → Int32} {ty bk : Int32} {k : Nat} (hk : k < 12) (h10 : k ≠ 10) : vCnt P ty bk (nI k) = P (cntA k) := by
  have e : ∀ m, m < 15 → (nI k = nI m ↔ k = m) := fun m hm => eqi (by omega) (by omega)
  unfold vCnt
  rw [li 0, li 1, li 2, li 3, li 4, li 5, li 6, li 7, li 8, li 9, li 10, li 11, li 12, li 13, li 14]
  simp only [e 0 (by omega), e 1 (by omega), e 2 (by omega), e 3 (by omega), e 4 (by omega), e 5 (by omega), e 6 (by omega), e 7 (by omega), e 8 (by omega), e 9 (by omega), e 10 (by omega), e 11 (by omega), e 12 (by omega), e 13 (by omega), e 14 (by omega)]
  have : k = 0 ∨ k = 1 ∨ k = 2 ∨ k = 3 ∨ k = 4 ∨ k = 5 ∨ k = 6 ∨ k = 7 ∨ k = 8 ∨ k = 9 ∨ k = 11 := by omega
  rcases this with e | e | e | e | e | e | e | e | e | e | e <;> subst e <;> rfl
theorem a_cnt {k : Nat} {Q : Int32 → St → Prop} {σ : St} (hk : k < 12) (h10 : k ≠ 10) (h : Q (pgW σ 7 (cntA k)) σ) : m_9_count 0 (nI k) Q σ := by
  refine s_9_count (r0 := 0) ?_
  rw [vCntK hk h10]
  exact h
theorem vStK {c n l i r : Nat} {P : Nat → Int32} (ok : okP c n l P) (hi : i < n) (hr : r < 3) : vStreet P (nI i) (nI r) = P (1 + 83 * i + r) := by
  have h6 := ok.1.2.1
  unfold vStreet
  rw [cif_t ⟨i, n, ok.1.1, hi, h6, rfl⟩, tn i (by omega)]
  rcases (by omega : r = 0 ∨ r = 1 ∨ r = 2) with e | e | e <;> subst e
  · rfl
  · rw [if_neg (by decide), if_pos (by rfl), show 2 + 83 * i = 1 + 83 * i + 1 by omega]
  · rw [if_neg (by decide), if_neg (by decide), if_pos (by rfl), show 3 + 83 * i = 1 + 83 * i + 2 by omega]
theorem a_st {c n l i r : Nat} {Q : Int32 → St → Prop} {σ : St} (ok : okP c n l (pgW σ 7)) (hi : i < n) (hr : r < 3) (h : Q (pgW σ 7 (1 + 83 * i + r)) σ) : m_9_street 0 (nI i) (nI r) Q σ := by
  refine s_9_street (r0 := 0) ok ?_
  rw [show (0 + 7 : Nat) = 7 from rfl, vStK ok hi hr]
  exact h
theorem vCellK {c n l i s k r : Nat} {P : Nat → Int32} (ok : okP c n l P) (hi : i < n) (hs : s < 2) (hk : k < cellsN P i) (hr : r < 2) : vCell P (nI i) (nI s) (nI k) (nI r) = P (4 + 40 * r + 83 * i + (20 * s + k)) := by
  have h6 := ok.1.2.1
  obtain ⟨cv, cv1, cv2⟩ := ok.cells hi
  unfold vCell
  rw [cif_t ⟨i, s, k, n, cellsN P i, ok.1.1, hi, h6, rfl, hs, rfl, cv, cv2, hk, rfl⟩, tn i (by omega), tn s (by omega), tn k (by omega)]
  rcases (by omega : r = 0 ∨ r = 1) with e | e <;> subst e
  · rw [if_pos (by rfl), show 4 + (83 * i + (20 * s + k)) = 4 + 40 * 0 + 83 * i + (20 * s + k) by omega]
  · rw [if_neg (by decide), if_pos (by rfl), show 44 + (83 * i + (20 * s + k)) = 4 + 40 * 1 + 83 * i + (20 * s + k) by omega]
theorem a_cell {c n l i s k r : Nat} {Q : Int32 → St → Prop} {σ : St} (ok : okP c n l (pgW σ 7)) (hi : i < n) (hs : s < 2) (hk : k < cellsN (pgW σ 7) i) (hr : r < 2) (h : Q (pgW σ 7 (4 + 40 * r + 83 * i + (20 * s + k))) σ) : m_9_cell 0 (nI i) (nI s) (nI k) (nI r) Q σ := by
  refine s_9_cell (r0 := 0) ok ?_
  rw [show (0 + 7 : Nat) = 7 from rfl, vCellK ok hi hs hk hr]
  exact h
theorem a_leg {c n l j r : Nat} {Q : Int32 → St → Prop} {σ : St} (ok : okP c n l (pgW σ 7)) (hj : j < l) (hr : r < 4) (h2 : 2 ≤ r → pgW σ 7 548 ≠ 0) (h : Q (pgW σ 7 (508 + 4 * j + r)) σ) : m_9_leg 0 (nI j) (nI r) Q σ := by
  have h10 := ok.1.2.2.2
  refine s_9_leg (r0 := 0) ok ?_
  unfold vLeg
  rw [show (0 + 7 : Nat) = 7 from rfl, cif_t ⟨j, l, ok.1.2.2.1, hj, h10, rfl⟩, tn j (by omega)]
  rcases (by omega : r = 0 ∨ r = 1 ∨ r = 2 ∨ r = 3) with e | e | e | e <;> subst e
  · rw [if_pos (by rfl)]
    exact h
  · rw [if_neg (by decide), if_pos (by rfl), show 509 + 4 * j = 508 + 4 * j + 1 by omega]
    exact h
  · rw [if_neg (by decide), if_neg (by decide), if_pos (by rfl), if_neg (h2 (by omega)), show 510 + 4 * j = 508 + 4 * j + 2 by omega]
    exact h
  · rw [if_neg (by decide), if_neg (by decide), if_neg (by decide), if_pos (by rfl), if_neg (h2 (by omega)), show 511 + 4 * j = 508 + 4 * j + 3 by omega]
    exact h
theorem a_leg_st {c n l j : Nat} {Q : Int32 → St → Prop} {σ : St} (ok : okP c n l (pgW σ 7)) (hj : j < l) (h2 : pgW σ 7 548 = 0) (h : Q (-2) σ) : m_9_leg 0 (nI j) 2 Q σ := by
  have h10 := ok.1.2.2.2
  refine s_9_leg (r0 := 0) ok ?_
  unfold vLeg
  rw [show (0 + 7 : Nat) = 7 from rfl, cif_t ⟨j, l, ok.1.2.2.1, hj, h10, rfl⟩, if_neg (by decide), if_neg (by decide), if_pos (by rfl), if_pos h2]
  exact h
theorem a_lat {k : Nat} {Q : Int32 → St → Prop} {σ : St} (hk : k < 6) (h2 : pgW σ 7 562 ≠ 0) (h : Q (pgW σ 7 (549 + k)) σ) : m_9_latest 0 (nI k) Q σ := by
  refine s_9_latest (r0 := 0) ?_
  unfold vLat
  rw [show (0 + 7 : Nat) = 7 from rfl, cif_t ⟨k, hk, rfl⟩, cif_f h2, tn k (by omega)]
  exact h
theorem a_lat_no {Q : Int32 → St → Prop} {σ : St} (h2 : pgW σ 7 562 = 0) (h : Q (-9) σ) : m_9_latest 0 0 Q σ := by
  refine s_9_latest (r0 := 0) ?_
  unfold vLat
  rw [show (0 + 7 : Nat) = 7 from rfl, cif_t ⟨0, by omega, rfl⟩, cif_t h2]
  exact h
/-- what lies and what the machine holds is what came and hasn't gone -/
def bal (n : Nat) (P : Nat → Int32) : Prop := oS P n + P 506 = P 556 + P 557 - P 558 - P 559 - P 560 - P 561
theorem a_bal {c n l : Nat} {Q : Int32 → St → Prop} {σ : St} (ok : okP c n l (pgW σ 7)) (hb : bal n (pgW σ 7)) (h : Q 1 σ) : m_L_balanced 0 Q σ := by
  unfold m_L_balanced
  refine a_acc6 ok ?_
  refine a_cnt (k := 4) (by omega) (by omega) ?_
  refine a_acc (k := 0) ok (by omega) ?_
  refine a_acc (k := 1) ok (by omega) ?_
  refine a_acc (k := 2) ok (by omega) ?_
  refine a_acc (k := 3) ok (by omega) ?_
  refine a_acc (k := 4) ok (by omega) ?_
  refine a_acc (k := 5) ok (by omega) ?_
  exact ⟨fun q => absurd hb q, fun _ => h⟩
-- the script and its cuts
theorem a_cellS {x1 : Int32} {L : Nat} {xs : Nat → Int32} {Q : Int32 → St → Prop} {σ : St} (hx : ¬ x1 < 0) (hL : L < 1000001) (h : ∀ v, Q v σ) : m_L_cell x1 L xs Q σ := by
  unfold m_L_cell
  refine ⟨fun _ => h _, fun q => ?_⟩
  obtain ⟨j, hj, rfl⟩ := nI_of hx
  have : j < L := by
    have := mt (leI (a := L) (b := j) (by omega) (by omega)).mpr q
    omega
  exact ⟨vp_in_nI this (by omega), h _⟩
theorem a_low {x : Int32} {m : Nat} {Q : Int32 → St → Prop} {σ : St} (h0 : 0 < m) (hm : m < 1000001) (h : ∀ j, j < m → Q (nI j) σ) : m_L_low x (nI m) Q σ := by
  unfold m_L_low
  refine ⟨fun q => absurd ((eqi (b := 0) (by omega) (by omega)).mp q) (by omega), ?_⟩
  rw [pk_and x (k := 31) (m := 2147483647) (by decide), pk_rem (Nat.mod_lt _ (by decide)) h0 (by omega)]
  exact h _ (Nat.mod_lt _ h0)
