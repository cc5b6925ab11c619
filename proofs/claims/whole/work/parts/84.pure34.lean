-- what a shift brings is no negative number
def okT (c n l u : Nat) (P : Nat → Int32) : Prop := okU c n l u P ∧ ∃ t, P 552 = nI t ∧ t ≤ 33 * u
theorem okT.w {c n l u : Nat} {P : Nat → Int32} {v : Int32} (h : okT c n l u P) : okT c n l u (upd P 549 v) := by
  obtain ⟨⟨a1, a2, a3⟩, t, b1, b2⟩ := h
  exact ⟨⟨a1.inert (inert_hi (by omega) (by omega)), by rw [upd_n (by omega)]; exact a2, a3⟩, t, by rw [upd_n (by omega)]; exact b1, b2⟩
theorem okT.turn {c n l i s k j u u1 cap g cv : Nat} {P : Nat → Int32} (h : okT c n l u P) (hj : j < 10) (hs : s < 2) (hi : i < 6) (hk : k < 20) (hu : u + 3 ≤ u1) (h1 : cv ≤ 99) (h2 : cap ≤ 2000) (e1 : coV (cB P) (83 * i + (20 * s + k)) = nI cv) (e2 : P 500 - P 506 = nI (cap - g)) (ok : okU c n l u1 (cC j i s k P)) : okT c n l u1 (cC j i s k P) := by
  obtain ⟨-, t, b1, b2⟩ := h
  refine ⟨ok, t + min cv (cap - g), ?_, by omega⟩
  have hu6 := ok.2.2
  unfold cC
  rw [cnt2_ne (by omega)]
  unfold swp
  rw [upd_n (by omega), upd_n (by omega), upd_s]
  have b5 : cB P 500 = P 500 := by unfold cB; rw [upd_n (by omega)]
  have b6 : cB P 506 = P 506 := by unfold cB; rw [upd_n (by omega)]
  have b2' : cB P 552 = P 552 := by unfold cB; rw [upd_n (by omega)]
  rw [b5, b6, b2', e1, e2, mnI_nat (by omega) (by omega), b1, nI_add]
theorem okT.cell {c n l i s k j : Nat} (hi : i < n) (hs : s < 2) (hk : k < 20) (hj : j < 10) : ∀ (f u : Nat) (P : Nat → Int32), okT c n l u P → ∃ u', okT c n l u' (cellF j i s k f P) := by
  intro f
  induction f with
  | zero => intro u P h; exact ⟨u, h⟩
  | succ f ih =>
    intro u P h
    have h6 := h.1.1.1.2.1
    rw [cellF_s]
    split
    · exact ⟨u, h.w⟩
    · rename_i hfit
      obtain ⟨u1, cap, g, cv, q1, q2, q3, q4, q5, q6, q7, q8, q9, q10, q11, q12, q13, q14, q15, q16⟩ := h.1.cell hi hs hk hj hfit
      have hC : okT c n l u1 (cC j i s k P) := h.turn hj hs (by omega) hk q1 q8 q7 q9 q10 q12
      split
      · split
        · exact ⟨u1, hC.w⟩
        · rename_i hfit2
          obtain ⟨u2, le, okD⟩ := okU.dump h.1 hC.1 hi (q15 502 (by omega) (by omega)) hfit2
          obtain ⟨-, t, b1, b2⟩ := hC
          have hD : okT c n l u2 (cD i P (cC j i s k P)) := ⟨okD, t, by unfold cD dmp; rw [upd_n (by omega), upd_n (by omega), upd_n (by omega), upd_n (by omega)]; exact b1, by omega⟩
          split
          · exact ⟨u2, hD⟩
          · exact ih u2 _ hD
      · exact ⟨u1, hC⟩
theorem okT.cells {c n l i s j : Nat} {P : Nat → Int32} (hi : i < n) (hs : s < 2) (hj : j < 10) (h : ∃ u, okT c n l u P) : ∀ k, k ≤ 20 → ∃ u', okT c n l u' (cellsF j i s k P) := by
  intro k
  induction k with
  | zero => intro _; exact h
  | succ k ih =>
    intro hk
    obtain ⟨u, hu⟩ := ih (by omega)
    unfold cellsF
    split
    · exact okT.cell hi hs (by omega) hj 7000 u _ hu
    · exact ⟨u, hu⟩
theorem okT.drv {c n l i u : Nat} {P : Nat → Int32} {x : Int32} (h : okT c n l u P) (hi : i < n) (hx : posO n x) (hf : ¬ P 502 < P 550 + driV P x i + 10 * P (2 + 83 * i)) : ∃ u', okT c n l u' (upd P 550 (P 550 + driV P x i)) := by
  obtain ⟨h, t, b1, b2⟩ := h
  obtain ⟨v, v1, v2⟩ := h.1.dr hi hx
  obtain ⟨d, d1, d2⟩ := h.1.ds hi
  obtain ⟨len, l1, l2⟩ := h.1.len
  have hu := h.2.2
  rw [v1, d1, l1, h.2.1, li 10, pk_mul, nI_add, nI_add, lti (by omega) (by omega)] at hf
  exact ⟨u + v, ⟨h.1.inert (inert_hi (by omega) (by omega)), by rw [upd_s, v1, h.2.1, nI_add], by omega⟩, t, by rw [upd_n (by omega)]; exact b1, by omega⟩
theorem okT.legs {c n l : Nat} {o : Nat → Nat} {P : Nat → Int32} (h : ∃ u, okT c n l u P) (ok : okP c n l P) (ho : ordO l o) : ∀ k, k ≤ l → ∃ u', okT c n l u' (legsF o P k).1 := by
  have h6 := ok.1.2.1
  have h10 := ok.1.2.2.2
  intro k
  induction k with
  | zero => intro _; exact h
  | succ k ih =>
    intro hk
    obtain ⟨u, hu⟩ := ih (by omega)
    have hp := (legsF_k ok.lego h6 h10 ho k (by omega)).2
    obtain ⟨a1, a2, a3, a4⟩ := hu.1.1.lego.1 (o k) (ho.1 k (by omega))
    have hok := ho.1 k (by omega)
    have e : legsF o P (k + 1) = if (legsF o P k).1 549 = 0 then legF (o k) (legsF o P k).1 (legsF o P k).2 else legsF o P k := rfl
    rw [e]
    split
    · unfold legF
      split
      · exact ⟨u, hu.w⟩
      · rename_i hf
        exact okT.cells a1 a3 (by omega) (hu.drv a1 hp hf) _ (hu.1.1.lego.2 _ a1)
    · exact ⟨u, hu⟩
/-- what a shift brings is a number from 0 on -/
theorem outL_nn {c n l : Nat} {o : Nat → Nat} {P : Nat → Int32} (ok : okP c n l P) (ho : ordO l o) : ∃ t, outL o l P = nI t ∧ t ≤ 198000 := by
  have hc := clF_clr (P := P) ok.1.2.2.2
  have h0 : okT c n l 0 (clF l P) := ⟨hc.ok ok, 0, hc.1 552 (by omega) (by omega), by omega⟩
  obtain ⟨u, hu, t, b1, b2⟩ := okT.legs ⟨0, h0⟩ h0.1.1 ho l (Nat.le_refl l)
  exact ⟨t, b1, by have := hu.2.2; omega⟩
theorem m1_nI {t : Nat} (h : t < 1000001) : (-1 : Int32) < nI t := by
  rw [Int32.lt_iff_toInt_lt, nI_toInt (by omega), show (-1 : Int32).toInt = -1 from by decide]
  omega
