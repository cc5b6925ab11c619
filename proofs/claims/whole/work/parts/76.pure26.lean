-- a shift: the numbers
theorem okP.gr {c n l : Nat} {P : Nat → Int32} (ok : okP c n l P) : ∃ g, grV P = nI g ∧ g ≤ 100 := by
  obtain ⟨⟨v, v1, v2, v3⟩, -, -, -, -, -, ⟨b, b1, b2⟩⟩ := ok.2.2.2.2.1
  refine ⟨(115 - 15 * v) * b / 1000, ?_, ?_⟩
  · unfold grV
    rw [v1, b1, show (1 : Int32) = nI 1 from rfl, pk_sub v2, li 15, pk_mul, show (100 : Int32) = nI 100 from rfl, pk_sub (by omega), pk_mul, show (1000 : Int32) = nI 1000 from rfl, show 100 - 15 * (v - 1) = 115 - 15 * v by omega, pk_div (Nat.lt_of_le_of_lt (Nat.mul_le_mul (show 115 - 15 * v ≤ 100 by omega) b2) (by decide)) (by decide) (by decide)]
  · have : (115 - 15 * v) * b ≤ 100 * 1000 := Nat.mul_le_mul (by omega) b2
    omega
theorem okP.co {c n l i s k : Nat} {P : Nat → Int32} (ok : okP c n l P) (hi : i < n) (hs : s < 2) (hk : k < 20) : ∃ d cv, P (4 + 83 * i + (20 * s + k)) = nI d ∧ d ≤ 99 ∧ coV P (83 * i + (20 * s + k)) = nI cv ∧ cv ≤ d := by
  obtain ⟨d1, d2⟩ := ok.dn hi (k := 20 * s + k) (by omega)
  obtain ⟨g, g1, g2⟩ := ok.gr
  refine ⟨_, if P (44 + (83 * i + (20 * s + k))) = 0 then nv P (4 + 83 * i + (20 * s + k)) * g / 100 else 0, d1, d2, ?_, ?_⟩
  · unfold coV
    rw [g1, show 4 + (83 * i + (20 * s + k)) = 4 + 83 * i + (20 * s + k) by omega, d1, pk_mul]
    split
    · rw [show (100 : Int32) = nI 100 from rfl, pk_div (Nat.lt_of_le_of_lt (Nat.mul_le_mul d2 g2) (by decide)) (by decide) (by decide)]
    · rfl
  · split
    · have : nv P (4 + 83 * i + (20 * s + k)) * g ≤ nv P (4 + 83 * i + (20 * s + k)) * 100 := Nat.mul_le_mul_left _ g2
      omega
    · omega
theorem mnI_nat {a b : Nat} (ha : a < 1000001) (hb : b < 1000001) : mnI (nI a) (nI b) = nI (min a b) := by
  unfold mnI
  by_cases q : b < a
  · rw [if_pos ((lti hb ha).mpr q), Nat.min_eq_right (by omega)]
  · rw [if_neg (fun q2 => q ((lti hb ha).mp q2)), Nat.min_eq_left (by omega)]
theorem okP.cap {c n l : Nat} {P : Nat → Int32} (ok : okP c n l P) : ∃ cap g, P 500 = nI cap ∧ P 506 = nI g ∧ 20 ≤ cap ∧ cap ≤ 2000 ∧ g ≤ cap := ok.2.2.2.2.1.2.1
theorem okP.ds {c n l i : Nat} {P : Nat → Int32} (ok : okP c n l P) (hi : i < n) : ∃ d, P (2 + 83 * i) = nI d ∧ d ≤ 60 := (ok.2.1 i hi).2.1
theorem okP.spd {c n l : Nat} {P : Nat → Int32} (ok : okP c n l P) : ∃ v, P 499 = nI v ∧ 1 ≤ v ∧ v ≤ 4 := ok.2.2.2.2.1.1
theorem okP.len {c n l : Nat} {P : Nat → Int32} (ok : okP c n l P) : ∃ v, P 502 = nI v ∧ v ≤ 6000 := by
  obtain ⟨v, v1, v2, v3⟩ := ok.2.2.2.2.1.2.2.2.1
  exact ⟨v, v1, v3⟩
/-- a sweep, in numbers -/
theorem okP.sw {c n l i s k j : Nat} {P : Nat → Int32} (ok : okP c n l P) (hi : i < n) (hs : s < 2) (hk : k < 20) (hj : j < 10) : ∃ cap g cv, P 500 = nI cap ∧ P 506 = nI g ∧ g ≤ cap ∧ cap ≤ 2000 ∧ coV P (83 * i + (20 * s + k)) = nI cv ∧ cv ≤ 99 ∧ P 500 - P 506 = nI (cap - g) ∧ mnI (coV P (83 * i + (20 * s + k))) (P 500 - P 506) = nI (min cv (cap - g)) ∧ okP c n l (swp P j i s k) ∧ swp P j i s k 506 = nI (g + min cv (cap - g)) ∧ ∃ w b, w ≤ b ∧ b ≤ 1000 ∧ P 505 = nI b ∧ mnI (1 + mnI (coV P (83 * i + (20 * s + k))) (P 500 - P 506) * P 499 / 20) (P 505) = nI w ∧ 1 + mnI (coV P (83 * i + (20 * s + k))) (P 500 - P 506) * P 499 / 20 = nI (1 + min cv (cap - g) * (P 499).toNatClampNeg / 20) ∧ min cv (cap - g) * (P 499).toNatClampNeg ≤ 400 := by
  have h6 := ok.1.2.1
  obtain ⟨cap, g, c1, c2, c3, c4, c5⟩ := ok.cap
  obtain ⟨d, cv, d1, d2, d3, d4⟩ := ok.co hi hs hk
  obtain ⟨v, v1, v2, v3⟩ := ok.spd
  obtain ⟨b, b1, b2⟩ := ok.2.2.2.2.1.2.2.2.2.2.2
  have e1 : P 500 - P 506 = nI (cap - g) := by rw [c1, c2, pk_sub c5]
  have e2 : mnI (coV P (83 * i + (20 * s + k))) (P 500 - P 506) = nI (min cv (cap - g)) := by rw [e1, d3, mnI_nat (by omega) (by omega)]
  have hm : min cv (cap - g) * v ≤ 99 * 4 := Nat.mul_le_mul (by omega) v3
  have e3 : 1 + mnI (coV P (83 * i + (20 * s + k))) (P 500 - P 506) * P 499 / 20 = nI (1 + min cv (cap - g) * v / 20) := by
    rw [e2, v1, pk_mul, show (20 : Int32) = nI 20 from rfl, pk_div (by omega) (by decide) (by decide), li 1, nI_add]
  have e4 : mnI (1 + mnI (coV P (83 * i + (20 * s + k))) (P 500 - P 506) * P 499 / 20) (P 505) = nI (min (1 + min cv (cap - g) * v / 20) b) := by rw [e3, b1, mnI_nat (by omega) (by omega)]
  refine ⟨cap, g, cv, c1, c2, c5, c4, d3, by omega, e1, e2, ?_, ?_, min (1 + min cv (cap - g) * v / 20) b, b, Nat.min_le_right _ _, b2, b1, e4, by rw [show (P 499).toNatClampNeg = v by rw [v1, tn v (by omega)]]; exact e3, by rw [show (P 499).toNatClampNeg = v by rw [v1, tn v (by omega)]]; omega⟩
  · unfold swp
    rw [e4, e2, d1, c2, b1, pk_sub (by omega), nI_add, pk_sub (Nat.min_le_right _ _)]
    refine okP.inert ?_ (inert_hi (by omega) (by omega))
    refine okP.brush ?_ (by omega)
    refine okP.inert ?_ (inert_hi (by omega) (by omega))
    refine okP.inert ?_ (inert_leg hj (by omega) (by omega))
    refine okP.load (cap := cap) ?_ (by rw [upd_n (by omega)]; exact c1) c4 (by omega)
    exact ok.dirt hi (by omega) (by omega)
  · unfold swp
    rw [upd_n (by omega), upd_n (by omega), upd_n (by omega), upd_n (by omega), upd_s, e2, c2, nI_add]
theorem okP.dm {c n l : Nat} {P : Nat → Int32} (ok : okP c n l P) : okP c n l (dmp P) := by
  obtain ⟨cap, g, c1, c2, c3, c4, c5⟩ := ok.cap
  unfold dmp
  refine okP.load (cap := cap) (w := 0) ?_ (by rw [upd_n (by omega)]; exact c1) c4 (by omega)
  exact ok.inert (inert_hi (by omega) (by omega))
/-- a page in a shift: so many units have gone -/
def okU (c n l u : Nat) (P : Nat → Int32) : Prop := okP c n l P ∧ P 550 = nI u ∧ u ≤ 6000
/-- one turn of a cell, in numbers -/
theorem okU.cell {c n l i s k j u : Nat} {P : Nat → Int32} (h : okU c n l u P) (hi : i < n) (hs : s < 2) (hk : k < 20) (hj : j < 10) (hfit : ¬ P 502 < P 550 + 12 / P 499 + 10 * P (2 + 83 * i)) : ∃ u1 cap g cv, u + 3 ≤ u1 ∧ u1 ≤ 6000 ∧ P 550 + 12 / P 499 = nI u1 ∧ P 500 = nI cap ∧ P 506 = nI g ∧ g ≤ cap ∧ cap ≤ 2000 ∧ cv ≤ 99 ∧ coV (cB P) (83 * i + (20 * s + k)) = nI cv ∧ P 500 - P 506 = nI (cap - g) ∧ okU c n l u1 (cB P) ∧ okU c n l u1 (cC j i s k P) ∧ cC j i s k P 506 = nI (g + min cv (cap - g)) ∧ cC j i s k P 500 = nI cap ∧ (∀ y, 499 ≤ y → y < 505 → cC j i s k P y = P y) ∧ (∀ r, r < 3 → cC j i s k P (1 + 83 * i + r) = P (1 + 83 * i + r)) := by
  obtain ⟨ok, e1, e2⟩ := h
  have h6 := ok.1.2.1
  obtain ⟨v, v1, v2, v3⟩ := ok.spd
  obtain ⟨d, d1, d2⟩ := ok.ds hi
  obtain ⟨len, l1, l2⟩ := ok.len
  have dv : 12 / P 499 = nI (12 / v) := by rw [v1, show (12 : Int32) = nI 12 from rfl, pk_div (by decide) (by omega) (by omega)]
  have d3 : 3 ≤ 12 / v := by
    rcases (by omega : v = 1 ∨ v = 2 ∨ v = 3 ∨ v = 4) with rfl | rfl | rfl | rfl <;> decide
  have d12 : 12 / v ≤ 12 := Nat.div_le_self _ _
  have eu : P 550 + 12 / P 499 = nI (u + 12 / v) := by rw [dv, e1, nI_add]
  rw [eu, d1, l1, li 10, pk_mul, nI_add, lti (by omega) (by omega)] at hfit
  have okb : okP c n l (cB P) := by
    unfold cB
    exact ok.inert (inert_hi (by omega) (by omega))
  obtain ⟨cap, g, cv, c1, c2, c3, c4, c5, c6, c7, c8, c9, c10, -⟩ := okb.sw hi hs hk hj
  have b5 : cB P 500 = P 500 := by unfold cB; rw [upd_n (by omega)]
  have b6 : cB P 506 = P 506 := by unfold cB; rw [upd_n (by omega)]
  have bu : cB P 550 = nI (u + 12 / v) := by unfold cB; rw [upd_s, eu]
  rw [b5] at c1 c7
  rw [b6] at c2 c7
  have okc : okP c n l (cC j i s k P) := by
    unfold cC cnt2
    split
    · exact c9.inert (inert_leg hj (by omega) (by omega))
    · exact c9
  refine ⟨u + 12 / v, cap, g, cv, by omega, by omega, eu, c1, c2, c3, c4, c6, c5, c7, ⟨okb, bu, by omega⟩, ⟨okc, ?_, by omega⟩, ?_, ?_, fun y y1 y2 => ?_, fun r hr => ?_⟩
  · unfold cC
    rw [cnt2_ne (by omega), swp_ne (by omega) (by omega) (by omega) (by omega) (by omega) (by omega)]
    exact bu
  · unfold cC
    rw [cnt2_ne (by omega)]
    exact c10
  · unfold cC
    rw [cnt2_ne (by omega), swp_ne (by omega) (by omega) (by omega) (by omega) (by omega) (by omega), b5]
    exact c1
  · unfold cC
    rw [cnt2_ne (by omega), swp_ne (by omega) (by omega) (by omega) (by omega) (by omega) (by omega)]
    unfold cB
    rw [upd_n (by omega)]
  · unfold cC
    rw [cnt2_ne (by omega), swp_ne (fun q => dne hs hk hr q.symm) (by omega) (by omega) (by omega) (by omega) (by omega)]
    unfold cB
    rw [upd_n (by omega)]
/-- the drive to the dump and back, in numbers -/
theorem okU.dump {c n l i u u1 : Nat} {P C : Nat → Int32} (h : okU c n l u P) (hC : okU c n l u1 C) (hi : i < n) (e1 : C 502 = P 502) (hfit : ¬ C 502 < C 550 + cT i P + 10 * P (2 + 83 * i)) : ∃ u2, u1 ≤ u2 ∧ okU c n l u2 (cD i P C) := by
  obtain ⟨ok, a1, a2⟩ := h
  obtain ⟨okc, b1, b2⟩ := hC
  obtain ⟨d, d1, d2⟩ := ok.ds hi
  obtain ⟨len, l1, l2⟩ := ok.len
  have eT : cT i P = nI (20 * d + 100) := by
    unfold cT
    rw [d1, li 10, pk_mul, li 2, pk_mul, show (100 : Int32) = nI 100 from rfl, nI_add]
    congr 1
    omega
  rw [e1, eT, b1, d1, l1, li 10, pk_mul, nI_add, nI_add, lti (by omega) (by omega)] at hfit
  refine ⟨u1 + (20 * d + 100), by omega, ?_, ?_, by omega⟩
  · unfold cD
    exact ((okc.inert (inert_hi (by omega) (by omega))).inert (inert_hi (by omega) (by omega))).dm
  · unfold cD dmp
    rw [upd_n (by omega), upd_n (by omega), upd_n (by omega), upd_s, eT, b1, nI_add]
