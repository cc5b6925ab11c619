theorem bi {i j a b : Nat} (ha : a < 83) (hb : b < 83) (h : 83 * i + a = 83 * j + b) : i = j ∧ a = b := by
  have h1 : (83 * i + a) / 83 = i := by omega
  have h2 : (83 * j + b) / 83 = j := by omega
  rw [h] at h1
  omega
theorem dne {i s k m r : Nat} (hs : s < 2) (hk : k < 20) (hr : r < 3) : 4 + 83 * i + (20 * s + k) ≠ 1 + 83 * m + r := fun q => by
  have := (bi (i := i) (j := m) (a := 3 + (20 * s + k)) (b := r) (by omega) (by omega) (by omega)).2
  omega
theorem dpk {i s k m r : Nat} (hs : s < 2) (hk : k < 20) (hr : r < 40) : 44 + 83 * m + r ≠ 4 + 83 * i + (20 * s + k) := fun q => by
  have := (bi (i := i) (j := m) (a := 3 + (20 * s + k)) (b := 43 + r) (by omega) (by omega) (by omega)).2
  omega
theorem ddi {i s k a b d : Nat} (hs : s < 2) (hk : k < 20) (hb : b < 2) (hd : d < 20) (h : 4 + 83 * i + (20 * s + k) = 4 + 83 * a + (20 * b + d)) : i = a ∧ s = b ∧ k = d := by
  have := bi (i := i) (j := a) (a := 3 + (20 * s + k)) (b := 3 + (20 * b + d)) (by omega) (by omega) (by omega)
  omega
-- nights
theorem sD_upd {f : Nat → Int32} {o x : Nat} {v : Int32} : ∀ m, sD (upd f x v) o m = sD f o m + (if o ≤ x ∧ x < o + m then v - f x else 0) := by
  intro m
  induction m with
  | zero => rw [if_neg (by omega)]; show (0 : Int32) = 0 + 0; decide
  | succ m ih =>
    have e1 : sD (upd f x v) o (m + 1) = sD (upd f x v) o m + upd f x v (o + m) := rfl
    have e2 : sD f o (m + 1) = sD f o m + f (o + m) := rfl
    rw [e1, e2, ih, rd_upd]
    by_cases q : o + m = x
    · subst q
      rw [if_neg (by omega), if_pos rfl, if_pos (by omega)]
      grind
    · rw [if_neg q]
      by_cases q2 : o ≤ x ∧ x < o + m
      · rw [if_pos q2, if_pos (by omega)]
        grind
      · rw [if_neg q2, if_neg (by omega)]
        grind
theorem cellsN_upd {P : Nat → Int32} {x i : Nat} {v : Int32} (h : x ≠ 1 + 83 * i) : cellsN (upd P x v) i = cellsN P i := by
  unfold cellsN
  rw [upd_n (fun q => h q.symm)]
theorem oS_upd {P : Nat → Int32} {i s k : Nat} {v : Int32} (hs : s < 2) (hk : k < cellsN P i) (h20 : cellsN P i ≤ 20) : ∀ m, (∀ j, j < m → cellsN P j ≤ 20) → oS (upd P (4 + 83 * i + (20 * s + k)) v) m = oS P m + (if i < m then v - P (4 + 83 * i + (20 * s + k)) else 0) := by
  intro m
  induction m with
  | zero => intro _; rw [if_neg (by omega)]; show (0 : Int32) = 0 + 0; decide
  | succ m ih =>
    intro hc
    have ih := ih (fun j hj => hc j (by omega))
    have hm := hc m (by omega)
    have e1 : oS (upd P (4 + 83 * i + (20 * s + k)) v) (m + 1) = oS (upd P (4 + 83 * i + (20 * s + k)) v) m + (sD (upd P (4 + 83 * i + (20 * s + k)) v) (4 + 83 * m) (cellsN (upd P (4 + 83 * i + (20 * s + k)) v) m) + sD (upd P (4 + 83 * i + (20 * s + k)) v) (24 + 83 * m) (cellsN (upd P (4 + 83 * i + (20 * s + k)) v) m)) := rfl
    have e2 : oS P (m + 1) = oS P m + (sD P (4 + 83 * m) (cellsN P m) + sD P (24 + 83 * m) (cellsN P m)) := rfl
    rw [e1, e2, ih, cellsN_upd (dne (r := 0) hs (by omega) (by omega)), sD_upd, sD_upd]
    by_cases q : m = i
    · subst q
      rw [if_neg (by omega), if_pos (show m < m + 1 by omega)]
      rcases (by omega : s = 0 ∨ s = 1) with rfl | rfl
      · rw [if_pos (by omega), if_neg (by omega)]
        grind
      · rw [if_neg (by omega), if_pos (by omega)]
        grind
    · rw [if_neg (show ¬ (4 + 83 * m ≤ 4 + 83 * i + (20 * s + k) ∧ 4 + 83 * i + (20 * s + k) < 4 + 83 * m + cellsN P m) by omega), if_neg (show ¬ (24 + 83 * m ≤ 4 + 83 * i + (20 * s + k) ∧ 4 + 83 * i + (20 * s + k) < 24 + 83 * m + cellsN P m) by omega)]
      by_cases q2 : i < m
      · rw [if_pos q2, if_pos (by omega)]
        grind
      · rw [if_neg q2, if_neg (by omega)]
        grind
theorem oS_cg {P P' : Nat → Int32} : ∀ m, (∀ i, i < m → cellsN P i = cellsN P' i ∧ cellsN P i ≤ 20 ∧ ∀ s k, s < 2 → k < cellsN P i → P (4 + 83 * i + (20 * s + k)) = P' (4 + 83 * i + (20 * s + k))) → oS P m = oS P' m := by
  intro m
  induction m with
  | zero => intro _; rfl
  | succ m ih =>
    intro h
    have ih := ih (fun i hi => h i (by omega))
    obtain ⟨c1, c2, c3⟩ := h m (by omega)
    have e1 : oS P (m + 1) = oS P m + (sD P (4 + 83 * m) (cellsN P m) + sD P (24 + 83 * m) (cellsN P m)) := rfl
    have e2 : oS P' (m + 1) = oS P' m + (sD P' (4 + 83 * m) (cellsN P' m) + sD P' (24 + 83 * m) (cellsN P' m)) := rfl
    rw [e1, e2, ih, ← c1]
    rw [sD_eq (f := P) (g := P') (o := 4 + 83 * m) (o' := 4 + 83 * m) (cellsN P m) (fun k hk => by have := c3 0 k (by omega) hk; rw [show 4 + 83 * m + (20 * 0 + k) = 4 + 83 * m + k by omega] at this; exact this)]
    rw [sD_eq (f := P) (g := P') (o := 24 + 83 * m) (o' := 24 + 83 * m) (cellsN P m) (fun k hk => by have := c3 1 k (by omega) hk; rw [show 4 + 83 * m + (20 * 1 + k) = 24 + 83 * m + k by omega] at this; exact this)]
/-- the number at a place -/
def nv (P : Nat → Int32) (x : Nat) : Nat := (P x).toNatClampNeg
def fal (P : Nat → Int32) (i : Nat) : Nat := (P (3 + 83 * i) * P 504 / 100).toNatClampNeg
theorem okP.dn {c n l i k : Nat} {P : Nat → Int32} (ok : okP c n l P) (hi : i < n) (hk : k < 40) : P (4 + 83 * i + k) = nI (nv P (4 + 83 * i + k)) ∧ nv P (4 + 83 * i + k) ≤ 99 := by
  obtain ⟨⟨v, hv, hv2⟩, -⟩ := ok.2.2.1 i k hi hk
  unfold nv
  rw [hv, tn v (by omega)]
  exact ⟨rfl, hv2⟩
theorem okP.fa {c n l i : Nat} {P : Nat → Int32} (ok : okP c n l P) (hi : i < n) : P (3 + 83 * i) * P 504 / 100 = nI (fal P i) ∧ fal P i ≤ 36 := by
  obtain ⟨f, hf, hf2⟩ := ok.fall hi
  unfold fal
  rw [hf, tn f (by omega)]
  exact ⟨rfl, hf2⟩
/-- is y a cell's dirt on one of the n streets? -/
def dcell (n : Nat) (P : Nat → Int32) (y : Nat) : Prop := ∃ i s k, i < n ∧ s < 2 ∧ k < cellsN P i ∧ y = 4 + 83 * i + (20 * s + k)
/-- cell (i, s, k) has seen cnt i s k nights; S has been laid in all -/
def nG (n : Nat) (P : Nat → Int32) (cnt : Nat → Nat → Nat → Nat) (S : Int32) (P' : Nat → Int32) : Prop :=
  (∀ i s k, i < n → s < 2 → k < cellsN P i → P' (4 + 83 * i + (20 * s + k)) = nI (min 99 (nv P (4 + 83 * i + (20 * s + k)) + fal P i * cnt i s k))) ∧
  P' 557 = P 557 + S ∧ oS P' n + P' 559 - P' 557 = oS P n + P 559 - P 557 ∧ (∀ y, ¬ dcell n P y → y ≠ 557 → y ≠ 559 → P' y = P y)
theorem nG.cells {c n l i : Nat} {P P' : Nat → Int32} {cnt : Nat → Nat → Nat → Nat} {S : Int32} (ok : okP c n l P) (h : nG n P cnt S P') (hi : i < 6) : cellsN P' i = cellsN P i := by
  have h6 := ok.1.2.1
  unfold cellsN
  rw [h.2.2.2 (1 + 83 * i) (by rintro ⟨a, s, k, h1, h2, h3, h4⟩; have := (ok.cells h1).2.2; exact dne (r := 0) h2 (by omega) (by omega) h4.symm) (by omega) (by omega)]
theorem nG.step {c n l i s k : Nat} {P P' P'' : Nat → Int32} {cnt cnt' : Nat → Nat → Nat → Nat} {S : Int32} {m : Nat} (ok : okP c n l P) (h : nG n P cnt S P') (hi : i < n) (hs : s < 2) (hk : k < cellsN P i)
    (e1 : P'' (4 + 83 * i + (20 * s + k)) = nI (min 99 (nv P (4 + 83 * i + (20 * s + k)) + fal P i * cnt' i s k)))
    (e2 : P'' 557 = P' 557 + nI (fal P i * m)) (e3 : P'' 559 = P' 559 + (P' (4 + 83 * i + (20 * s + k)) + nI (fal P i * m) - P'' (4 + 83 * i + (20 * s + k))))
    (e4 : ∀ y, y ≠ 4 + 83 * i + (20 * s + k) → y ≠ 557 → y ≠ 559 → P'' y = P' y) (e5 : ∀ a b d, b < 2 → ¬ (a = i ∧ b = s ∧ d = k) → cnt' a b d = cnt a b d) : nG n P cnt' (S + nI (fal P i * m)) P'' := by
  obtain ⟨h1, h2, h3, h4⟩ := id h
  have h6 := ok.1.2.1
  have ci := (ok.cells hi).2.2
  refine ⟨fun a b d ha hb hd => ?_, ?_, ?_, fun y y1 y2 y3 => ?_⟩
  · have ca := (ok.cells ha).2.2
    by_cases q : a = i ∧ b = s ∧ d = k
    · obtain ⟨rfl, rfl, rfl⟩ := q
      exact e1
    · rw [e4 _ (fun q2 => q (ddi hb (by omega) hs (by omega) q2)) (by omega) (by omega), e5 a b d hb q]
      exact h1 a b d ha hb hd
  · rw [e2, h2]
    grind
  · have eo : oS P'' n = oS (upd P' (4 + 83 * i + (20 * s + k)) (P'' (4 + 83 * i + (20 * s + k)))) n := by
      refine oS_cg n (fun a ha => ?_)
      have ca := (ok.cells ha).2.2
      have c1 : cellsN P'' a = cellsN P' a := by
        unfold cellsN
        rw [e4 (1 + 83 * a) (fun q => dne (r := 0) hs (by omega) (by omega) q.symm) (by omega) (by omega)]
      refine ⟨by rw [c1, cellsN_upd (dne (r := 0) hs (by omega) (by omega))], by rw [c1, h.cells ok (by omega)]; exact ca, fun b d hb hd => ?_⟩
      rw [c1, h.cells ok (by omega)] at hd
      rw [rd_upd]
      split
      · rename_i q; rw [q]
      · rename_i q; exact e4 _ q (by omega) (by omega)
    rw [eo, oS_upd hs (by rw [h.cells ok (by omega)]; exact hk) (by rw [h.cells ok (by omega)]; exact ci) n (fun j hj => by rw [h.cells ok (by omega)]; exact (ok.cells hj).2.2), if_pos hi, e3, e2, ← h3]
    grind
  · rw [e4 y (fun q => y1 ⟨i, s, k, hi, hs, hk, q⟩) y2 y3]
    exact h4 y y1 y2 y3
/-- all that falls in one night on the first i streets -/
def fS (P : Nat → Int32) : Nat → Int32
  | 0 => 0
  | i + 1 => fS P i + nI (2 * cellsN P i) * nI (fal P i)
theorem nG.cg {n : Nat} {P P' : Nat → Int32} {cnt cnt' : Nat → Nat → Nat → Nat} {S S' : Int32} (h : nG n P cnt S P') (hS : S = S') (hc : ∀ i s k, i < n → s < 2 → k < cellsN P i → cnt i s k = cnt' i s k) : nG n P cnt' S' P' := by
  subst hS
  exact ⟨fun i s k h1 h2 h3 => by rw [← hc i s k h1 h2 h3]; exact h.1 i s k h1 h2 h3, h.2⟩
theorem nG.rf {c n l : Nat} {P : Nat → Int32} (ok : okP c n l P) : nG n P (fun _ _ _ => 0) 0 P := by
  refine ⟨fun i s k h1 h2 h3 => ?_, ?_, rfl, fun _ _ _ _ => rfl⟩
  · have := (ok.cells h1).2.2
    obtain ⟨d1, d2⟩ := ok.dn h1 (k := 20 * s + k) (by omega)
    rw [Nat.mul_zero, Nat.add_zero, Nat.min_eq_right d2]
    exact d1
  · exact (i0 _).symm
theorem okP.night {c n l : Nat} {P P' : Nat → Int32} {cnt : Nat → Nat → Nat → Nat} {S : Int32} (ok : okP c n l P) (a : nG n P cnt S P') : okP c n l P' := by
  have h6 := ok.1.2.1
  have nd : ∀ y, (y < 4 ∨ 487 ≤ y) → ¬ dcell n P y := fun y hy ⟨i, s, k, h1, h2, h3, h4⟩ => by have := (ok.cells h1).2.2; omega
  refine ⟨⟨?_, h6, ?_, ok.1.2.2.2⟩, fun i hi => ?_, fun i k hi hk => ?_, fun j hj => ?_, ?_, ?_, ?_⟩
  · rw [a.2.2.2 0 (nd 0 (by omega)) (by omega) (by omega)]; exact ok.1.1
  · rw [a.2.2.2 507 (nd _ (by omega)) (by omega) (by omega)]; exact ok.1.2.2.1
  · have nst : ∀ r, r < 3 → ¬ dcell n P (1 + 83 * i + r) := fun r hr ⟨i', s, k, h1, h2, h3, h4⟩ => dne h2 (by have := (ok.cells h1).2.2; omega) hr h4.symm
    have n0 := a.2.2.2 _ (nst 0 (by omega)) (by omega) (by omega)
    have n1 := a.2.2.2 _ (nst 1 (by omega)) (by omega) (by omega)
    have n2 := a.2.2.2 _ (nst 2 (by omega)) (by omega) (by omega)
    rw [show 1 + 83 * i + 0 = 1 + 83 * i from rfl] at n0
    rw [show 1 + 83 * i + 1 = 2 + 83 * i by omega] at n1
    rw [show 1 + 83 * i + 2 = 3 + 83 * i by omega] at n2
    rw [n0, n1, n2]
    exact ok.2.1 i hi
  · have npk : ¬ dcell n P (44 + 83 * i + k) := fun ⟨i', s, k', h1, h2, h3, h4⟩ => dpk h2 (by have := (ok.cells h1).2.2; omega) hk h4
    refine ⟨?_, by rw [a.2.2.2 _ npk (by omega) (by omega)]; exact (ok.2.2.1 i k hi hk).2⟩
    by_cases q : dcell n P (4 + 83 * i + k)
    · obtain ⟨i', s, k', h1, h2, h3, h4⟩ := q
      rw [h4, a.1 i' s k' h1 h2 h3]
      exact ⟨_, rfl, Nat.min_le_left _ _⟩
    · rw [a.2.2.2 _ q (by omega) (by omega)]; exact (ok.2.2.1 i k hi hk).1
  · have := ok.1.2.2.2
    rw [a.2.2.2 _ (nd _ (by omega)) (by omega) (by omega), a.2.2.2 _ (nd _ (by omega)) (by omega) (by omega)]; exact ok.2.2.2.1 j hj
  · rw [a.2.2.2 499 (nd _ (by omega)) (by omega) (by omega), a.2.2.2 500 (nd _ (by omega)) (by omega) (by omega), a.2.2.2 501 (nd _ (by omega)) (by omega) (by omega), a.2.2.2 502 (nd _ (by omega)) (by omega) (by omega), a.2.2.2 503 (nd _ (by omega)) (by omega) (by omega), a.2.2.2 504 (nd _ (by omega)) (by omega) (by omega), a.2.2.2 505 (nd _ (by omega)) (by omega) (by omega), a.2.2.2 506 (nd _ (by omega)) (by omega) (by omega)]
    exact ok.2.2.2.2.1
  · rw [a.2.2.2 548 (nd _ (by omega)) (by omega) (by omega)]; exact ok.2.2.2.2.2.1
  · rw [a.2.2.2 562 (nd _ (by omega)) (by omega) (by omega)]; exact ok.2.2.2.2.2.2
theorem RN.night {c n l nn : Nat} {P p P' p' P1 p1 : Nat → Int32} (h : RN c n l P p) (a : nG n P (fun _ _ _ => nn) (nI nn * fS P n) P') (b : nG n p (fun _ _ _ => nn) (nI nn * fS p n) p') (a1 : P1 = upd P' 563 (P 563 + nI nn)) (b1 : p1 563 = p 563 + nI nn) (b2 : ∀ y, y < 564 → y ≠ 563 → p1 y = p' y) : RN c n l P1 p1 := by
  subst a1
  obtain ⟨ok, e, e5⟩ := h
  have h6 := ok.1.2.1
  have okp := ok.tr e
  have ce : ∀ i, i < n → cellsN P i = cellsN p i := fun i hi => cellsN_eq e hi h6
  have dc : ∀ y, dcell n P y ↔ dcell n p y := fun y => ⟨fun ⟨i, s, k, h1, h2, h3, h4⟩ => ⟨i, s, k, h1, h2, by rw [← ce i h1]; exact h3, h4⟩, fun ⟨i, s, k, h1, h2, h3, h4⟩ => ⟨i, s, k, h1, h2, by rw [ce i h1]; exact h3, h4⟩⟩
  have nd : ∀ y, (y < 4 ∨ 487 ≤ y) → ¬ dcell n P y := fun y hy ⟨i, s, k, h1, h2, h3, h4⟩ => by have := (ok.cells h1).2.2; omega
  have fe : ∀ i, i < n → fal P i = fal p i := fun i hi => by
    have e3 := e.st hi h6 (k := 2) (by omega)
    rw [show 1 + 83 * i + 2 = 3 + 83 * i by omega] at e3
    unfold fal
    rw [e3, e.set (x := 504) (by omega) (by omega)]
  have fse : ∀ m, m ≤ n → fS P m = fS p m := by
    intro m
    induction m with
    | zero => intro _; rfl
    | succ m ih => intro hm; unfold fS; rw [ih (by omega), ce m (by omega), fe m (by omega)]
  have de : ∀ i s k, i < n → s < 2 → k < cellsN P i → P' (4 + 83 * i + (20 * s + k)) = p' (4 + 83 * i + (20 * s + k)) := fun i s k h1 h2 h3 => by
    have := (ok.cells h1).2.2
    rw [a.1 i s k h1 h2 h3, b.1 i s k h1 h2 (by rw [← ce i h1]; exact h3), fe i h1]
    unfold nv
    rw [e.k h1 h6 (by omega)]
  have oe : oS P' n = oS p' n := oS_cg n (fun i hi => ⟨by rw [a.cells ok (by omega), b.cells okp (by omega), ce i hi], by rw [a.cells ok (by omega)]; exact (ok.cells hi).2.2, fun s k h1 h2 => de i s k hi h1 (by rw [a.cells ok (by omega)] at h2; exact h2)⟩)
  have e557 : P' 557 = p' 557 := by rw [a.2.1, b.2.1, e.hi (x := 557) (by omega) (by omega) (by omega), fse n (Nat.le_refl n)]
  have e559 : P' 559 = p' 559 := by
    have t1 := a.2.2.1
    have t2 := b.2.2.1
    rw [oS_eq ok e n (Nat.le_refl n), e.hi (x := 557) (by omega) (by omega) (by omega), e.hi (x := 559) (by omega) (by omega) (by omega), oe, e557] at t1
    grind
  have okn : okP c n l P' := ok.night a
  refine ⟨okn.inert (inert_hi (by omega) (by omega)), fun y hy hl => ?_, ?_⟩
  · rw [rd_upd]
    by_cases q1 : y = 563
    · rw [if_pos q1, q1, b1, e.hi (x := 563) (by omega) (by omega) (by omega)]
    · rw [if_neg q1, b2 y hy.1 q1]
      by_cases q2 : y = 557
      · subst q2; exact e557
      by_cases q3 : y = 559
      · subst q3; exact e559
      by_cases q4 : dcell n P y
      · obtain ⟨i, s, k, h1, h2, h3, h4⟩ := q4
        subst h4
        exact de i s k h1 h2 h3
      · rw [a.2.2.2 y q4 q2 q3, b.2.2.2 y (fun q => q4 ((dc y).mpr q)) q2 q3]
        refine e y hy (fun q => ?_)
        have := hl q
        rw [upd_n (by omega), a.2.2.2 548 (nd _ (by omega)) (by omega) (by omega)] at this
        exact this
  · rw [upd_n (by omega), b2 555 (by omega) (by omega), b.2.2.2 555 (fun q => nd _ (by omega) ((dc _).mpr q)) (by omega) (by omega), a.2.2.2 562 (nd _ (by omega)) (by omega) (by omega)]
    exact e5
