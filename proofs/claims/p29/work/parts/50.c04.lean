-- the history, on both sides
def clsRec (c : Nat) (σ τ : St) (P : Nat → Int32) : Prop := ∃ x k, x < 8 ∧ k ≤ 8 ∧ σ.1 42 1 = nI x ∧ σ.1 42 2 = nI k ∧ τ.1 42 1 = nI ((x + 1) % 8) ∧ τ.1 42 2 = nI (min (k + 1) 8) ∧ (∃ n l, okP c n l (pgW σ 7) ∧ ∀ y, vis n l y → pgW τ (44 + 34 * x) y = pgW σ 7 y) ∧ (∀ w, w < 8 → w ≠ x → pgW τ (44 + 34 * w) = pgW σ (44 + 34 * w)) ∧ pgW τ 7 = P ∧ (∀ a, a < 3 ∨ 354 ≤ a → τ.1 a = σ.1 a)
theorem pgW_cg {σ τ : St} {B : Nat} (h : ∀ a, B ≤ a → a < B + 34 → τ.1 a = σ.1 a) : pgW τ B = pgW σ B := by
  funext y
  unfold pgW
  by_cases hq : y < 564
  · rw [if_pos hq, if_pos hq, h _ (by omega) (by have := oa_lt y hq; omega)]
  · rw [if_neg hq, if_neg hq]
theorem mod8 {k : Nat} (h : k < 1000001) : nI k - nI k / 8 * 8 = nI (k % 8) := pk_rem (a := k) (d := 8) (by omega) (by decide) (by decide)
theorem s_0_remember {c n l x k : Nat} {Q : St → Prop} {σ : St} (ok : okP c n l (pgW σ 7)) (hx : σ.1 42 1 = nI x) (hx8 : x < 8) (hk : σ.1 42 2 = nI k) (hk8 : k ≤ 8) (h : ∀ τ, clsRec c σ τ (pgW σ 7) → (∀ a, a < 42 → τ.1 a = σ.1 a) → Q τ) : m_0_remember 42 7 Q σ := by
  unfold m_0_remember
  rw [hx]
  refine ⟨vin hx8, ?_⟩
  rw [tn x (by omega)]
  refine s_8_copyFrom ok (by omega) (fun τ P hτ hP σ4 e4 σ5 e5 => ?_)
  have t42 : τ.1 42 = σ.1 42 := hτ.2.1 42 (by omega)
  rw [t42, hx, li 1, nI_add, mod8 (by omega)] at e4
  have e42 : σ4.1 42 2 = nI k := by rw [e4, wr_else (by omega), t42]; exact hk
  rw [e42, li 1, nI_add] at e5
  have f5 : ∀ a, a ≠ 42 → σ5.1 a = τ.1 a := fun a ha => by rw [e5, wr_cell ha, e4, wr_cell ha]
  refine h σ5 ⟨x, k, hx8, hk8, hx, hk, ?_, ?_, ⟨n, l, ok, fun y hy => ?_⟩, fun w hw hwx => ?_, ?_, fun a ha => ?_⟩ (fun a ha => ?_)
  · rw [e5, wr_else (by omega), e4, wr_same]
  · rw [e5, wr_same]
    by_cases q : 8 < k + 1
    · rw [if_pos (show (8 : Int32) < nI (k + 1) from (lti (a := 8) (by omega) (by omega)).mpr q), Nat.min_eq_right (by omega)]
      rfl
    · rw [if_neg (show ¬ (8 : Int32) < nI (k + 1) from fun q2 => q ((lti (a := 8) (by omega) (by omega)).mp q2)), Nat.min_eq_left (by omega)]
  · have : pgW σ5 (44 + 34 * x) = P := by
      rw [show (44 + 34 * x : Nat) = 42 + 1 + 1 + 34 * x by omega, ← hτ.1]
      exact pgW_cg (fun a h1 h2 => f5 a (by omega))
    rw [this]
    exact hP y hy
  · refine pgW_cg (fun a h1 h2 => ?_)
    rw [f5 a (by omega)]
    exact hτ.2.1 a (by omega)
  · refine pgW_cg (fun a h1 h2 => ?_)
    rw [f5 a (by omega)]
    exact hτ.2.1 a (by omega)
  · rw [f5 a (by omega)]
    exact hτ.2.1 a (by omega)
  · rw [f5 a (by omega)]
    exact hτ.2.1 a (by omega)
theorem wrA_at {σ : St} {k : Nat} {f : Nat → Int32} : (wrA σ k f).1 k = f := by simp [wrA]
/-- class and model hold one page, bounds and all -/
def RN (c n l : Nat) (P p : Nat → Int32) : Prop := okP c n l P ∧ EQP n l P p ∧ p 555 = (if P 562 = 0 then 0 else 1)
/-- a place is written on both pages: it isn't the number of shifts nor whether legs are known -/
theorem RN.up {c n l x : Nat} {P p : Nat → Int32} {v : Int32} (h : RN c n l P p) (h1 : x ≠ 548) (h2 : x ≠ 562) (h3 : x ≠ 555) (ok : okP c n l (upd P x v)) : RN c n l (upd P x v) (upd p x v) :=
  ⟨ok, h.2.1.up h1 rfl, by rw [upd_n (by omega), upd_n (by omega)]; exact h.2.2⟩
theorem RN.un {c n l : Nat} {P p : Nat → Int32} (h : RN c n l P p) : RN c n l (upd P 548 0) (upd p 548 0) :=
  ⟨h.1.known isB0, eqp_un h.2.1, by rw [upd_n (by omega), upd_n (by omega)]; exact h.2.2⟩
theorem RN.hi {c n l x : Nat} {P p : Nat → Int32} {v : Int32} (h : RN c n l P p) (h1 : 549 ≤ x) (h2 : x ≠ 562) (h3 : x ≠ 555) : RN c n l (upd P x v) (upd p x v) :=
  h.up (by omega) h2 h3 (h.1.inert (inert_hi h1 h2))
theorem subpos {a b : Nat} (ha : a < 1000001) (hb : b < 1000001) : 0 < nI a - nI b ↔ b < a := by
  rw [Int32.lt_iff_toInt_lt, pk_sub_toInt (by omega) (by omega), show (0 : Int32).toInt = 0 from rfl]
  omega
theorem i0 (x : Int32) : x + 0 = x := Int32.add_zero x
theorem s_9_placeOf {s k : Nat} {Q : Int32 → St → Prop} {σ : St} (h : Q (nI (20 * s + k)) σ) : m_9_placeOf (nI s) (nI k) Q σ := by
  unfold m_9_placeOf
  rw [li 20, pk_mul, nI_add, show s * 20 + k = 20 * s + k by omega]
  exact h
/-- what the two sums get when a cell's dirt o becomes v -/
def layP (P : Nat → Int32) (x : Nat) (o v : Nat) : Nat → Int32 := if v ≤ o then upd (upd P x (nI v)) 558 (P 558 + (nI o - nI v)) else upd (upd P x (nI v)) 556 (P 556 + (nI v - nI o))
theorem narI {v : Int32} (h : isB v) : vp_nar .boolean v = v := nar_b h
-- settings
def loS (k : Nat) : Nat := if k = 0 then 1 else if k = 1 then 20 else if k = 3 then 100 else 0
def hiS (k : Nat) : Nat := if k = 0 then 4 else if k = 1 then 2000 else if k = 2 then 9 else if k = 3 then 6000 else if k = 4 then 1000 else 400
theorem stV_lo : ∀ k, k < 6 → stV 1 k = nI (loS k) ∧ stV 2 k = nI (hiS k) ∧ hiS k ≤ 6000 ∧ loS k ≤ 100 := by decide +kernel
def okS (P : Nat → Int32) (k : Nat) (x : Int32) : Prop := ∃ j, loS k ≤ j ∧ j ≤ hiS k ∧ x = nI j ∧ (k = 1 → ¬ x < P 506)
theorem okP.set1 {c n l k : Nat} {P : Nat → Int32} {x : Int32} (ok : okP c n l P) (hk : k < 6) (hs : okS P k x) : okP c n l (upd P (499 + k) x) := by
  obtain ⟨j, j1, j2, rfl, j4⟩ := hs
  obtain ⟨s1, s2, s3, s4, s5, s6, s7⟩ := ok.2.2.2.2.1
  refine ok.sets (by omega) (by omega) ?_
  rcases (by omega : k = 0 ∨ k = 1 ∨ k = 2 ∨ k = 3 ∨ k = 4 ∨ k = 5) with rfl | rfl | rfl | rfl | rfl | rfl
  · exact ⟨⟨j, upd_s, j1, j2⟩, s2, s3, s4, s5, s6, s7⟩
  · obtain ⟨cap, g, q1, q2, q3, q4, q5⟩ := s2
    refine ⟨s1, ⟨j, g, upd_s, q2, j1, j2, ?_⟩, s3, s4, s5, s6, s7⟩
    have := j4 rfl
    have j2' : j ≤ 2000 := j2
    rw [q2, lti (by omega) (by omega)] at this
    omega
  · exact ⟨s1, s2, ⟨j, upd_s, j2⟩, s4, s5, s6, s7⟩
  · exact ⟨s1, s2, s3, ⟨j, upd_s, j1, j2⟩, s5, s6, s7⟩
  · exact ⟨s1, s2, s3, s4, ⟨j, upd_s, j2⟩, s6, s7⟩
  · exact ⟨s1, s2, s3, s4, s5, ⟨j, upd_s, j2⟩, s7⟩
theorem legI0 (j : Nat) : (508 : Int32) + 4 * nI j = nI (508 + 4 * j) := by
  rw [li 508, li 4, pk_mul, nI_add]
/-- three numbers between their bounds, or not -/
def okA (x1 x2 x3 : Int32) : Prop := ∃ a b t, 1 ≤ a ∧ a ≤ 20 ∧ b ≤ 60 ∧ t ≤ 9 ∧ x1 = nI a ∧ x2 = nI b ∧ x3 = nI t
theorem s_8_appendStreet {B n : Nat} {a b t : Int32} {Q : Int32 → St → Prop} {σ : St} (hn : pgW σ B 0 = nI n) (h6 : n < 6) (h : ∀ τ P', toW σ τ B P' → P' (1 + 83 * n) = a → P' (2 + 83 * n) = b → P' (3 + 83 * n) = t → (∀ k, k < 80 → P' (4 + 83 * n + k) = 0) → P' 0 = nI (n + 1) → P' 548 = 0 → (∀ y, y ≠ 0 → y ≠ 548 → (y < 1 + 83 * n ∨ 84 + 83 * n ≤ y) → P' y = pgW σ B y) → Q (nI n) τ) : m_8_appendStreet B a b t Q σ := by
  unfold m_8_appendStreet
  rw [g0, hn, tn n (by omega)]
  refine ⟨vin (by omega), fun r4 er => ?_⟩
  subst er
  refine s_6_clear (fun σ5 e5 σ6 e6 σ7 e7 σ8 e8 σ9 e9 => ?_)
  obtain ⟨P1, t1, q1, q2, q3, q4⟩ := (toW.rf (σ := σ) (B := B)).wrS (i := n) (c := fun j => if j < 3 then 0 else σ.1 (B + 1 + 5 + 3 * n) j) (d := fun j => if j < 40 then 0 else σ.1 (B + 1 + 5 + 3 * n + 1) j) (k := fun j => if j < 40 then 0 else σ.1 (B + 1 + 5 + 3 * n + 2) j) h6
  have t5 := tw_st t1 (i := n) (k := 0) (v := a) h6 (by omega)
  rw [← e5] at t5
  have t6 := tw_st t5 (i := n) (k := 1) (v := b) h6 (by omega)
  rw [← e6] at t6
  have t7 := tw_st t6 (i := n) (k := 2) (v := t) h6 (by omega)
  rw [← e7] at t7
  have z7 : σ7.1 B 1 = nI n := by rw [g0, t7.g, upd_n (by omega), upd_n (by omega), upd_n (by omega), q1 0 (by omega)]; exact hn
  rw [z7, li 1, nI_add] at e8
  have t8 := tw_n0 t7 (v := nI (n + 1))
  rw [← e8] at t8
  have t9 := tw_n548 t8 (v := 0)
  rw [← e9] at t9
  have z9 : σ9.1 B 1 - 1 = nI n := by rw [g0, t9.g, upd_n (by omega), upd_s, show (1 : Int32) = nI 1 from rfl, pk_sub (by omega)]; rfl
  rw [z9]
  refine h σ9 _ t9 ?_ ?_ ?_ (fun k hk => ?_) ?_ upd_s (fun y g1 g2 g3 => ?_)
  · iterate 4 rw [upd_n (by omega)]
    exact upd_s
  · iterate 3 rw [upd_n (by omega)]
    rw [show 2 + 83 * n = 1 + 83 * n + 1 by omega]
    exact upd_s
  · iterate 2 rw [upd_n (by omega)]
    rw [show 3 + 83 * n = 1 + 83 * n + 2 by omega]
    exact upd_s
  · iterate 5 rw [upd_n (by omega)]
    by_cases q : k < 40
    · rw [q3 k q, if_pos q]
    · have := q4 (k - 40) (by omega)
      rw [show 44 + 83 * n + (k - 40) = 4 + 83 * n + k by omega] at this
      rw [this, if_pos (by omega)]
  · rw [upd_n (by omega)]; exact upd_s
  · iterate 5 rw [upd_n (by omega)]
    exact q1 y g3
theorem bi {i j a b : Nat} (ha : a < 83) (hb : b < 83) (h : 83 * i + a = 83 * j + b) : i = j ∧ a = b := by
  have h1 : (83 * i + a) / 83 = i := by omega
  have h2 : (83 * j + b) / 83 = j := by omega
  rw [h] at h1
  omega
theorem dne {i s k m r : Nat} (hs : s < 2) (hk : k < 20) (hr : r < 3) : 4 + 83 * i + (20 * s + k) ≠ 1 + 83 * m + r := fun q => by
  have := (bi (i := i) (j := m) (a := 3 + (20 * s + k)) (b := r) (by omega) (by omega) (by omega)).2
  omega
theorem dpk {i s k m r : Nat} (hs : s < 2) (hk : k < 20) (hr : r < 40) : 44 + 83 * m + r ≠ 4 + 83 * i + (20 * s + k) := fun q => by
  have := (bi (i := i) (j := m) (a := 3 + (20 * s + k)) (b := 43 + r) (by omega) (by omega) (by omega)).2
  omega
theorem ddi {i s k a b d : Nat} (hs : s < 2) (hk : k < 20) (hb : b < 2) (hd : d < 20) (h : 4 + 83 * i + (20 * s + k) = 4 + 83 * a + (20 * b + d)) : i = a ∧ s = b ∧ k = d := by
  have := bi (i := i) (j := a) (a := 3 + (20 * s + k)) (b := 3 + (20 * b + d)) (by omega) (by omega) (by omega)
  omega
-- nights
theorem sD_upd {f : Nat → Int32} {o x : Nat} {v : Int32} : ∀ m, sD (upd f x v) o m = sD f o m + (if o ≤ x ∧ x < o + m then v - f x else 0) := by
  intro m
  induction m with
  | zero => rw [if_neg (by omega)]; show (0 : Int32) = 0 + 0; decide
  | succ m ih =>
    have e1 : sD (upd f x v) o (m + 1) = sD (upd f x v) o m + upd f x v (o + m) := rfl
    have e2 : sD f o (m + 1) = sD f o m + f (o + m) := rfl
    rw [e1, e2, ih, rd_upd]
    by_cases q : o + m = x
    · subst q
      rw [if_neg (by omega), if_pos rfl, if_pos (by omega)]
      grind
    · rw [if_neg q]
      by_cases q2 : o ≤ x ∧ x < o + m
      · rw [if_pos q2, if_pos (by omega)]
        grind
      · rw [if_neg q2, if_neg (by omega)]
        grind
theorem cellsN_upd {P : Nat → Int32} {x i : Nat} {v : Int32} (h : x ≠ 1 + 83 * i) : cellsN (upd P x v) i = cellsN P i := by
  unfold cellsN
  rw [upd_n (fun q => h q.symm)]
theorem oS_upd {P : Nat → Int32} {i s k : Nat} {v : Int32} (hs : s < 2) (hk : k < cellsN P i) (h20 : cellsN P i ≤ 20) : ∀ m, (∀ j, j < m → cellsN P j ≤ 20) → oS (upd P (4 + 83 * i + (20 * s + k)) v) m = oS P m + (if i < m then v - P (4 + 83 * i + (20 * s + k)) else 0) := by
  intro m
  induction m with
  | zero => intro _; rw [if_neg (by omega)]; show (0 : Int32) = 0 + 0; decide
  | succ m ih =>
    intro hc
    have ih := ih (fun j hj => hc j (by omega))
    have hm := hc m (by omega)
    have e1 : oS (upd P (4 + 83 * i + (20 * s + k)) v) (m + 1) = oS (upd P (4 + 83 * i + (20 * s + k)) v) m + (sD (upd P (4 + 83 * i + (20 * s + k)) v) (4 + 83 * m) (cellsN (upd P (4 + 83 * i + (20 * s + k)) v) m) + sD (upd P (4 + 83 * i + (20 * s + k)) v) (24 + 83 * m) (cellsN (upd P (4 + 83 * i + (20 * s + k)) v) m)) := rfl
    have e2 : oS P (m + 1) = oS P m + (sD P (4 + 83 * m) (cellsN P m) + sD P (24 + 83 * m) (cellsN P m)) := rfl
    rw [e1, e2, ih, cellsN_upd (dne (r := 0) hs (by omega) (by omega)), sD_upd, sD_upd]
    by_cases q : m = i
    · subst q
      rw [if_neg (by omega), if_pos (show m < m + 1 by omega)]
      rcases (by omega : s = 0 ∨ s = 1) with rfl | rfl
      · rw [if_pos (by omega), if_neg (by omega)]
        grind
      · rw [if_neg (by omega), if_pos (by omega)]
        grind
    · rw [if_neg (show ¬ (4 + 83 * m ≤ 4 + 83 * i + (20 * s + k) ∧ 4 + 83 * i + (20 * s + k) < 4 + 83 * m + cellsN P m) by omega), if_neg (show ¬ (24 + 83 * m ≤ 4 + 83 * i + (20 * s + k) ∧ 4 + 83 * i + (20 * s + k) < 24 + 83 * m + cellsN P m) by omega)]
      by_cases q2 : i < m
      · rw [if_pos q2, if_pos (by omega)]
        grind
      · rw [if_neg q2, if_neg (by omega)]
        grind
theorem oS_cg {P P' : Nat → Int32} : ∀ m, (∀ i, i < m → cellsN P i = cellsN P' i ∧ cellsN P i ≤ 20 ∧ ∀ s k, s < 2 → k < cellsN P i → P (4 + 83 * i + (20 * s + k)) = P' (4 + 83 * i + (20 * s + k))) → oS P m = oS P' m := by
  intro m
  induction m with
  | zero => intro _; rfl
  | succ m ih =>
    intro h
    have ih := ih (fun i hi => h i (by omega))
    obtain ⟨c1, c2, c3⟩ := h m (by omega)
    have e1 : oS P (m + 1) = oS P m + (sD P (4 + 83 * m) (cellsN P m) + sD P (24 + 83 * m) (cellsN P m)) := rfl
    have e2 : oS P' (m + 1) = oS P' m + (sD P' (4 + 83 * m) (cellsN P' m) + sD P' (24 + 83 * m) (cellsN P' m)) := rfl
    rw [e1, e2, ih, ← c1]
    rw [sD_eq (f := P) (g := P') (o := 4 + 83 * m) (o' := 4 + 83 * m) (cellsN P m) (fun k hk => by have := c3 0 k (by omega) hk; rw [show 4 + 83 * m + (20 * 0 + k) = 4 + 83 * m + k by omega] at this; exact this)]
    rw [sD_eq (f := P) (g := P') (o := 24 + 83 * m) (o' := 24 + 83 * m) (cellsN P m) (fun k hk => by have := c3 1 k (by omega) hk; rw [show 4 + 83 * m + (20 * 1 + k) = 24 + 83 * m + k by omega] at this; exact this)]
/-- the number at a place -/
def nv (P : Nat → Int32) (x : Nat) : Nat := (P x).toNatClampNeg
def fal (P : Nat → Int32) (i : Nat) : Nat := (P (3 + 83 * i) * P 504 / 100).toNatClampNeg
theorem okP.dn {c n l i k : Nat} {P : Nat → Int32} (ok : okP c n l P) (hi : i < n) (hk : k < 40) : P (4 + 83 * i + k) = nI (nv P (4 + 83 * i + k)) ∧ nv P (4 + 83 * i + k) ≤ 99 := by
  obtain ⟨⟨v, hv, hv2⟩, -⟩ := ok.2.2.1 i k hi hk
  unfold nv
  rw [hv, tn v (by omega)]
  exact ⟨rfl, hv2⟩
theorem okP.fa {c n l i : Nat} {P : Nat → Int32} (ok : okP c n l P) (hi : i < n) : P (3 + 83 * i) * P 504 / 100 = nI (fal P i) ∧ fal P i ≤ 36 := by
  obtain ⟨f, hf, hf2⟩ := ok.fall hi
  unfold fal
  rw [hf, tn f (by omega)]
  exact ⟨rfl, hf2⟩
/-- is y a cell's dirt on one of the n streets? -/
def dcell (n : Nat) (P : Nat → Int32) (y : Nat) : Prop := ∃ i s k, i < n ∧ s < 2 ∧ k < cellsN P i ∧ y = 4 + 83 * i + (20 * s + k)
/-- cell (i, s, k) has seen cnt i s k nights; S has been laid in all -/
def nG (n : Nat) (P : Nat → Int32) (cnt : Nat → Nat → Nat → Nat) (S : Int32) (P' : Nat → Int32) : Prop :=
  (∀ i s k, i < n → s < 2 → k < cellsN P i → P' (4 + 83 * i + (20 * s + k)) = nI (min 99 (nv P (4 + 83 * i + (20 * s + k)) + fal P i * cnt i s k))) ∧
  P' 557 = P 557 + S ∧ oS P' n + P' 559 - P' 557 = oS P n + P 559 - P 557 ∧ (∀ y, ¬ dcell n P y → y ≠ 557 → y ≠ 559 → P' y = P y)
theorem nG.cells {c n l i : Nat} {P P' : Nat → Int32} {cnt : Nat → Nat → Nat → Nat} {S : Int32} (ok : okP c n l P) (h : nG n P cnt S P') (hi : i < 6) : cellsN P' i = cellsN P i := by
  have h6 := ok.1.2.1
  unfold cellsN
  rw [h.2.2.2 (1 + 83 * i) (by rintro ⟨a, s, k, h1, h2, h3, h4⟩; have := (ok.cells h1).2.2; exact dne (r := 0) h2 (by omega) (by omega) h4.symm) (by omega) (by omega)]
theorem nG.step {c n l i s k : Nat} {P P' P'' : Nat → Int32} {cnt cnt' : Nat → Nat → Nat → Nat} {S : Int32} {m : Nat} (ok : okP c n l P) (h : nG n P cnt S P') (hi : i < n) (hs : s < 2) (hk : k < cellsN P i)
    (e1 : P'' (4 + 83 * i + (20 * s + k)) = nI (min 99 (nv P (4 + 83 * i + (20 * s + k)) + fal P i * cnt' i s k)))
    (e2 : P'' 557 = P' 557 + nI (fal P i * m)) (e3 : P'' 559 = P' 559 + (P' (4 + 83 * i + (20 * s + k)) + nI (fal P i * m) - P'' (4 + 83 * i + (20 * s + k))))
    (e4 : ∀ y, y ≠ 4 + 83 * i + (20 * s + k) → y ≠ 557 → y ≠ 559 → P'' y = P' y) (e5 : ∀ a b d, b < 2 → ¬ (a = i ∧ b = s ∧ d = k) → cnt' a b d = cnt a b d) : nG n P cnt' (S + nI (fal P i * m)) P'' := by
  obtain ⟨h1, h2, h3, h4⟩ := id h
  have h6 := ok.1.2.1
  have ci := (ok.cells hi).2.2
  refine ⟨fun a b d ha hb hd => ?_, ?_, ?_, fun y y1 y2 y3 => ?_⟩
  · have ca := (ok.cells ha).2.2
    by_cases q : a = i ∧ b = s ∧ d = k
    · obtain ⟨rfl, rfl, rfl⟩ := q
      exact e1
    · rw [e4 _ (fun q2 => q (ddi hb (by omega) hs (by omega) q2)) (by omega) (by omega), e5 a b d hb q]
      exact h1 a b d ha hb hd
  · rw [e2, h2]
    grind
  · have eo : oS P'' n = oS (upd P' (4 + 83 * i + (20 * s + k)) (P'' (4 + 83 * i + (20 * s + k)))) n := by
      refine oS_cg n (fun a ha => ?_)
      have ca := (ok.cells ha).2.2
      have c1 : cellsN P'' a = cellsN P' a := by
        unfold cellsN
        rw [e4 (1 + 83 * a) (fun q => dne (r := 0) hs (by omega) (by omega) q.symm) (by omega) (by omega)]
      refine ⟨by rw [c1, cellsN_upd (dne (r := 0) hs (by omega) (by omega))], by rw [c1, h.cells ok (by omega)]; exact ca, fun b d hb hd => ?_⟩
      rw [c1, h.cells ok (by omega)] at hd
      rw [rd_upd]
      split
      · rename_i q; rw [q]
      · rename_i q; exact e4 _ q (by omega) (by omega)
    rw [eo, oS_upd hs (by rw [h.cells ok (by omega)]; exact hk) (by rw [h.cells ok (by omega)]; exact ci) n (fun j hj => by rw [h.cells ok (by omega)]; exact (ok.cells hj).2.2), if_pos hi, e3, e2, ← h3]
    grind
  · rw [e4 y (fun q => y1 ⟨i, s, k, hi, hs, hk, q⟩) y2 y3]
    exact h4 y y1 y2 y3
/-- all that falls in one night on the first i streets -/
def fS (P : Nat → Int32) : Nat → Int32
  | 0 => 0
  | i + 1 => fS P i + nI (2 * cellsN P i) * nI (fal P i)
theorem nG.cg {n : Nat} {P P' : Nat → Int32} {cnt cnt' : Nat → Nat → Nat → Nat} {S S' : Int32} (h : nG n P cnt S P') (hS : S = S') (hc : ∀ i s k, i < n → s < 2 → k < cellsN P i → cnt i s k = cnt' i s k) : nG n P cnt' S' P' := by
  subst hS
  exact ⟨fun i s k h1 h2 h3 => by rw [← hc i s k h1 h2 h3]; exact h.1 i s k h1 h2 h3, h.2⟩
theorem nG.rf {c n l : Nat} {P : Nat → Int32} (ok : okP c n l P) : nG n P (fun _ _ _ => 0) 0 P := by
  refine ⟨fun i s k h1 h2 h3 => ?_, ?_, rfl, fun _ _ _ _ => rfl⟩
  · have := (ok.cells h1).2.2
    obtain ⟨d1, d2⟩ := ok.dn h1 (k := 20 * s + k) (by omega)
    rw [Nat.mul_zero, Nat.add_zero, Nat.min_eq_right d2]
    exact d1
  · exact (i0 _).symm
theorem okP.night {c n l : Nat} {P P' : Nat → Int32} {cnt : Nat → Nat → Nat → Nat} {S : Int32} (ok : okP c n l P) (a : nG n P cnt S P') : okP c n l P' := by
  have h6 := ok.1.2.1
  have nd : ∀ y, (y < 4 ∨ 487 ≤ y) → ¬ dcell n P y := fun y hy ⟨i, s, k, h1, h2, h3, h4⟩ => by have := (ok.cells h1).2.2; omega
  refine ⟨⟨?_, h6, ?_, ok.1.2.2.2⟩, fun i hi => ?_, fun i k hi hk => ?_, fun j hj => ?_, ?_, ?_, ?_⟩
  · rw [a.2.2.2 0 (nd 0 (by omega)) (by omega) (by omega)]; exact ok.1.1
  · rw [a.2.2.2 507 (nd _ (by omega)) (by omega) (by omega)]; exact ok.1.2.2.1
  · have nst : ∀ r, r < 3 → ¬ dcell n P (1 + 83 * i + r) := fun r hr ⟨i', s, k, h1, h2, h3, h4⟩ => dne h2 (by have := (ok.cells h1).2.2; omega) hr h4.symm
    have n0 := a.2.2.2 _ (nst 0 (by omega)) (by omega) (by omega)
    have n1 := a.2.2.2 _ (nst 1 (by omega)) (by omega) (by omega)
    have n2 := a.2.2.2 _ (nst 2 (by omega)) (by omega) (by omega)
    rw [show 1 + 83 * i + 0 = 1 + 83 * i from rfl] at n0
    rw [show 1 + 83 * i + 1 = 2 + 83 * i by omega] at n1
    rw [show 1 + 83 * i + 2 = 3 + 83 * i by omega] at n2
    rw [n0, n1, n2]
    exact ok.2.1 i hi
  · have npk : ¬ dcell n P (44 + 83 * i + k) := fun ⟨i', s, k', h1, h2, h3, h4⟩ => dpk h2 (by have := (ok.cells h1).2.2; omega) hk h4
    refine ⟨?_, by rw [a.2.2.2 _ npk (by omega) (by omega)]; exact (ok.2.2.1 i k hi hk).2⟩
    by_cases q : dcell n P (4 + 83 * i + k)
    · obtain ⟨i', s, k', h1, h2, h3, h4⟩ := q
      rw [h4, a.1 i' s k' h1 h2 h3]
      exact ⟨_, rfl, Nat.min_le_left _ _⟩
    · rw [a.2.2.2 _ q (by omega) (by omega)]; exact (ok.2.2.1 i k hi hk).1
  · have := ok.1.2.2.2
    rw [a.2.2.2 _ (nd _ (by omega)) (by omega) (by omega), a.2.2.2 _ (nd _ (by omega)) (by omega) (by omega)]; exact ok.2.2.2.1 j hj
  · rw [a.2.2.2 499 (nd _ (by omega)) (by omega) (by omega), a.2.2.2 500 (nd _ (by omega)) (by omega) (by omega), a.2.2.2 501 (nd _ (by omega)) (by omega) (by omega), a.2.2.2 502 (nd _ (by omega)) (by omega) (by omega), a.2.2.2 503 (nd _ (by omega)) (by omega) (by omega), a.2.2.2 504 (nd _ (by omega)) (by omega) (by omega), a.2.2.2 505 (nd _ (by omega)) (by omega) (by omega), a.2.2.2 506 (nd _ (by omega)) (by omega) (by omega)]
    exact ok.2.2.2.2.1
  · rw [a.2.2.2 548 (nd _ (by omega)) (by omega) (by omega)]; exact ok.2.2.2.2.2.1
  · rw [a.2.2.2 562 (nd _ (by omega)) (by omega) (by omega)]; exact ok.2.2.2.2.2.2
theorem minI (d : Nat) (h : d < 1000001) : (if (99 : Int32) < nI d then 99 else nI d) = nI (min 99 d) := by
  by_cases q : 99 < d
  · rw [if_pos (show (99 : Int32) < nI d from (lti (a := 99) (by omega) (by omega)).mpr q), Nat.min_eq_left (by omega)]
    rfl
  · rw [if_neg (show ¬ (99 : Int32) < nI d from fun q2 => q ((lti (a := 99) (by omega) (by omega)).mp q2)), Nat.min_eq_right (by omega)]
