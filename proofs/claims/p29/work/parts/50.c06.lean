-- a shift, as pages
def swp (P : Nat → Int32) (j i s k : Nat) : Nat → Int32 :=
  upd (upd (upd (upd (upd (upd P (4 + 83 * i + (20 * s + k)) (P (4 + 83 * i + (20 * s + k)) - mnI (coV P (83 * i + (20 * s + k))) (P 500 - P 506)))
    506 (P 506 + mnI (coV P (83 * i + (20 * s + k))) (P 500 - P 506)))
    (508 + 4 * j + 3) (P (508 + 4 * j + 3) + mnI (coV P (83 * i + (20 * s + k))) (P 500 - P 506)))
    552 (P 552 + mnI (coV P (83 * i + (20 * s + k))) (P 500 - P 506)))
    505 (P 505 - mnI (1 + mnI (coV P (83 * i + (20 * s + k))) (P 500 - P 506) * P 499 / 20) (P 505)))
    553 (P 553 + mnI (1 + mnI (coV P (83 * i + (20 * s + k))) (P 500 - P 506) * P 499 / 20) (P 505))
def dmp (P : Nat → Int32) : Nat → Int32 := upd (upd P 561 (P 561 + P 506)) 506 0
/-- the cell is swept to its end: is it counted? -/
def cnt2 (P : Nat → Int32) (j i s k : Nat) : Nat → Int32 := if coV P (83 * i + (20 * s + k)) ≤ P 500 - P 506 then upd (swp P j i s k) (508 + 4 * j + 2) (swp P j i s k (508 + 4 * j + 2) + 1) else swp P j i s k
def cB (P : Nat → Int32) : Nat → Int32 := upd P 550 (P 550 + 12 / P 499)
def cC (j i s k : Nat) (P : Nat → Int32) : Nat → Int32 := cnt2 (cB P) j i s k
def cT (i : Nat) (P : Nat → Int32) : Int32 := 2 * (10 * P (2 + 83 * i)) + 100
def cD (i : Nat) (P C : Nat → Int32) : Nat → Int32 := dmp (upd (upd C 550 (C 550 + cT i P)) 551 (C 551 + 1))
def cellF (j i s k : Nat) : Nat → (Nat → Int32) → Nat → Int32
  | 0, P => P
  | f + 1, P =>
    if P 502 < P 550 + 12 / P 499 + 10 * P (2 + 83 * i) then upd P 549 2
    else if cC j i s k P 506 = cC j i s k P 500 then
      if cC j i s k P 502 < cC j i s k P 550 + cT i P + 10 * P (2 + 83 * i) then upd (cC j i s k P) 549 3
      else if coV (cB P) (83 * i + (20 * s + k)) ≤ P 500 - P 506 then cD i P (cC j i s k P)
      else cellF j i s k f (cD i P (cC j i s k P))
    else cC j i s k P
theorem cellF_s (j i s k f : Nat) (P : Nat → Int32) : cellF j i s k (f + 1) P = if P 502 < P 550 + 12 / P 499 + 10 * P (2 + 83 * i) then upd P 549 2
    else if cC j i s k P 506 = cC j i s k P 500 then
      if cC j i s k P 502 < cC j i s k P 550 + cT i P + 10 * P (2 + 83 * i) then upd (cC j i s k P) 549 3
      else if coV (cB P) (83 * i + (20 * s + k)) ≤ P 500 - P 506 then cD i P (cC j i s k P)
      else cellF j i s k f (cD i P (cC j i s k P))
    else cC j i s k P := rfl
def cellsF (j i s : Nat) : Nat → (Nat → Int32) → Nat → Int32
  | 0, P => P
  | k + 1, P => if cellsF j i s k P 549 = 0 then cellF j i s k 7000 (cellsF j i s k P) else cellsF j i s k P
def driV (P : Nat → Int32) (pos : Int32) (i : Nat) : Int32 :=
  if pos = nI i then 0 else if pos = -1 then 10 * P (2 + 83 * i) else 10 * (if 0 ≤ P (2 + 83 * pos.toNatClampNeg) - P (2 + 83 * i) then P (2 + 83 * pos.toNatClampNeg) - P (2 + 83 * i) else -(P (2 + 83 * pos.toNatClampNeg) - P (2 + 83 * i))) + 50
def lgI (P : Nat → Int32) (j : Nat) : Nat := (P (508 + 4 * j)).toNatClampNeg
def lgS (P : Nat → Int32) (j : Nat) : Nat := (P (508 + 4 * j + 1)).toNatClampNeg
def legF (j : Nat) (P : Nat → Int32) (pos : Int32) : (Nat → Int32) × Int32 :=
  if P 502 < P 550 + driV P pos (lgI P j) + 10 * P (2 + 83 * lgI P j) then (upd P 549 1, pos)
  else (cellsF j (lgI P j) (lgS P j) (cellsN P (lgI P j)) (upd P 550 (P 550 + driV P pos (lgI P j))), nI (lgI P j))
def legsF (o : Nat → Nat) (P : Nat → Int32) : Nat → (Nat → Int32) × Int32
  | 0 => (P, -1)
  | k + 1 => if (legsF o P k).1 549 = 0 then legF (o k) (legsF o P k).1 (legsF o P k).2 else legsF o P k
def doneF (o : Nat → Nat) (P : Nat → Int32) : Nat → Nat
  | 0 => 0
  | k + 1 => if (legsF o P k).1 549 = 0 ∧ (legsF o P (k + 1)).1 549 = 0 then k + 1 else doneF o P k
def hmV (P : Nat → Int32) (pos : Int32) : Int32 := if pos = -1 then 0 else 10 * P (2 + 83 * pos.toNatClampNeg)
def endA (P : Nat → Int32) (pos : Int32) : Nat → Int32 := upd P 550 (P 550 + hmV P pos)
def endB (P : Nat → Int32) : Nat → Int32 := if 2 * P 506 < P 500 then P else dmp P
def endC (P : Nat → Int32) : Nat → Int32 := if P 503 ≤ P 505 then P else if P 501 ≤ 0 then P else upd (upd P 505 1000) 501 (P 501 - 1)
def endD (P : Nat → Int32) : Nat → Int32 := upd (upd P 562 (P 562 + 1)) 548 1
def endF (P : Nat → Int32) (pos : Int32) : Nat → Int32 := endD (endC (endB (endA P pos)))
-- agreement, the legs in another order
def vs (n l x : Nat) : Prop := vis n l x ∧ x ≠ 554
def pm (o : Nat → Nat) (x : Nat) : Nat := if 508 ≤ x ∧ x < 548 then 508 + 4 * o ((x - 508) / 4) + (x - 508) % 4 else x
def AG (n l : Nat) (o : Nat → Nat) (P p : Nat → Int32) : Prop := ∀ x, vs n l x → P x = p (pm o x)
/-- an order of l legs -/
def ordO (l : Nat) (o : Nat → Nat) : Prop := (∀ j, j < l → o j < l) ∧ (∀ a b, a < l → b < l → o a = o b → a = b)
theorem pm_non {o : Nat → Nat} {x : Nat} (h : x < 508 ∨ 548 ≤ x) : pm o x = x := by
  unfold pm
  rw [if_neg (by omega)]
theorem pm_leg {o : Nat → Nat} {j f : Nat} (hj : j < 10) (hf : f < 4) : pm o (508 + 4 * j + f) = 508 + 4 * o j + f := by
  unfold pm
  rw [if_pos (by omega), show (508 + 4 * j + f - 508) / 4 = j by omega, show (508 + 4 * j + f - 508) % 4 = f by omega]
theorem AG.n {n l x : Nat} {o : Nat → Nat} {P p : Nat → Int32} (h : AG n l o P p) (hv : vis n l x) (h4 : x ≠ 554) (hx : x < 508 ∨ 548 ≤ x) : P x = p x := by
  rw [h x ⟨hv, h4⟩, pm_non hx]
theorem AG.hi {n l x : Nat} {o : Nat → Nat} {P p : Nat → Int32} (h : AG n l o P p) (h1 : 548 ≤ x) (h2 : x < 564) (h3 : x ≠ 555) (h4 : x ≠ 554) : P x = p x := h.n (vis_hi h1 h2 h3) h4 (Or.inr h1)
theorem AG.set {n l x : Nat} {o : Nat → Nat} {P p : Nat → Int32} (h : AG n l o P p) (h1 : 499 ≤ x) (h2 : x < 508) : P x = p x := h.n (vis_set h1 h2) (by omega) (Or.inl h2)
theorem AG.st {n l i k : Nat} {o : Nat → Nat} {P p : Nat → Int32} (h : AG n l o P p) (hi : i < n) (hn : n ≤ 6) (hk : k < 83) : P (1 + 83 * i + k) = p (1 + 83 * i + k) := h.n (vis_st hi hn hk) (by omega) (Or.inl (by omega))
theorem AG.leg {n l j f : Nat} {o : Nat → Nat} {P p : Nat → Int32} (h : AG n l o P p) (hj : j < l) (hl : l ≤ 10) (hf : f < 4) : P (508 + 4 * j + f) = p (508 + 4 * o j + f) := by
  rw [h _ ⟨vis_le hj hl hf, by omega⟩, pm_leg (by omega) hf]
theorem AG.up {n l x : Nat} {o : Nat → Nat} {P p : Nat → Int32} {v w : Int32} (ho : ordO l o) (hl : l ≤ 10) (h : AG n l o P p) (hx : x < 508 ∨ 548 ≤ x) (e : v = w) : AG n l o (upd P x v) (upd p x w) := by
  subst e
  intro y hy
  rw [rd_upd, rd_upd]
  by_cases q : 508 ≤ y ∧ y < 548
  · have hj : (y - 508) / 4 < l := by have := hy.1.2.2.2 q.1 q.2; omega
    have := ho.1 _ hj
    have e1 : pm o y = 508 + 4 * o ((y - 508) / 4) + (y - 508) % 4 := if_pos q
    rw [if_neg (by omega), if_neg (by omega)]
    exact h y hy
  · rw [pm_non (show y < 508 ∨ 548 ≤ y by omega)]
    split
    · rfl
    · rw [h y hy, pm_non (by omega)]
theorem AG.ul {n l j f : Nat} {o : Nat → Nat} {P p : Nat → Int32} {v w : Int32} (ho : ordO l o) (hl : l ≤ 10) (h : AG n l o P p) (hj : j < l) (hf : f < 4) (e : v = w) : AG n l o (upd P (508 + 4 * j + f) v) (upd p (508 + 4 * o j + f) w) := by
  subst e
  intro y hy
  rw [rd_upd, rd_upd]
  have := ho.1 j hj
  by_cases q : 508 ≤ y ∧ y < 548
  · have hj' : (y - 508) / 4 < l := by have := hy.1.2.2.2 q.1 q.2; omega
    have := ho.1 _ hj'
    have e1 : pm o y = 508 + 4 * o ((y - 508) / 4) + (y - 508) % 4 := if_pos q
    by_cases z : y = 508 + 4 * j + f
    · rw [if_pos z, z, pm_leg (by omega) hf, if_pos rfl]
    · rw [if_neg z, if_neg (fun z2 => ?_)]
      · exact h y hy
      · have z3 := ho.2 _ _ hj' hj (by omega)
        omega
  · rw [pm_non (show y < 508 ∨ 548 ≤ y by omega), if_neg (by omega), if_neg (by omega), h y hy, pm_non (by omega)]
theorem AG.gr {n l : Nat} {o : Nat → Nat} {P p : Nat → Int32} (h : AG n l o P p) : grV P = grV p := by
  unfold grV
  rw [h.set (x := 499) (by omega) (by omega), h.set (x := 505) (by omega) (by omega)]
theorem AG.di {n l i k : Nat} {o : Nat → Nat} {P p : Nat → Int32} (h : AG n l o P p) (hi : i < n) (hn : n ≤ 6) (hk : k < 80) : P (4 + 83 * i + k) = p (4 + 83 * i + k) := by
  have := h.st hi hn (k := 3 + k) (by omega)
  rw [show 1 + 83 * i + (3 + k) = 4 + 83 * i + k by omega] at this
  exact this
theorem AG.ds {n l i : Nat} {o : Nat → Nat} {P p : Nat → Int32} (h : AG n l o P p) (hi : i < n) (hn : n ≤ 6) : P (2 + 83 * i) = p (2 + 83 * i) := by
  have := h.st hi hn (k := 1) (by omega)
  rw [show 1 + 83 * i + 1 = 2 + 83 * i by omega] at this
  exact this
theorem AG.co {n l i s k : Nat} {o : Nat → Nat} {P p : Nat → Int32} (h : AG n l o P p) (hi : i < n) (hn : n ≤ 6) (hs : s < 2) (hk : k < 20) : coV P (83 * i + (20 * s + k)) = coV p (83 * i + (20 * s + k)) := by
  unfold coV
  rw [h.gr, show 4 + (83 * i + (20 * s + k)) = 4 + 83 * i + (20 * s + k) by omega, show 44 + (83 * i + (20 * s + k)) = 4 + 83 * i + (40 + (20 * s + k)) by omega, h.di hi hn (by omega), h.di hi hn (by omega)]
theorem AG.sw {n l j i s k : Nat} {o : Nat → Nat} {P p : Nat → Int32} (ho : ordO l o) (hl : l ≤ 10) (h : AG n l o P p) (hj : j < l) (hi : i < n) (hn : n ≤ 6) (hs : s < 2) (hk : k < 20) : AG n l o (swp P j i s k) (swp p (o j) i s k) := by
  unfold swp
  rw [h.co hi hn hs hk, h.set (x := 500) (by omega) (by omega), h.set (x := 506) (by omega) (by omega), h.set (x := 505) (by omega) (by omega), h.set (x := 499) (by omega) (by omega), h.hi (x := 552) (by omega) (by omega) (by omega) (by omega), h.hi (x := 553) (by omega) (by omega) (by omega) (by omega), h.di hi hn (by omega), h.leg hj hl (by omega)]
  refine AG.up ho hl (AG.up ho hl (AG.up ho hl (AG.ul ho hl (AG.up ho hl (AG.up ho hl h (by omega) rfl) (by omega) rfl) hj (by omega) rfl) (by omega) rfl) (by omega) rfl) (by omega) rfl
theorem swp_ne {P : Nat → Int32} {j i s k y : Nat} (h1 : y ≠ 4 + 83 * i + (20 * s + k)) (h2 : y ≠ 506) (h3 : y ≠ 508 + 4 * j + 3) (h4 : y ≠ 552) (h5 : y ≠ 505) (h6 : y ≠ 553) : swp P j i s k y = P y := by
  unfold swp
  rw [upd_n h6, upd_n h5, upd_n h4, upd_n h3, upd_n h2, upd_n h1]
theorem cnt2_ne {P : Nat → Int32} {j i s k y : Nat} (h0 : y ≠ 508 + 4 * j + 2) : cnt2 P j i s k y = swp P j i s k y := by
  unfold cnt2
  split
  · rw [upd_n h0]
  · rfl
theorem AG.c2 {n l j i s k : Nat} {o : Nat → Nat} {P p : Nat → Int32} (ho : ordO l o) (hl : l ≤ 10) (h : AG n l o P p) (hj : j < l) (hi : i < n) (hn : n ≤ 6) (hs : s < 2) (hk : k < 20) : AG n l o (cnt2 P j i s k) (cnt2 p (o j) i s k) := by
  have h1 := AG.sw ho hl h hj hi hn hs hk
  unfold cnt2
  rw [h.co hi hn hs hk, h.set (x := 500) (by omega) (by omega), h.set (x := 506) (by omega) (by omega), h1.leg hj hl (f := 2) (by omega)]
  split
  · exact AG.ul ho hl h1 hj (by omega) rfl
  · exact h1
theorem AG.dm {n l : Nat} {o : Nat → Nat} {P p : Nat → Int32} (ho : ordO l o) (hl : l ≤ 10) (h : AG n l o P p) : AG n l o (dmp P) (dmp p) := by
  unfold dmp
  rw [h.hi (x := 561) (by omega) (by omega) (by omega) (by omega), h.set (x := 506) (by omega) (by omega)]
  exact AG.up ho hl (AG.up ho hl h (by omega) rfl) (by omega) rfl
theorem AG.b {n l : Nat} {o : Nat → Nat} {P p : Nat → Int32} (ho : ordO l o) (hl : l ≤ 10) (h : AG n l o P p) : AG n l o (cB P) (cB p) := by
  unfold cB
  rw [h.hi (x := 550) (by omega) (by omega) (by omega) (by omega), h.set (x := 499) (by omega) (by omega)]
  exact AG.up ho hl h (by omega) rfl
theorem AG.cell {n l j i s k : Nat} {o : Nat → Nat} (ho : ordO l o) (hl : l ≤ 10) (hj : j < l) (hi : i < n) (hn : n ≤ 6) (hs : s < 2) (hk : k < 20) : ∀ (f : Nat) (P p : Nat → Int32), AG n l o P p → AG n l o (cellF j i s k f P) (cellF (o j) i s k f p) := by
  intro f
  induction f with
  | zero => intro P p h; exact h
  | succ f ih =>
    intro P p h
    have h1 : AG n l o (cC j i s k P) (cC (o j) i s k p) := AG.c2 ho hl (AG.b ho hl h) hj hi hn hs hk
    have eT : cT i P = cT i p := by unfold cT; rw [h.ds hi hn]
    have h2 : AG n l o (cD i P (cC j i s k P)) (cD i p (cC (o j) i s k p)) := by
      unfold cD
      rw [eT, h1.hi (x := 550) (by omega) (by omega) (by omega) (by omega), h1.hi (x := 551) (by omega) (by omega) (by omega) (by omega)]
      exact AG.dm ho hl (AG.up ho hl (AG.up ho hl h1 (by omega) rfl) (by omega) rfl)
    rw [cellF_s, cellF_s, eT, (AG.b ho hl h).co hi hn hs hk, h1.hi (x := 550) (by omega) (by omega) (by omega) (by omega), h1.set (x := 506) (by omega) (by omega), h1.set (x := 500) (by omega) (by omega), h1.set (x := 502) (by omega) (by omega), h.hi (x := 550) (by omega) (by omega) (by omega) (by omega), h.set (x := 499) (by omega) (by omega), h.set (x := 500) (by omega) (by omega), h.set (x := 506) (by omega) (by omega), h.set (x := 502) (by omega) (by omega), h.ds hi hn]
    split
    · exact AG.up ho hl h (by omega) rfl
    · split
      · split
        · exact AG.up ho hl h1 (by omega) rfl
        · split
          · exact h2
          · exact ih _ _ h2
      · exact h1
theorem AG.cells {n l j i s : Nat} {o : Nat → Nat} {P p : Nat → Int32} (ho : ordO l o) (hl : l ≤ 10) (hj : j < l) (hi : i < n) (hn : n ≤ 6) (hs : s < 2) (h : AG n l o P p) : ∀ k, k ≤ 20 → AG n l o (cellsF j i s k P) (cellsF (o j) i s k p) := by
  intro k
  induction k with
  | zero => intro _; exact h
  | succ k ih =>
    intro hk
    have hh := ih (by omega)
    unfold cellsF
    rw [hh.hi (x := 549) (by omega) (by omega) (by omega) (by omega)]
    split
    · exact AG.cell ho hl hj hi hn hs (by omega) _ _ _ hh
    · exact hh
/-- a place where the machine may stand -/
def posO (n : Nat) (x : Int32) : Prop := x = -1 ∨ ∃ i, i < n ∧ x = nI i
theorem AG.dr {n l i : Nat} {o : Nat → Nat} {P p : Nat → Int32} {x : Int32} (h : AG n l o P p) (hi : i < n) (hn : n ≤ 6) (hx : posO n x) : driV P x i = driV p x i := by
  unfold driV
  rw [h.ds hi hn]
  split
  · rfl
  · split
    · rfl
    · rename_i q1 q2
      rcases hx with q | ⟨a, ha, rfl⟩
      · exact absurd q q2
      · rw [tn a (by omega), h.ds ha hn]
theorem AG.hm {n l : Nat} {o : Nat → Nat} {P p : Nat → Int32} {x : Int32} (h : AG n l o P p) (hn : n ≤ 6) (hx : posO n x) : hmV P x = hmV p x := by
  unfold hmV
  split
  · rfl
  · rename_i q2
    rcases hx with q | ⟨a, ha, rfl⟩
    · exact absurd q q2
    · rw [tn a (by omega), h.ds ha hn]
/-- legs that lie in streets -/
def legO (n l : Nat) (P : Nat → Int32) : Prop := (∀ j, j < l → lgI P j < n ∧ P (508 + 4 * j) = nI (lgI P j) ∧ lgS P j < 2 ∧ P (508 + 4 * j + 1) = nI (lgS P j)) ∧ ∀ i, i < n → cellsN P i ≤ 20
theorem okP.lego {c n l : Nat} {P : Nat → Int32} (ok : okP c n l P) : legO n l P := by
  have h6 := ok.1.2.1
  refine ⟨fun j hj => ?_, fun i hi => (ok.cells hi).2.2⟩
  obtain ⟨⟨v, v1, v2⟩, w, w1, w2⟩ := ok.2.2.2.1 j hj
  unfold lgI lgS
  rw [show 508 + 4 * j + 1 = 509 + 4 * j by omega, v1, w1, tn v (by omega), tn w (by omega)]
  exact ⟨v2, rfl, w2, rfl⟩
theorem AG.leF {n l j : Nat} {o : Nat → Nat} {P p : Nat → Int32} {x : Int32} (ho : ordO l o) (hl : l ≤ 10) (hn : n ≤ 6) (h : AG n l o P p) (hj : j < l) (hL : legO n l P) (hx : posO n x) : AG n l o (legF j P x).1 (legF (o j) p x).1 ∧ (legF j P x).2 = (legF (o j) p x).2 := by
  obtain ⟨a1, a2, a3, a4⟩ := hL.1 j hj
  have ei : lgI p (o j) = lgI P j := congrArg Int32.toNatClampNeg (h.leg (f := 0) hj hl (by omega)).symm
  have es : lgS p (o j) = lgS P j := by unfold lgS; rw [← h.leg (f := 1) hj hl (by omega)]
  have ec : cellsN p (lgI P j) = cellsN P (lgI P j) := by
    unfold cellsN
    have := h.st a1 hn (k := 0) (by omega)
    rw [show 1 + 83 * lgI P j + 0 = 1 + 83 * lgI P j from rfl] at this
    rw [this]
  unfold legF
  rw [ei, es, ec, ← h.dr a1 hn hx, ← h.ds a1 hn, ← h.hi (x := 550) (by omega) (by omega) (by omega) (by omega), ← h.set (x := 502) (by omega) (by omega)]
  split
  · exact ⟨AG.up ho hl h (by omega) rfl, rfl⟩
  · exact ⟨AG.cells ho hl hj a1 hn a3 (AG.up ho hl h (by omega) rfl) _ (hL.2 _ a1), rfl⟩
-- a shift: the numbers
theorem okP.gr {c n l : Nat} {P : Nat → Int32} (ok : okP c n l P) : ∃ g, grV P = nI g ∧ g ≤ 100 := by
  obtain ⟨⟨v, v1, v2, v3⟩, -, -, -, -, -, ⟨b, b1, b2⟩⟩ := ok.2.2.2.2.1
  refine ⟨(115 - 15 * v) * b / 1000, ?_, ?_⟩
  · unfold grV
    rw [v1, b1, show (1 : Int32) = nI 1 from rfl, pk_sub v2, li 15, pk_mul, show (100 : Int32) = nI 100 from rfl, pk_sub (by omega), pk_mul, show (1000 : Int32) = nI 1000 from rfl, show 100 - 15 * (v - 1) = 115 - 15 * v by omega, pk_div (Nat.lt_of_le_of_lt (Nat.mul_le_mul (show 115 - 15 * v ≤ 100 by omega) b2) (by decide)) (by decide) (by decide)]
  · have : (115 - 15 * v) * b ≤ 100 * 1000 := Nat.mul_le_mul (by omega) b2
    omega
theorem okP.co {c n l i s k : Nat} {P : Nat → Int32} (ok : okP c n l P) (hi : i < n) (hs : s < 2) (hk : k < 20) : ∃ d cv, P (4 + 83 * i + (20 * s + k)) = nI d ∧ d ≤ 99 ∧ coV P (83 * i + (20 * s + k)) = nI cv ∧ cv ≤ d := by
  obtain ⟨d1, d2⟩ := ok.dn hi (k := 20 * s + k) (by omega)
  obtain ⟨g, g1, g2⟩ := ok.gr
  refine ⟨_, if P (44 + (83 * i + (20 * s + k))) = 0 then nv P (4 + 83 * i + (20 * s + k)) * g / 100 else 0, d1, d2, ?_, ?_⟩
  · unfold coV
    rw [g1, show 4 + (83 * i + (20 * s + k)) = 4 + 83 * i + (20 * s + k) by omega, d1, pk_mul]
    split
    · rw [show (100 : Int32) = nI 100 from rfl, pk_div (Nat.lt_of_le_of_lt (Nat.mul_le_mul d2 g2) (by decide)) (by decide) (by decide)]
    · rfl
  · split
    · have : nv P (4 + 83 * i + (20 * s + k)) * g ≤ nv P (4 + 83 * i + (20 * s + k)) * 100 := Nat.mul_le_mul_left _ g2
      omega
    · omega
theorem mnI_nat {a b : Nat} (ha : a < 1000001) (hb : b < 1000001) : mnI (nI a) (nI b) = nI (min a b) := by
  unfold mnI
  by_cases q : b < a
  · rw [if_pos ((lti hb ha).mpr q), Nat.min_eq_right (by omega)]
  · rw [if_neg (fun q2 => q ((lti hb ha).mp q2)), Nat.min_eq_left (by omega)]
theorem okP.cap {c n l : Nat} {P : Nat → Int32} (ok : okP c n l P) : ∃ cap g, P 500 = nI cap ∧ P 506 = nI g ∧ 20 ≤ cap ∧ cap ≤ 2000 ∧ g ≤ cap := ok.2.2.2.2.1.2.1
theorem okP.ds {c n l i : Nat} {P : Nat → Int32} (ok : okP c n l P) (hi : i < n) : ∃ d, P (2 + 83 * i) = nI d ∧ d ≤ 60 := (ok.2.1 i hi).2.1
theorem okP.spd {c n l : Nat} {P : Nat → Int32} (ok : okP c n l P) : ∃ v, P 499 = nI v ∧ 1 ≤ v ∧ v ≤ 4 := ok.2.2.2.2.1.1
theorem okP.len {c n l : Nat} {P : Nat → Int32} (ok : okP c n l P) : ∃ v, P 502 = nI v ∧ v ≤ 6000 := by
  obtain ⟨v, v1, v2, v3⟩ := ok.2.2.2.2.1.2.2.2.1
  exact ⟨v, v1, v3⟩
/-- a sweep, in numbers -/
theorem okP.sw {c n l i s k j : Nat} {P : Nat → Int32} (ok : okP c n l P) (hi : i < n) (hs : s < 2) (hk : k < 20) (hj : j < 10) : ∃ cap g cv, P 500 = nI cap ∧ P 506 = nI g ∧ g ≤ cap ∧ cap ≤ 2000 ∧ coV P (83 * i + (20 * s + k)) = nI cv ∧ cv ≤ 99 ∧ P 500 - P 506 = nI (cap - g) ∧ mnI (coV P (83 * i + (20 * s + k))) (P 500 - P 506) = nI (min cv (cap - g)) ∧ okP c n l (swp P j i s k) ∧ swp P j i s k 506 = nI (g + min cv (cap - g)) ∧ ∃ w b, w ≤ b ∧ b ≤ 1000 ∧ P 505 = nI b ∧ mnI (1 + mnI (coV P (83 * i + (20 * s + k))) (P 500 - P 506) * P 499 / 20) (P 505) = nI w ∧ 1 + mnI (coV P (83 * i + (20 * s + k))) (P 500 - P 506) * P 499 / 20 = nI (1 + min cv (cap - g) * (P 499).toNatClampNeg / 20) ∧ min cv (cap - g) * (P 499).toNatClampNeg ≤ 400 := by
  have h6 := ok.1.2.1
  obtain ⟨cap, g, c1, c2, c3, c4, c5⟩ := ok.cap
  obtain ⟨d, cv, d1, d2, d3, d4⟩ := ok.co hi hs hk
  obtain ⟨v, v1, v2, v3⟩ := ok.spd
  obtain ⟨b, b1, b2⟩ := ok.2.2.2.2.1.2.2.2.2.2.2
  have e1 : P 500 - P 506 = nI (cap - g) := by rw [c1, c2, pk_sub c5]
  have e2 : mnI (coV P (83 * i + (20 * s + k))) (P 500 - P 506) = nI (min cv (cap - g)) := by rw [e1, d3, mnI_nat (by omega) (by omega)]
  have hm : min cv (cap - g) * v ≤ 99 * 4 := Nat.mul_le_mul (by omega) v3
  have e3 : 1 + mnI (coV P (83 * i + (20 * s + k))) (P 500 - P 506) * P 499 / 20 = nI (1 + min cv (cap - g) * v / 20) := by
    rw [e2, v1, pk_mul, show (20 : Int32) = nI 20 from rfl, pk_div (by omega) (by decide) (by decide), li 1, nI_add]
  have e4 : mnI (1 + mnI (coV P (83 * i + (20 * s + k))) (P 500 - P 506) * P 499 / 20) (P 505) = nI (min (1 + min cv (cap - g) * v / 20) b) := by rw [e3, b1, mnI_nat (by omega) (by omega)]
  refine ⟨cap, g, cv, c1, c2, c5, c4, d3, by omega, e1, e2, ?_, ?_, min (1 + min cv (cap - g) * v / 20) b, b, Nat.min_le_right _ _, b2, b1, e4, by rw [show (P 499).toNatClampNeg = v by rw [v1, tn v (by omega)]]; exact e3, by rw [show (P 499).toNatClampNeg = v by rw [v1, tn v (by omega)]]; omega⟩
  · unfold swp
    rw [e4, e2, d1, c2, b1, pk_sub (by omega), nI_add, pk_sub (Nat.min_le_right _ _)]
    refine okP.inert ?_ (inert_hi (by omega) (by omega))
    refine okP.brush ?_ (by omega)
    refine okP.inert ?_ (inert_hi (by omega) (by omega))
    refine okP.inert ?_ (inert_leg hj (by omega) (by omega))
    refine okP.load (cap := cap) ?_ (by rw [upd_n (by omega)]; exact c1) c4 (by omega)
    exact ok.dirt hi (by omega) (by omega)
  · unfold swp
    rw [upd_n (by omega), upd_n (by omega), upd_n (by omega), upd_n (by omega), upd_s, e2, c2, nI_add]
theorem okP.dm {c n l : Nat} {P : Nat → Int32} (ok : okP c n l P) : okP c n l (dmp P) := by
  obtain ⟨cap, g, c1, c2, c3, c4, c5⟩ := ok.cap
  unfold dmp
  refine okP.load (cap := cap) (w := 0) ?_ (by rw [upd_n (by omega)]; exact c1) c4 (by omega)
  exact ok.inert (inert_hi (by omega) (by omega))
/-- a page in a shift: so many units have gone -/
def okU (c n l u : Nat) (P : Nat → Int32) : Prop := okP c n l P ∧ P 550 = nI u ∧ u ≤ 6000
/-- one turn of a cell, in numbers -/
theorem okU.cell {c n l i s k j u : Nat} {P : Nat → Int32} (h : okU c n l u P) (hi : i < n) (hs : s < 2) (hk : k < 20) (hj : j < 10) (hfit : ¬ P 502 < P 550 + 12 / P 499 + 10 * P (2 + 83 * i)) : ∃ u1 cap g cv, u + 3 ≤ u1 ∧ u1 ≤ 6000 ∧ P 550 + 12 / P 499 = nI u1 ∧ P 500 = nI cap ∧ P 506 = nI g ∧ g ≤ cap ∧ cap ≤ 2000 ∧ cv ≤ 99 ∧ coV (cB P) (83 * i + (20 * s + k)) = nI cv ∧ P 500 - P 506 = nI (cap - g) ∧ okU c n l u1 (cB P) ∧ okU c n l u1 (cC j i s k P) ∧ cC j i s k P 506 = nI (g + min cv (cap - g)) ∧ cC j i s k P 500 = nI cap ∧ (∀ y, 499 ≤ y → y < 505 → cC j i s k P y = P y) ∧ (∀ r, r < 3 → cC j i s k P (1 + 83 * i + r) = P (1 + 83 * i + r)) := by
  obtain ⟨ok, e1, e2⟩ := h
  have h6 := ok.1.2.1
  obtain ⟨v, v1, v2, v3⟩ := ok.spd
  obtain ⟨d, d1, d2⟩ := ok.ds hi
  obtain ⟨len, l1, l2⟩ := ok.len
  have dv : 12 / P 499 = nI (12 / v) := by rw [v1, show (12 : Int32) = nI 12 from rfl, pk_div (by decide) (by omega) (by omega)]
  have d3 : 3 ≤ 12 / v := by
    rcases (by omega : v = 1 ∨ v = 2 ∨ v = 3 ∨ v = 4) with rfl | rfl | rfl | rfl <;> decide
  have d12 : 12 / v ≤ 12 := Nat.div_le_self _ _
  have eu : P 550 + 12 / P 499 = nI (u + 12 / v) := by rw [dv, e1, nI_add]
  rw [eu, d1, l1, li 10, pk_mul, nI_add, lti (by omega) (by omega)] at hfit
  have okb : okP c n l (cB P) := by
    unfold cB
    exact ok.inert (inert_hi (by omega) (by omega))
  obtain ⟨cap, g, cv, c1, c2, c3, c4, c5, c6, c7, c8, c9, c10, -⟩ := okb.sw hi hs hk hj
  have b5 : cB P 500 = P 500 := by unfold cB; rw [upd_n (by omega)]
  have b6 : cB P 506 = P 506 := by unfold cB; rw [upd_n (by omega)]
  have bu : cB P 550 = nI (u + 12 / v) := by unfold cB; rw [upd_s, eu]
  rw [b5] at c1 c7
  rw [b6] at c2 c7
  have okc : okP c n l (cC j i s k P) := by
    unfold cC cnt2
    split
    · exact c9.inert (inert_leg hj (by omega) (by omega))
    · exact c9
  refine ⟨u + 12 / v, cap, g, cv, by omega, by omega, eu, c1, c2, c3, c4, c6, c5, c7, ⟨okb, bu, by omega⟩, ⟨okc, ?_, by omega⟩, ?_, ?_, fun y y1 y2 => ?_, fun r hr => ?_⟩
  · unfold cC
    rw [cnt2_ne (by omega), swp_ne (by omega) (by omega) (by omega) (by omega) (by omega) (by omega)]
    exact bu
  · unfold cC
    rw [cnt2_ne (by omega)]
    exact c10
  · unfold cC
    rw [cnt2_ne (by omega), swp_ne (by omega) (by omega) (by omega) (by omega) (by omega) (by omega), b5]
    exact c1
  · unfold cC
    rw [cnt2_ne (by omega), swp_ne (by omega) (by omega) (by omega) (by omega) (by omega) (by omega)]
    unfold cB
    rw [upd_n (by omega)]
  · unfold cC
    rw [cnt2_ne (by omega), swp_ne (fun q => dne hs hk hr q.symm) (by omega) (by omega) (by omega) (by omega) (by omega)]
    unfold cB
    rw [upd_n (by omega)]
