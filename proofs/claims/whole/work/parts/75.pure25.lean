-- a shift, as pages
def swp (P : Nat → Int32) (j i s k : Nat) : Nat → Int32 :=
  upd (upd (upd (upd (upd (upd P (4 + 83 * i + (20 * s + k)) (P (4 + 83 * i + (20 * s + k)) - mnI (coV P (83 * i + (20 * s + k))) (P 500 - P 506)))
    506 (P 506 + mnI (coV P (83 * i + (20 * s + k))) (P 500 - P 506)))
    (508 + 4 * j + 3) (P (508 + 4 * j + 3) + mnI (coV P (83 * i + (20 * s + k))) (P 500 - P 506)))
    552 (P 552 + mnI (coV P (83 * i + (20 * s + k))) (P 500 - P 506)))
    505 (P 505 - mnI (1 + mnI (coV P (83 * i + (20 * s + k))) (P 500 - P 506) * P 499 / 20) (P 505)))
    553 (P 553 + mnI (1 + mnI (coV P (83 * i + (20 * s + k))) (P 500 - P 506) * P 499 / 20) (P 505))
def dmp (P : Nat → Int32) : Nat → Int32 := upd (upd P 561 (P 561 + P 506)) 506 0
/-- the cell is swept to its end: is it counted? -/
def cnt2 (P : Nat → Int32) (j i s k : Nat) : Nat → Int32 := if coV P (83 * i + (20 * s + k)) ≤ P 500 - P 506 then upd (swp P j i s k) (508 + 4 * j + 2) (swp P j i s k (508 + 4 * j + 2) + 1) else swp P j i s k
def cB (P : Nat → Int32) : Nat → Int32 := upd P 550 (P 550 + 12 / P 499)
def cC (j i s k : Nat) (P : Nat → Int32) : Nat → Int32 := cnt2 (cB P) j i s k
def cT (i : Nat) (P : Nat → Int32) : Int32 := 2 * (10 * P (2 + 83 * i)) + 100
def cD (i : Nat) (P C : Nat → Int32) : Nat → Int32 := dmp (upd (upd C 550 (C 550 + cT i P)) 551 (C 551 + 1))
def cellF (j i s k : Nat) : Nat → (Nat → Int32) → Nat → Int32
  | 0, P => P
  | f + 1, P =>
    if P 502 < P 550 + 12 / P 499 + 10 * P (2 + 83 * i) then upd P 549 2
    else if cC j i s k P 506 = cC j i s k P 500 then
      if cC j i s k P 502 < cC j i s k P 550 + cT i P + 10 * P (2 + 83 * i) then upd (cC j i s k P) 549 3
      else if coV (cB P) (83 * i + (20 * s + k)) ≤ P 500 - P 506 then cD i P (cC j i s k P)
      else cellF j i s k f (cD i P (cC j i s k P))
    else cC j i s k P
theorem cellF_s (j i s k f : Nat) (P : Nat → Int32) : cellF j i s k (f + 1) P = if P 502 < P 550 + 12 / P 499 + 10 * P (2 + 83 * i) then upd P 549 2
    else if cC j i s k P 506 = cC j i s k P 500 then
      if cC j i s k P 502 < cC j i s k P 550 + cT i P + 10 * P (2 + 83 * i) then upd (cC j i s k P) 549 3
      else if coV (cB P) (83 * i + (20 * s + k)) ≤ P 500 - P 506 then cD i P (cC j i s k P)
      else cellF j i s k f (cD i P (cC j i s k P))
    else cC j i s k P := rfl
def cellsF (j i s : Nat) : Nat → (Nat → Int32) → Nat → Int32
  | 0, P => P
  | k + 1, P => if cellsF j i s k P 549 = 0 then cellF j i s k 7000 (cellsF j i s k P) else cellsF j i s k P
def driV (P : Nat → Int32) (pos : Int32) (i : Nat) : Int32 :=
  if pos = nI i then 0 else if pos = -1 then 10 * P (2 + 83 * i) else 10 * (if 0 ≤ P (2 + 83 * pos.toNatClampNeg) - P (2 + 83 * i) then P (2 + 83 * pos.toNatClampNeg) - P (2 + 83 * i) else -(P (2 + 83 * pos.toNatClampNeg) - P (2 + 83 * i))) + 50
def lgI (P : Nat → Int32) (j : Nat) : Nat := (P (508 + 4 * j)).toNatClampNeg
def lgS (P : Nat → Int32) (j : Nat) : Nat := (P (508 + 4 * j + 1)).toNatClampNeg
def legF (j : Nat) (P : Nat → Int32) (pos : Int32) : (Nat → Int32) × Int32 :=
  if P 502 < P 550 + driV P pos (lgI P j) + 10 * P (2 + 83 * lgI P j) then (upd P 549 1, pos)
  else (cellsF j (lgI P j) (lgS P j) (cellsN P (lgI P j)) (upd P 550 (P 550 + driV P pos (lgI P j))), nI (lgI P j))
def legsF (o : Nat → Nat) (P : Nat → Int32) : Nat → (Nat → Int32) × Int32
  | 0 => (P, -1)
  | k + 1 => if (legsF o P k).1 549 = 0 then legF (o k) (legsF o P k).1 (legsF o P k).2 else legsF o P k
def doneF (o : Nat → Nat) (P : Nat → Int32) : Nat → Nat
  | 0 => 0
  | k + 1 => if (legsF o P k).1 549 = 0 ∧ (legsF o P (k + 1)).1 549 = 0 then k + 1 else doneF o P k
def hmV (P : Nat → Int32) (pos : Int32) : Int32 := if pos = -1 then 0 else 10 * P (2 + 83 * pos.toNatClampNeg)
def endA (P : Nat → Int32) (pos : Int32) : Nat → Int32 := upd P 550 (P 550 + hmV P pos)
def endB (P : Nat → Int32) : Nat → Int32 := if 2 * P 506 < P 500 then P else dmp P
def endC (P : Nat → Int32) : Nat → Int32 := if P 503 ≤ P 505 then P else if P 501 ≤ 0 then P else upd (upd P 505 1000) 501 (P 501 - 1)
def endD (P : Nat → Int32) : Nat → Int32 := upd (upd P 562 (P 562 + 1)) 548 1
def endF (P : Nat → Int32) (pos : Int32) : Nat → Int32 := endD (endC (endB (endA P pos)))
-- agreement, the legs in another order
def vs (n l x : Nat) : Prop := vis n l x ∧ x ≠ 554
def pm (o : Nat → Nat) (x : Nat) : Nat := if 508 ≤ x ∧ x < 548 then 508 + 4 * o ((x - 508) / 4) + (x - 508) % 4 else x
def AG (n l : Nat) (o : Nat → Nat) (P p : Nat → Int32) : Prop := ∀ x, vs n l x → P x = p (pm o x)
/-- an order of l legs -/
def ordO (l : Nat) (o : Nat → Nat) : Prop := (∀ j, j < l → o j < l) ∧ (∀ a b, a < l → b < l → o a = o b → a = b)
theorem pm_non {o : Nat → Nat} {x : Nat} (h : x < 508 ∨ 548 ≤ x) : pm o x = x := by
  unfold pm
  rw [if_neg (by omega)]
theorem pm_leg {o : Nat → Nat} {j f : Nat} (hj : j < 10) (hf : f < 4) : pm o (508 + 4 * j + f) = 508 + 4 * o j + f := by
  unfold pm
  rw [if_pos (by omega), show (508 + 4 * j + f - 508) / 4 = j by omega, show (508 + 4 * j + f - 508) % 4 = f by omega]
theorem AG.n {n l x : Nat} {o : Nat → Nat} {P p : Nat → Int32} (h : AG n l o P p) (hv : vis n l x) (h4 : x ≠ 554) (hx : x < 508 ∨ 548 ≤ x) : P x = p x := by
  rw [h x ⟨hv, h4⟩, pm_non hx]
theorem AG.hi {n l x : Nat} {o : Nat → Nat} {P p : Nat → Int32} (h : AG n l o P p) (h1 : 548 ≤ x) (h2 : x < 564) (h3 : x ≠ 555) (h4 : x ≠ 554) : P x = p x := h.n (vis_hi h1 h2 h3) h4 (Or.inr h1)
theorem AG.set {n l x : Nat} {o : Nat → Nat} {P p : Nat → Int32} (h : AG n l o P p) (h1 : 499 ≤ x) (h2 : x < 508) : P x = p x := h.n (vis_set h1 h2) (by omega) (Or.inl h2)
theorem AG.st {n l i k : Nat} {o : Nat → Nat} {P p : Nat → Int32} (h : AG n l o P p) (hi : i < n) (hn : n ≤ 6) (hk : k < 83) : P (1 + 83 * i + k) = p (1 + 83 * i + k) := h.n (vis_st hi hn hk) (by omega) (Or.inl (by omega))
theorem AG.leg {n l j f : Nat} {o : Nat → Nat} {P p : Nat → Int32} (h : AG n l o P p) (hj : j < l) (hl : l ≤ 10) (hf : f < 4) : P (508 + 4 * j + f) = p (508 + 4 * o j + f) := by
  rw [h _ ⟨vis_le hj hl hf, by omega⟩, pm_leg (by omega) hf]
theorem AG.up {n l x : Nat} {o : Nat → Nat} {P p : Nat → Int32} {v w : Int32} (ho : ordO l o) (hl : l ≤ 10) (h : AG n l o P p) (hx : x < 508 ∨ 548 ≤ x) (e : v = w) : AG n l o (upd P x v) (upd p x w) := by
  subst e
  intro y hy
  rw [rd_upd, rd_upd]
  by_cases q : 508 ≤ y ∧ y < 548
  · have hj : (y - 508) / 4 < l := by have := hy.1.2.2.2 q.1 q.2; omega
    have := ho.1 _ hj
    have e1 : pm o y = 508 + 4 * o ((y - 508) / 4) + (y - 508) % 4 := if_pos q
    rw [if_neg (by omega), if_neg (by omega)]
    exact h y hy
  · rw [pm_non (show y < 508 ∨ 548 ≤ y by omega)]
    split
    · rfl
    · rw [h y hy, pm_non (by omega)]
theorem AG.ul {n l j f : Nat} {o : Nat → Nat} {P p : Nat → Int32} {v w : Int32} (ho : ordO l o) (hl : l ≤ 10) (h : AG n l o P p) (hj : j < l) (hf : f < 4) (e : v = w) : AG n l o (upd P (508 + 4 * j + f) v) (upd p (508 + 4 * o j + f) w) := by
  subst e
  intro y hy
  rw [rd_upd, rd_upd]
  have := ho.1 j hj
  by_cases q : 508 ≤ y ∧ y < 548
  · have hj' : (y - 508) / 4 < l := by have := hy.1.2.2.2 q.1 q.2; omega
    have := ho.1 _ hj'
    have e1 : pm o y = 508 + 4 * o ((y - 508) / 4) + (y - 508) % 4 := if_pos q
    by_cases z : y = 508 + 4 * j + f
    · rw [if_pos z, z, pm_leg (by omega) hf, if_pos rfl]
    · rw [if_neg z, if_neg (fun z2 => ?_)]
      · exact h y hy
      · have z3 := ho.2 _ _ hj' hj (by omega)
        omega
  · rw [pm_non (show y < 508 ∨ 548 ≤ y by omega), if_neg (by omega), if_neg (by omega), h y hy, pm_non (by omega)]
theorem AG.gr {n l : Nat} {o : Nat → Nat} {P p : Nat → Int32} (h : AG n l o P p) : grV P = grV p := by
  unfold grV
  rw [h.set (x := 499) (by omega) (by omega), h.set (x := 505) (by omega) (by omega)]
theorem AG.di {n l i k : Nat} {o : Nat → Nat} {P p : Nat → Int32} (h : AG n l o P p) (hi : i < n) (hn : n ≤ 6) (hk : k < 80) : P (4 + 83 * i + k) = p (4 + 83 * i + k) := by
  have := h.st hi hn (k := 3 + k) (by omega)
  rw [show 1 + 83 * i + (3 + k) = 4 + 83 * i + k by omega] at this
  exact this
theorem AG.ds {n l i : Nat} {o : Nat → Nat} {P p : Nat → Int32} (h : AG n l o P p) (hi : i < n) (hn : n ≤ 6) : P (2 + 83 * i) = p (2 + 83 * i) := by
  have := h.st hi hn (k := 1) (by omega)
  rw [show 1 + 83 * i + 1 = 2 + 83 * i by omega] at this
  exact this
theorem AG.co {n l i s k : Nat} {o : Nat → Nat} {P p : Nat → Int32} (h : AG n l o P p) (hi : i < n) (hn : n ≤ 6) (hs : s < 2) (hk : k < 20) : coV P (83 * i + (20 * s + k)) = coV p (83 * i + (20 * s + k)) := by
  unfold coV
  rw [h.gr, show 4 + (83 * i + (20 * s + k)) = 4 + 83 * i + (20 * s + k) by omega, show 44 + (83 * i + (20 * s + k)) = 4 + 83 * i + (40 + (20 * s + k)) by omega, h.di hi hn (by omega), h.di hi hn (by omega)]
theorem AG.sw {n l j i s k : Nat} {o : Nat → Nat} {P p : Nat → Int32} (ho : ordO l o) (hl : l ≤ 10) (h : AG n l o P p) (hj : j < l) (hi : i < n) (hn : n ≤ 6) (hs : s < 2) (hk : k < 20) : AG n l o (swp P j i s k) (swp p (o j) i s k) := by
  unfold swp
  rw [h.co hi hn hs hk, h.set (x := 500) (by omega) (by omega), h.set (x := 506) (by omega) (by omega), h.set (x := 505) (by omega) (by omega), h.set (x := 499) (by omega) (by omega), h.hi (x := 552) (by omega) (by omega) (by omega) (by omega), h.hi (x := 553) (by omega) (by omega) (by omega) (by omega), h.di hi hn (by omega), h.leg hj hl (by omega)]
  refine AG.up ho hl (AG.up ho hl (AG.up ho hl (AG.ul ho hl (AG.up ho hl (AG.up ho hl h (by omega) rfl) (by omega) rfl) hj (by omega) rfl) (by omega) rfl) (by omega) rfl) (by omega) rfl
theorem swp_ne {P : Nat → Int32} {j i s k y : Nat} (h1 : y ≠ 4 + 83 * i + (20 * s + k)) (h2 : y ≠ 506) (h3 : y ≠ 508 + 4 * j + 3) (h4 : y ≠ 552) (h5 : y ≠ 505) (h6 : y ≠ 553) : swp P j i s k y = P y := by
  unfold swp
  rw [upd_n h6, upd_n h5, upd_n h4, upd_n h3, upd_n h2, upd_n h1]
theorem cnt2_ne {P : Nat → Int32} {j i s k y : Nat} (h0 : y ≠ 508 + 4 * j + 2) : cnt2 P j i s k y = swp P j i s k y := by
  unfold cnt2
  split
  · rw [upd_n h0]
  · rfl
theorem AG.c2 {n l j i s k : Nat} {o : Nat → Nat} {P p : Nat → Int32} (ho : ordO l o) (hl : l ≤ 10) (h : AG n l o P p) (hj : j < l) (hi : i < n) (hn : n ≤ 6) (hs : s < 2) (hk : k < 20) : AG n l o (cnt2 P j i s k) (cnt2 p (o j) i s k) := by
  have h1 := AG.sw ho hl h hj hi hn hs hk
  unfold cnt2
  rw [h.co hi hn hs hk, h.set (x := 500) (by omega) (by omega), h.set (x := 506) (by omega) (by omega), h1.leg hj hl (f := 2) (by omega)]
  split
  · exact AG.ul ho hl h1 hj (by omega) rfl
  · exact h1
theorem AG.dm {n l : Nat} {o : Nat → Nat} {P p : Nat → Int32} (ho : ordO l o) (hl : l ≤ 10) (h : AG n l o P p) : AG n l o (dmp P) (dmp p) := by
  unfold dmp
  rw [h.hi (x := 561) (by omega) (by omega) (by omega) (by omega), h.set (x := 506) (by omega) (by omega)]
  exact AG.up ho hl (AG.up ho hl h (by omega) rfl) (by omega) rfl
theorem AG.b {n l : Nat} {o : Nat → Nat} {P p : Nat → Int32} (ho : ordO l o) (hl : l ≤ 10) (h : AG n l o P p) : AG n l o (cB P) (cB p) := by
  unfold cB
  rw [h.hi (x := 550) (by omega) (by omega) (by omega) (by omega), h.set (x := 499) (by omega) (by omega)]
  exact AG.up ho hl h (by omega) rfl
theorem AG.cell {n l j i s k : Nat} {o : Nat → Nat} (ho : ordO l o) (hl : l ≤ 10) (hj : j < l) (hi : i < n) (hn : n ≤ 6) (hs : s < 2) (hk : k < 20) : ∀ (f : Nat) (P p : Nat → Int32), AG n l o P p → AG n l o (cellF j i s k f P) (cellF (o j) i s k f p) := by
  intro f
  induction f with
  | zero => intro P p h; exact h
  | succ f ih =>
    intro P p h
    have h1 : AG n l o (cC j i s k P) (cC (o j) i s k p) := AG.c2 ho hl (AG.b ho hl h) hj hi hn hs hk
    have eT : cT i P = cT i p := by unfold cT; rw [h.ds hi hn]
    have h2 : AG n l o (cD i P (cC j i s k P)) (cD i p (cC (o j) i s k p)) := by
      unfold cD
      rw [eT, h1.hi (x := 550) (by omega) (by omega) (by omega) (by omega), h1.hi (x := 551) (by omega) (by omega) (by omega) (by omega)]
      exact AG.dm ho hl (AG.up ho hl (AG.up ho hl h1 (by omega) rfl) (by omega) rfl)
    rw [cellF_s, cellF_s, eT, (AG.b ho hl h).co hi hn hs hk, h1.hi (x := 550) (by omega) (by omega) (by omega) (by omega), h1.set (x := 506) (by omega) (by omega), h1.set (x := 500) (by omega) (by omega), h1.set (x := 502) (by omega) (by omega), h.hi (x := 550) (by omega) (by omega) (by omega) (by omega), h.set (x := 499) (by omega) (by omega), h.set (x := 500) (by omega) (by omega), h.set (x := 506) (by omega) (by omega), h.set (x := 502) (by omega) (by omega), h.ds hi hn]
    split
    · exact AG.up ho hl h (by omega) rfl
    · split
      · split
        · exact AG.up ho hl h1 (by omega) rfl
        · split
          · exact h2
          · exact ih _ _ h2
      · exact h1
theorem AG.cells {n l j i s : Nat} {o : Nat → Nat} {P p : Nat → Int32} (ho : ordO l o) (hl : l ≤ 10) (hj : j < l) (hi : i < n) (hn : n ≤ 6) (hs : s < 2) (h : AG n l o P p) : ∀ k, k ≤ 20 → AG n l o (cellsF j i s k P) (cellsF (o j) i s k p) := by
  intro k
  induction k with
  | zero => intro _; exact h
  | succ k ih =>
    intro hk
    have hh := ih (by omega)
    unfold cellsF
    rw [hh.hi (x := 549) (by omega) (by omega) (by omega) (by omega)]
    split
    · exact AG.cell ho hl hj hi hn hs (by omega) _ _ _ hh
    · exact hh
/-- a place where the machine may stand -/
def posO (n : Nat) (x : Int32) : Prop := x = -1 ∨ ∃ i, i < n ∧ x = nI i
theorem AG.dr {n l i : Nat} {o : Nat → Nat} {P p : Nat → Int32} {x : Int32} (h : AG n l o P p) (hi : i < n) (hn : n ≤ 6) (hx : posO n x) : driV P x i = driV p x i := by
  unfold driV
  rw [h.ds hi hn]
  split
  · rfl
  · split
    · rfl
    · rename_i q1 q2
      rcases hx with q | ⟨a, ha, rfl⟩
      · exact absurd q q2
      · rw [tn a (by omega), h.ds ha hn]
theorem AG.hm {n l : Nat} {o : Nat → Nat} {P p : Nat → Int32} {x : Int32} (h : AG n l o P p) (hn : n ≤ 6) (hx : posO n x) : hmV P x = hmV p x := by
  unfold hmV
  split
  · rfl
  · rename_i q2
    rcases hx with q | ⟨a, ha, rfl⟩
    · exact absurd q q2
    · rw [tn a (by omega), h.ds ha hn]
/-- legs that lie in streets -/
def legO (n l : Nat) (P : Nat → Int32) : Prop := (∀ j, j < l → lgI P j < n ∧ P (508 + 4 * j) = nI (lgI P j) ∧ lgS P j < 2 ∧ P (508 + 4 * j + 1) = nI (lgS P j)) ∧ ∀ i, i < n → cellsN P i ≤ 20
theorem okP.lego {c n l : Nat} {P : Nat → Int32} (ok : okP c n l P) : legO n l P := by
  have h6 := ok.1.2.1
  refine ⟨fun j hj => ?_, fun i hi => (ok.cells hi).2.2⟩
  obtain ⟨⟨v, v1, v2⟩, w, w1, w2⟩ := ok.2.2.2.1 j hj
  unfold lgI lgS
  rw [show 508 + 4 * j + 1 = 509 + 4 * j by omega, v1, w1, tn v (by omega), tn w (by omega)]
  exact ⟨v2, rfl, w2, rfl⟩
theorem AG.leF {n l j : Nat} {o : Nat → Nat} {P p : Nat → Int32} {x : Int32} (ho : ordO l o) (hl : l ≤ 10) (hn : n ≤ 6) (h : AG n l o P p) (hj : j < l) (hL : legO n l P) (hx : posO n x) : AG n l o (legF j P x).1 (legF (o j) p x).1 ∧ (legF j P x).2 = (legF (o j) p x).2 := by
  obtain ⟨a1, a2, a3, a4⟩ := hL.1 j hj
  have ei : lgI p (o j) = lgI P j := congrArg Int32.toNatClampNeg (h.leg (f := 0) hj hl (by omega)).symm
  have es : lgS p (o j) = lgS P j := by unfold lgS; rw [← h.leg (f := 1) hj hl (by omega)]
  have ec : cellsN p (lgI P j) = cellsN P (lgI P j) := by
    unfold cellsN
    have := h.st a1 hn (k := 0) (by omega)
    rw [show 1 + 83 * lgI P j + 0 = 1 + 83 * lgI P j from rfl] at this
    rw [this]
  unfold legF
  rw [ei, es, ec, ← h.dr a1 hn hx, ← h.ds a1 hn, ← h.hi (x := 550) (by omega) (by omega) (by omega) (by omega), ← h.set (x := 502) (by omega) (by omega)]
  split
  · exact ⟨AG.up ho hl h (by omega) rfl, rfl⟩
  · exact ⟨AG.cells ho hl hj a1 hn a3 (AG.up ho hl h (by omega) rfl) _ (hL.2 _ a1), rfl⟩
