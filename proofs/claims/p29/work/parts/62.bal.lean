-- the balance, call by call
theorem sD_z {f : Nat → Int32} {o : Nat} : ∀ m, (∀ k, k < m → f (o + k) = 0) → sD f o m = 0 := by
  intro m
  induction m with
  | zero => intro _; rfl
  | succ m ih =>
    intro h
    show sD f o m + f (o + m) = 0
    rw [ih (fun k hk => h k (by omega)), h m (by omega)]
    rfl
theorem oS_hi {n y : Nat} {P : Nat → Int32} {v : Int32} (hc : ∀ j, j < n → cellsN P j ≤ 20) (hn : n ≤ 6) (hy : 499 ≤ y) : oS (upd P y v) n = oS P n := by
  refine oS_cg n (fun i hi => ?_)
  have c := cellsN_upd (P := P) (v := v) (x := y) (i := i) (by omega)
  rw [c]
  refine ⟨rfl, hc i hi, fun s k hs hk => ?_⟩
  have := hc i hi
  rw [upd_n (by omega)]
theorem bal_cg {n : Nat} {P P' : Nat → Int32} (h : bal n P) (ho : oS P' n = oS P n) (h6 : P' 506 = P 506) (hs : ∀ y, 556 ≤ y → y < 562 → P' y = P y) : bal n P' := by
  unfold bal
  rw [ho, h6, hs 556 (by omega) (by omega), hs 557 (by omega) (by omega), hs 558 (by omega) (by omega), hs 559 (by omega) (by omega), hs 560 (by omega) (by omega), hs 561 (by omega) (by omega)]
  exact h
theorem bal_hi {c n l y : Nat} {P : Nat → Int32} {v : Int32} (ok : okP c n l P) (h : bal n P) (h1 : 499 ≤ y) (h2 : y ≠ 506) (h3 : y < 556 ∨ 562 ≤ y) : bal n (upd P y v) :=
  bal_cg h (oS_hi (fun j hj => (ok.cells hj).2.2) ok.1.2.1 h1) (upd_n (by omega)) (fun z z1 z2 => upd_n (by omega))
theorem bal_pk {c n l i k : Nat} {P : Nat → Int32} {v : Int32} (ok : okP c n l P) (h : bal n P) (hi : i < 6) (hk : k < 40) : bal n (upd P (44 + 83 * i + k) v) := by
  have h6 := ok.1.2.1
  refine bal_cg h (oS_cg n (fun a ha => ?_)) (upd_n (by omega)) (fun z z1 z2 => upd_n (by omega))
  have c := cellsN_upd (P := P) (v := v) (x := 44 + 83 * i + k) (i := a) (by omega)
  rw [c]
  refine ⟨rfl, (ok.cells ha).2.2, fun s m hs hm => ?_⟩
  have := (ok.cells ha).2.2
  rw [upd_n (fun q => dpk hs (by omega) hk q.symm)]
theorem bal_as {c n l : Nat} {a b t : Int32} {P P' : Nat → Int32} (ok : okP c n l P) (h : bal n P) (s : asP n a b t P P') (ha : ∃ v, a = nI v ∧ v ≤ 20) (hn : n < 6) : bal (n + 1) P' := by
  obtain ⟨a0, a1, a2, a3, a4, a5, a6⟩ := s
  obtain ⟨v, ev, v20⟩ := ha
  have c0 : cellsN P' n = v := by unfold cellsN; rw [a0, ev, tn v (by omega)]
  have e1 : oS P' (n + 1) = oS P' n + (sD P' (4 + 83 * n) (cellsN P' n) + sD P' (24 + 83 * n) (cellsN P' n)) := rfl
  have z1 : sD P' (4 + 83 * n) (cellsN P' n) = 0 := sD_z _ (fun k hk => a3 k (by omega))
  have z2 : sD P' (24 + 83 * n) (cellsN P' n) = 0 := sD_z _ (fun k hk => by
    have := a3 (20 + k) (by omega)
    rw [show 4 + 83 * n + (20 + k) = 24 + 83 * n + k by omega] at this
    exact this)
  have e2 : oS P' n = oS P n := by
    refine oS_cg n (fun i hi => ?_)
    have c1 : cellsN P' i = cellsN P i := by unfold cellsN; rw [a6 _ (by omega) (by omega) (by omega)]
    rw [c1]
    refine ⟨rfl, (ok.cells hi).2.2, fun s k hs hk => ?_⟩
    have := (ok.cells hi).2.2
    exact a6 _ (by omega) (by omega) (by omega)
  unfold bal at h ⊢
  rw [e1, z1, z2, e2, a6 506 (by omega) (by omega) (by omega), a6 556 (by omega) (by omega) (by omega), a6 557 (by omega) (by omega) (by omega), a6 558 (by omega) (by omega) (by omega), a6 559 (by omega) (by omega) (by omega), a6 560 (by omega) (by omega) (by omega), a6 561 (by omega) (by omega) (by omega), ← h]
  grind
theorem bal_lay {c n l i s k o w : Nat} {P : Nat → Int32} (ok : okP c n l P) (h : bal n P) (hi : i < n) (hs : s < 2) (hk : k < cellsN P i) (ho : P (4 + 83 * i + (20 * s + k)) = nI o) : bal n (layP P (4 + 83 * i + (20 * s + k)) o w) := by
  have h6 := ok.1.2.1
  have hc := (ok.cells hi).2.2
  have hcs : ∀ j, j < n → cellsN P j ≤ 20 := fun j hj => (ok.cells hj).2.2
  have e := oS_upd (v := nI w) hs hk hc n hcs
  rw [if_pos hi, ho] at e
  have hcs' : ∀ j, j < n → cellsN (upd P (4 + 83 * i + (20 * s + k)) (nI w)) j ≤ 20 := fun j hj => by
    rw [cellsN_upd (dne (r := 0) hs (by omega) (by omega))]
    exact hcs j hj
  have g : ∀ y, 499 ≤ y → upd P (4 + 83 * i + (20 * s + k)) (nI w) y = P y := fun y hy => upd_n (by omega)
  unfold bal at h ⊢
  unfold layP
  split
  · rw [oS_hi hcs' h6 (by omega), e, upd_n (by omega), g 506 (by omega), upd_n (by omega), g 556 (by omega), upd_n (by omega), g 557 (by omega), upd_s, upd_n (by omega), g 559 (by omega), upd_n (by omega), g 560 (by omega), upd_n (by omega), g 561 (by omega)]
    grind
  · rw [oS_hi hcs' h6 (by omega), e, upd_n (by omega), g 506 (by omega), upd_s, upd_n (by omega), g 557 (by omega), upd_n (by omega), g 558 (by omega), upd_n (by omega), g 559 (by omega), upd_n (by omega), g 560 (by omega), upd_n (by omega), g 561 (by omega)]
    grind
theorem bal_night {c n l nn : Nat} {S v : Int32} {P P' : Nat → Int32} {cnt : Nat → Nat → Nat → Nat} (ok : okP c n l P) (h : bal n P) (g : nG n P cnt S P') (ok' : okP c n l (upd P' 563 v)) : bal n (upd P' 563 v) := by
  have h6 := ok.1.2.1
  have hc' : ∀ j, j < n → cellsN P' j ≤ 20 := fun j hj => by
    rw [g.cells ok (by omega)]
    exact (ok.cells hj).2.2
  have nd : ∀ y, 499 ≤ y → ¬ dcell n P y := fun y hy ⟨i, s, k, h1, h2, h3, h4⟩ => by
    have := (ok.cells h1).2.2
    omega
  obtain ⟨g1, g2, g3, g4⟩ := g
  have f : ∀ y, 499 ≤ y → y ≠ 557 → y ≠ 559 → P' y = P y := fun y y1 y2 y3 => g4 y (nd y y1) y2 y3
  unfold bal at h ⊢
  rw [oS_hi hc' h6 (by omega), upd_n (by omega), upd_n (by omega), upd_n (by omega), upd_n (by omega), upd_n (by omega), upd_n (by omega), upd_n (by omega), f 506 (by omega) (by omega) (by omega), f 556 (by omega) (by omega) (by omega), f 558 (by omega) (by omega) (by omega), f 560 (by omega) (by omega) (by omega), f 561 (by omega) (by omega) (by omega)]
  grind
theorem bal_rain1 {c n l i s k q : Nat} {P : Nat → Int32} (ok : okP c n l P) (h : bal n P) (hi : i < n) (hs : s < 2) (hk : k < cellsN P i) : bal n (rnS P i s (cellsN P i) k (nI q)) := by
  have h6 := ok.1.2.1
  have hc := (ok.cells hi).2.2
  have hcs : ∀ j, j < n → cellsN P j ≤ 20 := fun j hj => (ok.cells hj).2.2
  generalize hr : rnV P i s k (nI q) = r
  unfold rnS
  rw [hr]
  have e := oS_upd (v := P (4 + 83 * i + (20 * s + k)) - r) hs hk hc n hcs
  rw [if_pos hi] at e
  generalize hA : upd P (4 + 83 * i + (20 * s + k)) (P (4 + 83 * i + (20 * s + k)) - r) = A at e ⊢
  have cA : ∀ j, cellsN A j = cellsN P j := fun j => by rw [← hA]; exact cellsN_upd (dne (r := 0) hs (by omega) (by omega))
  have hcA : ∀ j, j < n → cellsN A j ≤ 20 := fun j hj => by rw [cA]; exact hcs j hj
  have g : ∀ y, 499 ≤ y → A y = P y := fun y hy => by rw [← hA]; exact upd_n (by omega)
  unfold bal at h ⊢
  split
  · rw [oS_hi hcA h6 (by omega), e, upd_n (by omega), g 506 (by omega), upd_n (by omega), g 556 (by omega), upd_n (by omega), g 557 (by omega), upd_n (by omega), g 558 (by omega), upd_n (by omega), g 559 (by omega), upd_s, upd_n (by omega), g 561 (by omega)]
    grind
  · rename_i hv
    have eA : A (4 + 83 * i + (20 * s + (k + 1))) = P (4 + 83 * i + (20 * s + (k + 1))) := by rw [← hA]; exact upd_n (by omega)
    generalize hB : upd A 560 (P 560 + (if P (4 + 83 * i + (20 * s + (k + 1))) + r ≤ 99 then 0 else P (4 + 83 * i + (20 * s + (k + 1))) + r - 99)) = B
    have cB' : ∀ j, j < 6 → cellsN B j = cellsN P j := fun j hj => by rw [← hB, cellsN_upd (by omega)]; exact cA j
    have oB : oS B n = oS A n := by rw [← hB]; exact oS_hi hcA h6 (by omega)
    have e2 := oS_upd (P := B) (v := mnI (P (4 + 83 * i + (20 * s + (k + 1))) + r) 99) (i := i) (s := s) (k := k + 1) hs (by rw [cB' i (by omega)]; omega) (by rw [cB' i (by omega)]; exact hc) n (fun j hj => by rw [cB' j (by omega)]; exact hcs j hj)
    have eB : B (4 + 83 * i + (20 * s + (k + 1))) = P (4 + 83 * i + (20 * s + (k + 1))) := by rw [← hB, upd_n (by omega)]; exact eA
    rw [if_pos hi, eB, oB, e] at e2
    have gB : ∀ y, 499 ≤ y → y ≠ 560 → B y = P y := fun y hy h0 => by rw [← hB, upd_n h0]; exact g y hy
    have gB0 : B 560 = P 560 + (if P (4 + 83 * i + (20 * s + (k + 1))) + r ≤ 99 then 0 else P (4 + 83 * i + (20 * s + (k + 1))) + r - 99) := by rw [← hB]; exact upd_s
    rw [e2, upd_n (by omega), gB 506 (by omega) (by omega), upd_n (by omega), gB 556 (by omega) (by omega), upd_n (by omega), gB 557 (by omega) (by omega), upd_n (by omega), gB 558 (by omega) (by omega), upd_n (by omega), gB 559 (by omega) (by omega), upd_n (by omega), gB0, upd_n (by omega), gB 561 (by omega) (by omega)]
    unfold mnI
    by_cases z : P (4 + 83 * i + (20 * s + (k + 1))) + r ≤ 99
    · rw [if_pos z, if_neg (Int32.not_lt.mpr z)]
      grind
    · rw [if_neg z, if_pos (Int32.not_le.mp z)]
      grind
theorem bal_rainL {c n l i s v q : Nat} (hi : i < n) (hs : s < 2) (hq : q ≤ 100) : ∀ m (P : Nat → Int32), cellsN P i = v → m ≤ v → okP c n l P → bal n P → okP c n l (rnL i s v (nI q) m P) ∧ bal n (rnL i s v (nI q) m P) := by
  intro m
  induction m with
  | zero => intro P _ _ ok h; exact ⟨ok, h⟩
  | succ m ih =>
    intro P hv hm ok h
    have h6 := ok.1.2.1
    have c20 := (ok.cells hi).2.2
    refine ih (rnS P i s v m (nI q)) ?_ (by omega) (ok.rain1 hi hs (by omega) (by omega) hq) ?_
    · rw [rnS_cells hs (by omega) (by omega) (by omega)]
      exact hv
    · have := bal_rain1 (q := q) ok h hi hs (k := m) (by omega)
      rw [hv] at this
      exact this
theorem bal_rain {c n l q : Nat} {P : Nat → Int32} (ok : okP c n l P) (h : bal n P) (hq : q ≤ 100) : ∀ m, m ≤ n → okP c n l (rnA (nI q) P m) ∧ bal n (rnA (nI q) P m) := by
  have h6 := ok.1.2.1
  have c20 : ∀ i, i < n → cellsN P i ≤ 20 := fun i hi => (ok.cells hi).2.2
  intro m
  induction m with
  | zero => intro _; exact ⟨ok, h⟩
  | succ m ih =>
    intro hm
    obtain ⟨o1, b1⟩ := ih (by omega)
    have e1 : cellsN (rnA (nI q) P m) m = cellsN P m := rnA_cells c20 m (by omega) m (by omega)
    obtain ⟨o2, b2⟩ := bal_rainL (s := 0) (i := m) (by omega) (by omega) hq (cellsN P m) (rnA (nI q) P m) e1 (Nat.le_refl _) o1 b1
    have e2 : cellsN (rnL m 0 (cellsN P m) (nI q) (cellsN P m) (rnA (nI q) P m)) m = cellsN P m := by
      rw [rnL_cells (by omega) (c20 m (by omega)) (by omega) _ _ (Nat.le_refl _)]
      exact e1
    exact bal_rainL (s := 1) (i := m) (by omega) (by omega) hq (cellsN P m) _ e2 (Nat.le_refl _) o2 b2
-- in a shift: what lies, what the machine holds, what it brought away
def QB (n : Nat) (P X : Nat → Int32) : Prop := oS X n + X 506 + X 561 = oS P n + P 506 + P 561 ∧ ∀ y, 556 ≤ y → y < 561 → X y = P y
theorem QB.rf {n : Nat} {P : Nat → Int32} : QB n P P := ⟨rfl, fun _ _ _ => rfl⟩
theorem QB.tr {n : Nat} {P X Y : Nat → Int32} (h : QB n P X) (h' : QB n X Y) : QB n P Y := ⟨h'.1.trans h.1, fun y y1 y2 => (h'.2 y y1 y2).trans (h.2 y y1 y2)⟩
theorem QB.bal {n : Nat} {P X : Nat → Int32} (h : QB n P X) (b : bal n P) : bal n X := by
  obtain ⟨h1, h2⟩ := h
  have b : oS P n + P 506 = P 556 + P 557 - P 558 - P 559 - P 560 - P 561 := b
  show oS X n + X 506 = X 556 + X 557 - X 558 - X 559 - X 560 - X 561
  rw [h2 556 (by omega) (by omega), h2 557 (by omega) (by omega), h2 558 (by omega) (by omega), h2 559 (by omega) (by omega), h2 560 (by omega) (by omega)]
  grind
theorem QB.hi {c n l y : Nat} {X : Nat → Int32} {v : Int32} (ok : okP c n l X) (h1 : 499 ≤ y) (h2 : y ≠ 506) (h3 : y < 556 ∨ 562 ≤ y) : QB n X (upd X y v) := by
  refine ⟨?_, fun z z1 z2 => upd_n (by omega)⟩
  rw [oS_hi (fun j hj => (ok.cells hj).2.2) ok.1.2.1 h1, upd_n (by omega), upd_n (by omega)]
theorem QB.dm {c n l : Nat} {X : Nat → Int32} (ok : okP c n l X) : QB n X (dmp X) := by
  have hc : ∀ j, j < n → cellsN X j ≤ 20 := fun j hj => (ok.cells hj).2.2
  have hc2 : ∀ j, j < n → cellsN (upd X 561 (X 561 + X 506)) j ≤ 20 := fun j hj => by
    have h6 := ok.1.2.1
    rw [cellsN_upd (by omega)]
    exact hc j hj
  unfold dmp
  refine ⟨?_, fun z z1 z2 => by rw [upd_n (by omega), upd_n (by omega)]⟩
  rw [oS_hi hc2 ok.1.2.1 (by omega), oS_hi hc ok.1.2.1 (by omega), upd_s, upd_n (by omega), upd_s]
  grind
theorem oS_hi5 {n : Nat} {A : Nat → Int32} {y1 y2 y3 y4 y5 : Nat} {v1 v2 v3 v4 v5 : Int32} (hc : ∀ j, j < n → cellsN A j ≤ 20) (hn : n ≤ 6) (h1 : 499 ≤ y1) (h2 : 499 ≤ y2) (h3 : 499 ≤ y3) (h4 : 499 ≤ y4) (h5 : 499 ≤ y5) : oS (upd (upd (upd (upd (upd A y1 v1) y2 v2) y3 v3) y4 v4) y5 v5) n = oS A n := by
  have d1 : ∀ j, j < n → cellsN (upd A y1 v1) j ≤ 20 := fun j hj => by rw [cellsN_upd (by omega)]; exact hc j hj
  have d2 : ∀ j, j < n → cellsN (upd (upd A y1 v1) y2 v2) j ≤ 20 := fun j hj => by rw [cellsN_upd (by omega)]; exact d1 j hj
  have d3 : ∀ j, j < n → cellsN (upd (upd (upd A y1 v1) y2 v2) y3 v3) j ≤ 20 := fun j hj => by rw [cellsN_upd (by omega)]; exact d2 j hj
  have d4 : ∀ j, j < n → cellsN (upd (upd (upd (upd A y1 v1) y2 v2) y3 v3) y4 v4) j ≤ 20 := fun j hj => by rw [cellsN_upd (by omega)]; exact d3 j hj
  rw [oS_hi d4 hn h5, oS_hi d3 hn h4, oS_hi d2 hn h3, oS_hi d1 hn h2, oS_hi hc hn h1]
theorem QB.sw {c n l j i s k : Nat} {X : Nat → Int32} (ok : okP c n l X) (hj : j < 10) (hi : i < n) (hs : s < 2) (hk : k < cellsN X i) : QB n X (swp X j i s k) := by
  have h6 := ok.1.2.1
  have hc := (ok.cells hi).2.2
  have hcs : ∀ j, j < n → cellsN X j ≤ 20 := fun j hj => (ok.cells hj).2.2
  unfold swp
  generalize mnI (coV X (83 * i + (20 * s + k))) (X 500 - X 506) = t
  have e := oS_upd (v := X (4 + 83 * i + (20 * s + k)) - t) hs hk hc n hcs
  rw [if_pos hi] at e
  have cA : ∀ j, j < n → cellsN (upd X (4 + 83 * i + (20 * s + k)) (X (4 + 83 * i + (20 * s + k)) - t)) j ≤ 20 := fun a ha => by
    rw [cellsN_upd (dne (r := 0) hs (by omega) (by omega))]
    exact hcs a ha
  refine ⟨?_, fun y y1 y2 => ?_⟩
  · rw [oS_hi5 cA h6 (by omega) (by omega) (by omega) (by omega) (by omega), e]
    rw [upd_n (by omega), upd_n (by omega), upd_n (by omega), upd_n (by omega), upd_s]
    rw [upd_n (by omega), upd_n (by omega), upd_n (by omega), upd_n (by omega), upd_n (by omega), upd_n (by omega)]
    grind
  · rw [upd_n (by omega), upd_n (by omega), upd_n (by omega), upd_n (by omega), upd_n (by omega), upd_n (by omega)]
theorem bal_ev {c n l : Nat} {P p : Nat → Int32} (ok : okP c n l P) (e : EV n l P p) (h : bal n p) : bal n P := by
  have h6 := ok.1.2.1
  refine bal_cg h (oS_cg n (fun i hi => ?_)) (e 506 (vis_set (by omega) (by omega))) (fun y y1 y2 => e y (vis_hi (by omega) (by omega) (by omega)))
  have c := (ok.cells hi).2.2
  have ec : cellsN P i = cellsN p i := by unfold cellsN; rw [e (1 + 83 * i) (vis_st (k := 0) hi h6 (by omega))]
  refine ⟨ec, c, fun s k hs hk => ?_⟩
  have := e (1 + 83 * i + (3 + (20 * s + k))) (vis_st hi h6 (by omega))
  rw [show 1 + 83 * i + (3 + (20 * s + k)) = 4 + 83 * i + (20 * s + k) by omega] at this
  exact this
