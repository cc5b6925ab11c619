-- rain
def rnV (P : Nat → Int32) (i s k : Nat) (pc : Int32) : Int32 := if P (44 + 83 * i + (20 * s + k)) = 0 then P (4 + 83 * i + (20 * s + k)) * pc / 100 else 0
/-- one cell runs down, to the next cell or (the last of v) into the drain -/
def rnS (P : Nat → Int32) (i s v k : Nat) (pc : Int32) : Nat → Int32 :=
  if k + 1 = v then upd (upd P (4 + 83 * i + (20 * s + k)) (P (4 + 83 * i + (20 * s + k)) - rnV P i s k pc)) 560 (P 560 + rnV P i s k pc)
  else upd (upd (upd P (4 + 83 * i + (20 * s + k)) (P (4 + 83 * i + (20 * s + k)) - rnV P i s k pc)) 560 (P 560 + (if P (4 + 83 * i + (20 * s + (k + 1))) + rnV P i s k pc ≤ 99 then 0 else P (4 + 83 * i + (20 * s + (k + 1))) + rnV P i s k pc - 99))) (4 + 83 * i + (20 * s + (k + 1))) (mnI (P (4 + 83 * i + (20 * s + (k + 1))) + rnV P i s k pc) 99)
def rnL (i s v : Nat) (pc : Int32) : Nat → (Nat → Int32) → Nat → Int32
  | 0, P => P
  | k + 1, P => rnL i s v pc k (rnS P i s v k pc)
def rnA (pc : Int32) (P : Nat → Int32) : Nat → Nat → Int32
  | 0 => P
  | i + 1 => rnL i 1 (cellsN P i) pc (cellsN P i) (rnL i 0 (cellsN P i) pc (cellsN P i) (rnA pc P i))
theorem okP.run {c n l i s k q : Nat} {P : Nat → Int32} (ok : okP c n l P) (hi : i < n) (hs : s < 2) (hk : k < 20) (hq : q ≤ 100) : ∃ d r, P (4 + 83 * i + (20 * s + k)) = nI d ∧ d ≤ 99 ∧ rnV P i s k (nI q) = nI r ∧ r ≤ d := by
  obtain ⟨d1, d2⟩ := ok.dn hi (k := 20 * s + k) (by omega)
  refine ⟨nv P (4 + 83 * i + (20 * s + k)), if P (44 + 83 * i + (20 * s + k)) = 0 then nv P (4 + 83 * i + (20 * s + k)) * q / 100 else 0, d1, d2, ?_, ?_⟩
  · unfold rnV
    split
    · rw [d1, pk_mul, show (100 : Int32) = nI 100 from rfl, pk_div (Nat.lt_of_le_of_lt (Nat.mul_le_mul d2 hq) (by decide)) (by decide) (by decide)]
    · rfl
  · split
    · have : nv P (4 + 83 * i + (20 * s + k)) * q ≤ nv P (4 + 83 * i + (20 * s + k)) * 100 := Nat.mul_le_mul_left _ hq
      omega
    · omega
theorem mn99 (d : Nat) (h : d < 1000001) : mnI (nI d) 99 = nI (min 99 d) := minI d h
theorem RN.rain1 {c n l i s v k q : Nat} {P p : Nat → Int32} (h : RN c n l P p) (hi : i < n) (hs : s < 2) (hk : k < v) (hv : v ≤ 20) (hq : q ≤ 100) : RN c n l (rnS P i s v k (nI q)) (rnS p i s v k (nI q)) := by
  have h6 := h.1.1.2.1
  obtain ⟨d, r, h1, h2, h3, h4⟩ := h.1.run hi hs (k := k) (by omega) hq
  have ex : P (4 + 83 * i + (20 * s + k)) = p (4 + 83 * i + (20 * s + k)) := h.2.1.k hi h6 (by omega)
  have ek := h.2.1.k hi h6 (k := 40 + (20 * s + k)) (by omega)
  rw [show 4 + 83 * i + (40 + (20 * s + k)) = 44 + 83 * i + (20 * s + k) by omega] at ek
  have er : rnV P i s k (nI q) = rnV p i s k (nI q) := by unfold rnV; rw [ex, ek]
  have e0 := h.2.1.hi (x := 560) (by omega) (by omega) (by omega)
  unfold rnS
  rw [← er, ← ex, ← e0]
  have R1 : RN c n l (upd P (4 + 83 * i + (20 * s + k)) (P (4 + 83 * i + (20 * s + k)) - rnV P i s k (nI q))) (upd p (4 + 83 * i + (20 * s + k)) (P (4 + 83 * i + (20 * s + k)) - rnV P i s k (nI q))) := by
    rw [h1, h3, pk_sub h4]
    exact h.up (by omega) (by omega) (by omega) (h.1.dirt hi (by omega) (by omega))
  split
  · exact R1.hi (by omega) (by omega) (by omega)
  · obtain ⟨d', r', g1, g2, -, -⟩ := h.1.run hi hs (k := k + 1) (by omega) hq
    rw [← h.2.1.k hi h6 (k := 20 * s + (k + 1)) (by omega)]
    have R2 := R1.hi (x := 560) (v := P 560 + (if P (4 + 83 * i + (20 * s + (k + 1))) + rnV P i s k (nI q) ≤ 99 then 0 else P (4 + 83 * i + (20 * s + (k + 1))) + rnV P i s k (nI q) - 99)) (by omega) (by omega) (by omega)
    refine R2.up (by omega) (by omega) (by omega) ?_
    rw [g1, h3, nI_add, mn99 _ (by omega)]
    rw [g1, h3, nI_add] at R2
    exact R2.1.dirt hi (by omega) (Nat.min_le_left _ _)
theorem rnS_ne {P : Nat → Int32} {i s v k y : Nat} {pc : Int32} (h1 : y ≠ 4 + 83 * i + (20 * s + k)) (h2 : y ≠ 4 + 83 * i + (20 * s + (k + 1))) (h3 : y ≠ 560) : rnS P i s v k pc y = P y := by
  unfold rnS
  split
  · rw [upd_n h3, upd_n h1]
  · rw [upd_n h2, upd_n h3, upd_n h1]
theorem rnS_cells {P : Nat → Int32} {i s v k j : Nat} {pc : Int32} (hs : s < 2) (hk : k < v) (hv : v ≤ 20) (hj : j < 6) : cellsN (rnS P i s v k pc) j = cellsN P j := by
  unfold rnS
  split
  · rw [cellsN_upd (by omega), cellsN_upd (dne (r := 0) hs (by omega) (by omega))]
  · rw [cellsN_upd (dne (r := 0) hs (by omega) (by omega)), cellsN_upd (by omega), cellsN_upd (dne (r := 0) hs (by omega) (by omega))]
theorem rnL_cells {i s v j : Nat} {pc : Int32} (hs : s < 2) (hv : v ≤ 20) (hj : j < 6) : ∀ m (P : Nat → Int32), m ≤ v → cellsN (rnL i s v pc m P) j = cellsN P j := by
  intro m
  induction m with
  | zero => intro P _; rfl
  | succ m ih => intro P hm; exact (ih _ (by omega)).trans (rnS_cells hs (by omega) hv hj)
theorem RN.rainL {c n l i s v q : Nat} (hi : i < n) (hs : s < 2) (hv : v ≤ 20) (hq : q ≤ 100) : ∀ m (P p : Nat → Int32), m ≤ v → RN c n l P p → RN c n l (rnL i s v (nI q) m P) (rnL i s v (nI q) m p) := by
  intro m
  induction m with
  | zero => intro P p _ h; exact h
  | succ m ih => intro P p hm h; exact ih _ _ (by omega) (h.rain1 hi hs (by omega) hv hq)
theorem RN.rainA {c n l q : Nat} {P p : Nat → Int32} (hq : q ≤ 100) (h : RN c n l P p) : ∀ m, m ≤ n → RN c n l (rnA (nI q) P m) (rnA (nI q) p m) := by
  have h6 := h.1.1.2.1
  intro m
  induction m with
  | zero => intro _; exact h
  | succ m ih =>
    intro hm
    have R := ih (by omega)
    have cv := (h.1.cells (i := m) (by omega)).2.2
    unfold rnA
    rw [← cellsN_eq h.2.1 (i := m) (by omega) h6]
    exact RN.rainL (by omega) (by omega) cv hq _ _ _ (Nat.le_refl _) (RN.rainL (by omega) (by omega) cv hq _ _ _ (Nat.le_refl _) R)
theorem rnA_cells {n : Nat} {pc : Int32} {P : Nat → Int32} (hc : ∀ i, i < n → cellsN P i ≤ 20) : ∀ m, m ≤ n → ∀ j, j < 6 → cellsN (rnA pc P m) j = cellsN P j := by
  intro m
  induction m with
  | zero => intro _ j _; rfl
  | succ m ih =>
    intro hm j hj
    unfold rnA
    rw [rnL_cells (by omega) (hc m (by omega)) hj _ _ (Nat.le_refl _), rnL_cells (by omega) (hc m (by omega)) hj _ _ (Nat.le_refl _)]
    exact ih (by omega) j hj
theorem xm_succ (k : Nat) : nI (k + 1) + (-1) = nI k := i_m1 k
theorem xm_0 : nI 0 + (-1) = (-1 : Int32) := by decide
theorem xm_sub {v : Nat} (h : 1 ≤ v) : nI v - 1 = nI v + (-1) := by
  obtain ⟨k, rfl⟩ : ∃ k, v = k + 1 := ⟨v - 1, by omega⟩
  rw [xm_succ, show (1 : Int32) = nI 1 from rfl, pk_sub (by omega)]
  rfl
/-- the page with its sum of what ran away set -/
def u560 (P : Nat → Int32) (v : Int32) : Nat → Int32 := upd P 560 v
theorem s_6_washSide {c n l B i s q : Nat} {base : Int32} {Q : Int32 → St → Prop} {σ0 σ : St} {Pc : Nat → Int32} (ok : okP c n l Pc) (t : toW σ0 σ B Pc) (hi : i < n) (hs : s < 2) (hq : q ≤ 100) (hQ : ∀ τ Pe acc, toW σ0 τ B Pe → okP c n l Pe → Pe 560 = Pc 560 → cellsN Pe = cellsN Pc ∨ True → upd Pe 560 (base + acc) = rnL i s (cellsN Pc i) (nI q) (cellsN Pc i) (upd Pc 560 base) → Q acc τ) : m_6_washSide (B + 1 + 5 + 3 * i) (nI s) (nI q) Q σ := by
  have h6 := ok.1.2.1
  obtain ⟨cv, cv1, cv2⟩ := ok.cells hi
  unfold m_6_washSide
  intro x4 ex
  rw [gst σ B (k := 0) (by omega) (by omega), t.g, show 1 + 83 * i + 0 = 1 + 83 * i from rfl, cv, xm_sub cv1] at ex
  subst ex
  have key := it_lt (F := m_6_washSide_10 (B + 1 + 5 + 3 * i) (nI s) (nI q) Q) (bot := fun _ _ _ => False) (fun (m : Nat) (A : Int32 → Int32 → St → Prop) => ∀ τ Pe acc, m ≤ cellsN Pc i → toW σ0 τ B Pe → okP c n l Pe → Pe 560 = Pc 560 → Pe (1 + 83 * i) = nI (cellsN Pc i) → rnL i s (cellsN Pc i) (nI q) m (upd Pe 560 (base + acc)) = rnL i s (cellsN Pc i) (nI q) (cellsN Pc i) (upd Pc 560 base) → A acc (nI m + (-1)) τ) ?_ (cellsN Pc i) (by omega)
  · refine key σ Pc 0 (Nat.le_refl _) t ok rfl cv (by rw [i0])
  intro m A hA τ Pe acc hm te oke e560 ec hF
  unfold m_6_washSide_10
  rcases Nat.eq_zero_or_pos m with z | z
  · subst z
    rw [xm_0]
    exact ⟨fun _ => hQ τ Pe acc te oke e560 (Or.inr trivial) hF, fun q => absurd (by decide) q⟩
  obtain ⟨k, rfl⟩ : ∃ k, m = k + 1 := ⟨m - 1, by omega⟩
  rw [xm_succ]
  refine ⟨fun q => absurd q (nn0 (by omega)), fun _ => ?_⟩
  refine s_9_placeOf ?_
  rw [tn _ (by omega), gpa τ B (by omega) (by omega), gdi τ B (by omega) (by omega), te.g, te.g]
  refine ⟨vin (by omega), ?_⟩
  obtain ⟨d, r, r1, r2, r3, r4⟩ := oke.run hi hs (k := k) (by omega) hq
  have go : m_6_washSide_49 (B + 1 + 5 + 3 * i) (nI s) (nI q) acc (nI k) (nI (20 * s + k)) A Q (nI r) τ := by
    unfold m_6_washSide_49
    rw [tn _ (by omega), gdi τ B (by omega) (by omega), te.g, r1, pk_sub r4]
    refine ⟨vin (by omega), vin (by omega), fun σ1 e1 => ?_⟩
    have t1 := tw_di te (i := i) (k := 20 * s + k) (v := nI (d - r)) (by omega) (by omega)
    rw [← e1] at t1
    have ok1 : okP c n l (upd Pe (4 + 83 * i + (20 * s + k)) (nI (d - r))) := oke.dirt hi (by omega) (by omega)
    have ec1 : σ1.1 (B + 1 + 5 + 3 * i) 0 = nI (cellsN Pc i) := by
      rw [gst σ1 B (k := 0) (by omega) (by omega), t1.g, upd_n (by omega)]
      exact ec
    rw [ec1, xm_sub cv1]
    have eV : rnV (upd Pe 560 (base + acc)) i s k (nI q) = nI r := by
      rw [← r3]
      unfold rnV
      rw [upd_n (by omega), upd_n (by omega)]
    have eX : upd Pe 560 (base + acc) (4 + 83 * i + (20 * s + k)) = nI d := by rw [upd_n (by omega)]; exact r1
    obtain ⟨k', hk'⟩ : ∃ k', cellsN Pc i = k' + 1 := ⟨cellsN Pc i - 1, by omega⟩
    rw [show nI (cellsN Pc i) + (-1) = nI k' by rw [hk', xm_succ]]
    refine ⟨fun qk => ?_, fun qk => ?_⟩
    · have hne : k ≠ k' := fun e => qk (by rw [e])
      obtain ⟨d', r', g1, g2, -, -⟩ := oke.run hi hs (k := k + 1) (by omega) hq
      rw [li 1, nI_add]
      have eY : upd Pe 560 (base + acc) (4 + 83 * i + (20 * s + (k + 1))) = nI d' := by rw [upd_n (by omega)]; exact g1
      refine s_6_putDirt (d := d') (by omega) (by rw [gdi σ1 B (by omega) (by omega), t1.g, upd_n (by omega), show 20 * s + k + 1 = 20 * s + (k + 1) by omega]; exact g1) (by omega) ?_
      intro x3 e3 x4 e4
      have t2 := tw_di t1 (i := i) (k := 20 * s + k + 1) (v := nI (min 99 (d' + r))) (by omega) (by omega)
      rw [e4]
      have e3' : x3 = acc + (if nI (d' + r) ≤ 99 then 0 else nI (d' + r) - 99) := by
        rw [e3]
        congr 1
        by_cases z : d' + r ≤ 99
        · rw [if_pos (show nI (d' + r) ≤ 99 from (lei (b := 99) (by omega) (by omega)).mpr z), Nat.min_eq_right z, pk_sub (Nat.le_refl _), Nat.sub_self]
          rfl
        · rw [if_neg (show ¬ nI (d' + r) ≤ 99 from fun z2 => z ((lei (b := 99) (by omega) (by omega)).mp z2)), Nat.min_eq_left (by omega)]
          rfl
      rw [e3']
      refine hA k (by omega) _ _ _ (by omega) t2 (ok1.dirt hi (by omega) (Nat.min_le_left _ _)) (by rw [upd_n (by omega), upd_n (by omega)]; exact e560) (by rw [upd_n (by omega), upd_n (by omega)]; exact ec) ?_
      rw [← hF]
      show rnL i s (cellsN Pc i) (nI q) k _ = rnL i s (cellsN Pc i) (nI q) k (rnS (upd Pe 560 (base + acc)) i s (cellsN Pc i) k (nI q))
      congr 1
      unfold rnS
      rw [if_neg (show ¬ k + 1 = cellsN Pc i by omega), eV, eX, eY, nI_add, mn99 _ (by omega), pk_sub r4, upd_s, show 20 * s + k + 1 = 20 * s + (k + 1) by omega]
      rw [upd_comm (x := 560) (y := 4 + 83 * i + (20 * s + k)) (by omega), upd_upd, upd_comm (x := 560) (y := 4 + 83 * i + (20 * s + (k + 1))) (by omega)]
      rw [Int32.add_assoc]
    · have hke : k = k' := (eqI (by omega) (by omega)).mp qk
      subst hke
      intro x3 e3 x4 e4
      rw [e3, e4]
      refine hA k (by omega) _ _ _ (by omega) t1 ok1 (by rw [upd_n (by omega)]; exact e560) (by rw [upd_n (by omega)]; exact ec) ?_
      rw [← hF]
      show rnL i s (cellsN Pc i) (nI q) k _ = rnL i s (cellsN Pc i) (nI q) k (rnS (upd Pe 560 (base + acc)) i s (cellsN Pc i) k (nI q))
      congr 1
      unfold rnS
      rw [if_pos (show k + 1 = cellsN Pc i by omega), eV, eX, pk_sub r4, upd_s]
      rw [upd_comm (x := 560) (y := 4 + 83 * i + (20 * s + k)) (by omega), upd_upd]
      rw [Int32.add_assoc]
  rw [show 44 + 83 * i + (20 * s + k) = 44 + 83 * i + (20 * s + k) from rfl]
  have r3' := r3
  unfold rnV at r3'
  refine ⟨fun z => ⟨vin (by omega), ?_⟩, fun z => ?_⟩
  · rw [if_pos z] at r3'
    rw [r3']
    exact go
  · rw [if_neg z] at r3'
    rw [show (0 : Int32) = nI r from r3']
    exact go
