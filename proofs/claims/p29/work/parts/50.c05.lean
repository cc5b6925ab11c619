theorem s_6_putDirt {r0 k d x : Nat} {Q : Int32 → St → Prop} {σ : St} (hk : k < 40) (hd : σ.1 (r0 + 1) k = nI d) (hs : d + x < 1000001) (h : Q (nI (d + x) - nI (min 99 (d + x))) (wr σ (r0 + 1) k (nI (min 99 (d + x))))) : m_6_putDirt r0 (nI k) (nI x) Q σ := by
  unfold m_6_putDirt
  rw [tn k (by omega), hd, nI_add]
  refine ⟨vin hk, fun x3 e3 => ⟨vin hk, fun σ2 e2 => ⟨vin hk, ?_⟩⟩⟩
  rw [e3, minI _ hs] at e2
  rw [e3, e2, wr_same]
  exact h
theorem nG.val {c n l i s k : Nat} {P P' : Nat → Int32} {cnt : Nat → Nat → Nat → Nat} {S : Int32} (ok : okP c n l P) (h : nG n P cnt S P') (hi : i < n) (hs : s < 2) (hk : k < cellsN P i) (h0 : cnt i s k = 0) : P' (4 + 83 * i + (20 * s + k)) = nI (nv P (4 + 83 * i + (20 * s + k))) := by
  have := (ok.cells hi).2.2
  rw [h.1 i s k hi hs hk, h0, Nat.mul_zero, Nat.add_zero, Nat.min_eq_right (ok.dn hi (by omega)).2]
theorem s_8_passNights {c n l B nn : Nat} {Q : St → Prop} {σ : St} (ok : okP c n l (pgW σ B)) (hn : nn ≤ 30) (hQ : ∀ τ P', toW σ τ B (upd P' 563 (pgW σ B 563 + nI nn)) → nG n (pgW σ B) (fun _ _ _ => nn) (nI nn * fS (pgW σ B) n) P' → Q τ) : m_8_passNights B (nI nn) Q σ := by
  have h6 := ok.1.2.1
  unfold m_8_passNights
  have nd : ∀ y, (y < 4 ∨ 487 ≤ y) → ¬ dcell n (pgW σ B) y := fun y hy ⟨i, s, k, h1, h2, h3, h4⟩ => by have := (ok.cells h1).2.2; omega
  refine it_cnt (fun (i : Nat) (A : Int32 → St → Prop) => ∀ τ P', toW σ τ B P' → nG n (pgW σ B) (fun a _ _ => if a < i then nn else 0) (nI nn * fS (pgW σ B) i) P' → A (nI i) τ) n (by omega) ?_ ?_ σ (pgW σ B) toW.rf ((nG.rf ok).cg (by show (0 : Int32) = nI nn * 0; exact Int32.mul_zero.symm) (fun i s k _ _ _ => by rw [if_neg (by omega)]))
  · intro i hi A hA τ P' t g
    unfold m_8_passNights_2
    rw [g0, t.g, g.2.2.2 0 (nd 0 (by omega)) (by omega) (by omega), ok.1.1]
    refine ⟨fun q => absurd q (nle_of hi (by omega)), fun _ => ?_⟩
    rw [tn i (by omega)]
    refine ⟨vin (by omega), fun r3 e3 => ?_⟩
    subst e3
    obtain ⟨cv, cv1, cv2⟩ := ok.cells hi
    obtain ⟨fv, fv2⟩ := ok.fa hi
    have nst : ∀ r, r < 3 → ¬ dcell n (pgW σ B) (1 + 83 * i + r) := fun r hr ⟨i', s, k, h1, h2, h3, h4⟩ => dne h2 (by have := (ok.cells h1).2.2; omega) hr h4.symm
    refine s_8_fallOn (by omega) ?_
    have e3 : pgW τ B (3 + 83 * i) = pgW σ B (3 + 83 * i) := by
      have := g.2.2.2 _ (nst 2 (by omega)) (by omega) (by omega)
      rw [show 1 + 83 * i + 2 = 3 + 83 * i by omega] at this
      rw [t.g]; exact this
    have e4 : pgW τ B 504 = pgW σ B 504 := by rw [t.g]; exact g.2.2.2 504 (nd _ (by omega)) (by omega) (by omega)
    rw [e3, e4, fv, pk_mul]
    have ec : ∀ {τ1 P1 cnt S}, toW σ τ1 B P1 → nG n (pgW σ B) cnt S P1 → τ1.1 (B + 1 + 5 + 3 * i) 0 = nI (cellsN (pgW σ B) i) := fun t1 g1 => by
      rw [gst _ B (by omega) (by omega), t1.g, g1.2.2.2 _ (nst 0 (by omega)) (by omega) (by omega)]
      exact cv
    intro x4 ex4
    subst ex4
    have hfn : fal (pgW σ B) i * nn ≤ 1080 := Nat.le_trans (Nat.mul_le_mul fv2 hn) (by decide)
    refine it_cnt (fun (j : Nat) (A : Int32 → St → Prop) => ∀ τ P', toW σ τ B P' → nG n (pgW σ B) (fun a _ d => if a < i ∨ a = i ∧ d < j then nn else 0) (nI nn * fS (pgW σ B) i + nI (2 * j) * nI (fal (pgW σ B) i * nn)) P' → A (nI j) τ) (cellsN (pgW σ B) i) (by omega) ?_ ?_ τ P' t (g.cg (by rw [show 2 * 0 = 0 from rfl, show nI 0 = 0 from rfl]; grind) (fun a s k _ _ _ => by
      by_cases q : a < i
      · rw [if_pos q, if_pos (Or.inl q)]
      · rw [if_neg q, if_neg (by omega)]))
    · intro j hj A' hA' τ1 P1 t1 g1
      unfold m_8_passNights_29
      rw [ec t1 g1]
      refine ⟨fun q => absurd q (nle_of hj (by omega)), fun _ => ⟨vi3, ?_⟩⟩
      have v0 := g1.val ok hi (s := 0) (by omega) hj (by rw [if_neg (by omega)])
      have v1 := g1.val ok hi (s := 1) (by omega) hj (by rw [if_neg (by omega)])
      have b0 := (ok.dn hi (k := 20 * 0 + j) (by omega)).2
      have b1 := (ok.dn hi (k := 20 * 1 + j) (by omega)).2
      refine s_9_placeOf (s := 0) ?_
      refine s_6_putDirt (d := nv (pgW σ B) (4 + 83 * i + (20 * 0 + j))) (by omega) (by rw [gdi τ1 B (by omega) (by omega), t1.g]; exact v0) (by omega) ?_
      refine s_9_placeOf (s := 1) ?_
      have t2 := tw_di t1 (i := i) (k := 20 * 0 + j) (v := nI (min 99 (nv (pgW σ B) (4 + 83 * i + (20 * 0 + j)) + fal (pgW σ B) i * nn))) (by omega) (by omega)
      refine s_6_putDirt (d := nv (pgW σ B) (4 + 83 * i + (20 * 1 + j))) (by omega) (by rw [gdi _ B (by omega) (by omega), t2.g, upd_n (by omega)]; exact v1) (by omega) ?_
      have t3 := tw_di t2 (i := i) (k := 20 * 1 + j) (v := nI (min 99 (nv (pgW σ B) (4 + 83 * i + (20 * 1 + j)) + fal (pgW σ B) i * nn))) (by omega) (by omega)
      refine ⟨vi3, fun σ10 e10 => ⟨vi1, vi1, fun σ11 e11 x5 e5 => ?_⟩⟩
      rw [tn3, gsum τ1 B (k := 3) (by omega), t1.g] at e10
      have t4 := tw_sum t3 (k := 3) (v := P1 (556 + 3) + (nI (nv (pgW σ B) (4 + 83 * i + (20 * 0 + j)) + fal (pgW σ B) i * nn) - nI (min 99 (nv (pgW σ B) (4 + 83 * i + (20 * 0 + j)) + fal (pgW σ B) i * nn)) + (nI (nv (pgW σ B) (4 + 83 * i + (20 * 1 + j)) + fal (pgW σ B) i * nn) - nI (min 99 (nv (pgW σ B) (4 + 83 * i + (20 * 1 + j)) + fal (pgW σ B) i * nn))))) (by omega)
      rw [← e10] at t4
      rw [tn1, gsum σ10 B (k := 1) (by omega), t4.g, upd_n (by omega), upd_n (by omega), upd_n (by omega)] at e11
      have t5 := tw_sum t4 (k := 1) (v := P1 (556 + 1) + 2 * nI (fal (pgW σ B) i * nn)) (by omega)
      rw [← e11] at t5
      rw [e5, li 1, nI_add]
      refine hA' σ11 _ t5 ?_
      have s1 := g1.step (s := 0) (k := j) (m := nn) (cnt' := fun a b d => if a < i ∨ a = i ∧ (d < j ∨ d = j ∧ b = 0) then nn else 0) (P'' := upd (upd (upd P1 (4 + 83 * i + (20 * 0 + j)) (nI (min 99 (nv (pgW σ B) (4 + 83 * i + (20 * 0 + j)) + fal (pgW σ B) i * nn)))) 559 (P1 559 + (P1 (4 + 83 * i + (20 * 0 + j)) + nI (fal (pgW σ B) i * nn) - nI (min 99 (nv (pgW σ B) (4 + 83 * i + (20 * 0 + j)) + fal (pgW σ B) i * nn))))) 557 (P1 557 + nI (fal (pgW σ B) i * nn))) ok hi (by omega) hj ?_ upd_s ?_ (fun y y1 y2 y3 => ?_) (fun a b d hb q => ?_)
      · have s2 := s1.step (s := 1) (k := j) (m := nn) (cnt' := fun a b d => if a < i ∨ a = i ∧ d < j + 1 then nn else 0) (P'' := upd (upd (upd (upd P1 (4 + 83 * i + (20 * 0 + j)) (nI (min 99 (nv (pgW σ B) (4 + 83 * i + (20 * 0 + j)) + fal (pgW σ B) i * nn)))) (4 + 83 * i + (20 * 1 + j)) (nI (min 99 (nv (pgW σ B) (4 + 83 * i + (20 * 1 + j)) + fal (pgW σ B) i * nn)))) (556 + 3) (P1 (556 + 3) + (nI (nv (pgW σ B) (4 + 83 * i + (20 * 0 + j)) + fal (pgW σ B) i * nn) - nI (min 99 (nv (pgW σ B) (4 + 83 * i + (20 * 0 + j)) + fal (pgW σ B) i * nn)) + (nI (nv (pgW σ B) (4 + 83 * i + (20 * 1 + j)) + fal (pgW σ B) i * nn) - nI (min 99 (nv (pgW σ B) (4 + 83 * i + (20 * 1 + j)) + fal (pgW σ B) i * nn)))))) (556 + 1) (P1 (556 + 1) + 2 * nI (fal (pgW σ B) i * nn))) ok hi (by omega) hj ?_ ?_ ?_ (fun y y1 y2 y3 => ?_) (fun a b d hb q => ?_)
        · refine s2.cg ?_ (fun _ _ _ _ _ _ => rfl)
          rw [show 2 * (j + 1) = 2 * j + 2 by omega, ← nI_add (2 * j) 2, show nI 2 = (2 : Int32) from rfl]
          grind
        · rw [upd_n (by omega), upd_n (by omega), upd_s, if_pos (by omega)]
        · rw [upd_s, upd_s]
          rw [show (556 + 1 : Nat) = 557 from rfl]
          grind
        · rw [upd_n (by omega), upd_s, upd_n (by omega), upd_s, upd_n (k := 557) (by omega), upd_n (k := 559) (by omega), upd_n (by omega), upd_n (k := 556 + 1) (by omega), upd_n (k := 556 + 3) (by omega), upd_s, v0, v1, ← nI_add, ← nI_add]
          rw [show (556 + 3 : Nat) = 559 from rfl]
          grind
        · rw [upd_n (by omega), upd_n (by omega), upd_n (by omega), upd_n (k := 557) (by omega), upd_n (k := 559) (by omega)]
        · by_cases q1 : a < i ∨ a = i ∧ (d < j ∨ d = j ∧ b = 0)
          · rw [if_pos q1, if_pos (by omega)]
          · rw [if_neg q1]
            by_cases q2 : a < i ∨ a = i ∧ d < j + 1
            · exact absurd (show a = i ∧ b = 1 ∧ d = j by omega) q
            · rw [if_neg q2]
      · rw [upd_n (by omega), upd_n (by omega), upd_s, if_pos (by omega)]
      · rw [upd_n (by omega), upd_s, upd_n (k := 557) (by omega), upd_n (k := 559) (by omega), upd_s]
      · rw [upd_n (by omega), upd_n (by omega), upd_n (by omega)]
      · by_cases q1 : a < i ∨ a = i ∧ d < j
        · rw [if_pos q1, if_pos (by omega)]
        · rw [if_neg q1, if_neg (by omega)]
    · intro A' τ1 P1 t1 g1
      unfold m_8_passNights_29
      rw [ec t1 g1]
      refine ⟨fun _ x ex => ?_, fun q => absurd ((lei (by omega) (by omega)).mpr (Nat.le_refl _)) q⟩
      rw [ex, li 1, nI_add]
      refine hA τ1 P1 t1 ⟨fun a s k ha hs hk => ?_, ?_, g1.2.2.1, g1.2.2.2⟩
      · rw [g1.1 a s k ha hs hk]
        congr 3
        show fal (pgW σ B) a * (if a < i ∨ a = i ∧ k < cellsN (pgW σ B) i then nn else 0) = fal (pgW σ B) a * (if a < i + 1 then nn else 0)
        by_cases q : a < i ∨ a = i ∧ k < cellsN (pgW σ B) i
        · rw [if_pos q, if_pos (by omega)]
        · rw [if_neg q, if_neg (fun q2 => q (by
            rcases (by omega : a < i ∨ a = i) with z | z
            · exact Or.inl z
            · subst z; exact Or.inr ⟨rfl, hk⟩))]
      · rw [g1.2.1]
        have : fS (pgW σ B) (i + 1) = fS (pgW σ B) i + nI (2 * cellsN (pgW σ B) i) * nI (fal (pgW σ B) i) := rfl
        rw [this, ← pk_mul (fal (pgW σ B) i) nn]
        grind
  · intro A τ P' t g
    unfold m_8_passNights_2
    rw [g0, t.g, g.2.2.2 0 (nd 0 (by omega)) (by omega) (by omega), ok.1.1]
    refine ⟨fun _ σ1 e1 => ?_, fun q => absurd ((lei (by omega) (by omega)).mpr (Nat.le_refl n)) q⟩
    rw [g563, t.g, g.2.2.2 563 (nd _ (by omega)) (by omega) (by omega)] at e1
    have t1 := tw_n563 t (v := pgW σ B 563 + nI nn)
    rw [← e1] at t1
    exact hQ σ1 P' t1 (g.cg rfl (fun a s k ha _ _ => by rw [if_pos ha]))
-- rain
def rnV (P : Nat → Int32) (i s k : Nat) (pc : Int32) : Int32 := if P (44 + 83 * i + (20 * s + k)) = 0 then P (4 + 83 * i + (20 * s + k)) * pc / 100 else 0
/-- one cell runs down, to the next cell or (the last of v) into the drain -/
def rnS (P : Nat → Int32) (i s v k : Nat) (pc : Int32) : Nat → Int32 :=
  if k + 1 = v then upd (upd P (4 + 83 * i + (20 * s + k)) (P (4 + 83 * i + (20 * s + k)) - rnV P i s k pc)) 560 (P 560 + rnV P i s k pc)
  else upd (upd (upd P (4 + 83 * i + (20 * s + k)) (P (4 + 83 * i + (20 * s + k)) - rnV P i s k pc)) 560 (P 560 + (if P (4 + 83 * i + (20 * s + (k + 1))) + rnV P i s k pc ≤ 99 then 0 else P (4 + 83 * i + (20 * s + (k + 1))) + rnV P i s k pc - 99))) (4 + 83 * i + (20 * s + (k + 1))) (mnI (P (4 + 83 * i + (20 * s + (k + 1))) + rnV P i s k pc) 99)
def rnL (i s v : Nat) (pc : Int32) : Nat → (Nat → Int32) → Nat → Int32
  | 0, P => P
  | k + 1, P => rnL i s v pc k (rnS P i s v k pc)
def rnA (pc : Int32) (P : Nat → Int32) : Nat → Nat → Int32
  | 0 => P
  | i + 1 => rnL i 1 (cellsN P i) pc (cellsN P i) (rnL i 0 (cellsN P i) pc (cellsN P i) (rnA pc P i))
theorem okP.run {c n l i s k q : Nat} {P : Nat → Int32} (ok : okP c n l P) (hi : i < n) (hs : s < 2) (hk : k < 20) (hq : q ≤ 100) : ∃ d r, P (4 + 83 * i + (20 * s + k)) = nI d ∧ d ≤ 99 ∧ rnV P i s k (nI q) = nI r ∧ r ≤ d := by
  obtain ⟨d1, d2⟩ := ok.dn hi (k := 20 * s + k) (by omega)
  refine ⟨nv P (4 + 83 * i + (20 * s + k)), if P (44 + 83 * i + (20 * s + k)) = 0 then nv P (4 + 83 * i + (20 * s + k)) * q / 100 else 0, d1, d2, ?_, ?_⟩
  · unfold rnV
    split
    · rw [d1, pk_mul, show (100 : Int32) = nI 100 from rfl, pk_div (Nat.lt_of_le_of_lt (Nat.mul_le_mul d2 hq) (by decide)) (by decide) (by decide)]
    · rfl
  · split
    · have : nv P (4 + 83 * i + (20 * s + k)) * q ≤ nv P (4 + 83 * i + (20 * s + k)) * 100 := Nat.mul_le_mul_left _ hq
      omega
    · omega
theorem mn99 (d : Nat) (h : d < 1000001) : mnI (nI d) 99 = nI (min 99 d) := minI d h
theorem RN.rain1 {c n l i s v k q : Nat} {P p : Nat → Int32} (h : RN c n l P p) (hi : i < n) (hs : s < 2) (hk : k < v) (hv : v ≤ 20) (hq : q ≤ 100) : RN c n l (rnS P i s v k (nI q)) (rnS p i s v k (nI q)) := by
  have h6 := h.1.1.2.1
  obtain ⟨d, r, h1, h2, h3, h4⟩ := h.1.run hi hs (k := k) (by omega) hq
  have ex : P (4 + 83 * i + (20 * s + k)) = p (4 + 83 * i + (20 * s + k)) := h.2.1.k hi h6 (by omega)
  have ek := h.2.1.k hi h6 (k := 40 + (20 * s + k)) (by omega)
  rw [show 4 + 83 * i + (40 + (20 * s + k)) = 44 + 83 * i + (20 * s + k) by omega] at ek
  have er : rnV P i s k (nI q) = rnV p i s k (nI q) := by unfold rnV; rw [ex, ek]
  have e0 := h.2.1.hi (x := 560) (by omega) (by omega) (by omega)
  unfold rnS
  rw [← er, ← ex, ← e0]
  have R1 : RN c n l (upd P (4 + 83 * i + (20 * s + k)) (P (4 + 83 * i + (20 * s + k)) - rnV P i s k (nI q))) (upd p (4 + 83 * i + (20 * s + k)) (P (4 + 83 * i + (20 * s + k)) - rnV P i s k (nI q))) := by
    rw [h1, h3, pk_sub h4]
    exact h.up (by omega) (by omega) (by omega) (h.1.dirt hi (by omega) (by omega))
  split
  · exact R1.hi (by omega) (by omega) (by omega)
  · obtain ⟨d', r', g1, g2, -, -⟩ := h.1.run hi hs (k := k + 1) (by omega) hq
    rw [← h.2.1.k hi h6 (k := 20 * s + (k + 1)) (by omega)]
    have R2 := R1.hi (x := 560) (v := P 560 + (if P (4 + 83 * i + (20 * s + (k + 1))) + rnV P i s k (nI q) ≤ 99 then 0 else P (4 + 83 * i + (20 * s + (k + 1))) + rnV P i s k (nI q) - 99)) (by omega) (by omega) (by omega)
    refine R2.up (by omega) (by omega) (by omega) ?_
    rw [g1, h3, nI_add, mn99 _ (by omega)]
    rw [g1, h3, nI_add] at R2
    exact R2.1.dirt hi (by omega) (Nat.min_le_left _ _)
theorem rnS_cells {P : Nat → Int32} {i s v k j : Nat} {pc : Int32} (hs : s < 2) (hk : k < v) (hv : v ≤ 20) (hj : j < 6) : cellsN (rnS P i s v k pc) j = cellsN P j := by
  unfold rnS
  split
  · rw [cellsN_upd (by omega), cellsN_upd (dne (r := 0) hs (by omega) (by omega))]
  · rw [cellsN_upd (dne (r := 0) hs (by omega) (by omega)), cellsN_upd (by omega), cellsN_upd (dne (r := 0) hs (by omega) (by omega))]
theorem rnL_cells {i s v j : Nat} {pc : Int32} (hs : s < 2) (hv : v ≤ 20) (hj : j < 6) : ∀ m (P : Nat → Int32), m ≤ v → cellsN (rnL i s v pc m P) j = cellsN P j := by
  intro m
  induction m with
  | zero => intro P _; rfl
  | succ m ih => intro P hm; exact (ih _ (by omega)).trans (rnS_cells hs (by omega) hv hj)
theorem rnA_cells {n : Nat} {pc : Int32} {P : Nat → Int32} (hc : ∀ i, i < n → cellsN P i ≤ 20) : ∀ m, m ≤ n → ∀ j, j < 6 → cellsN (rnA pc P m) j = cellsN P j := by
  intro m
  induction m with
  | zero => intro _ j _; rfl
  | succ m ih =>
    intro hm j hj
    unfold rnA
    rw [rnL_cells (by omega) (hc m (by omega)) hj _ _ (Nat.le_refl _), rnL_cells (by omega) (hc m (by omega)) hj _ _ (Nat.le_refl _)]
    exact ih (by omega) j hj
theorem xm_succ (k : Nat) : nI (k + 1) + (-1) = nI k := i_m1 k
theorem xm_0 : nI 0 + (-1) = (-1 : Int32) := by decide
theorem xm_sub {v : Nat} (h : 1 ≤ v) : nI v - 1 = nI v + (-1) := by
  obtain ⟨k, rfl⟩ : ∃ k, v = k + 1 := ⟨v - 1, by omega⟩
  rw [xm_succ, show (1 : Int32) = nI 1 from rfl, pk_sub (by omega)]
  rfl
theorem s_6_washSide {c n l B i s q : Nat} {base : Int32} {Q : Int32 → St → Prop} {σ0 σ : St} {Pc : Nat → Int32} (ok : okP c n l Pc) (t : toW σ0 σ B Pc) (hi : i < n) (hs : s < 2) (hq : q ≤ 100) (hQ : ∀ τ Pe acc, toW σ0 τ B Pe → okP c n l Pe → Pe 560 = Pc 560 → cellsN Pe = cellsN Pc ∨ True → upd Pe 560 (base + acc) = rnL i s (cellsN Pc i) (nI q) (cellsN Pc i) (upd Pc 560 base) → Q acc τ) : m_6_washSide (B + 1 + 5 + 3 * i) (nI s) (nI q) Q σ := by
  have h6 := ok.1.2.1
  obtain ⟨cv, cv1, cv2⟩ := ok.cells hi
  unfold m_6_washSide
  intro x4 ex
  rw [gst σ B (k := 0) (by omega) (by omega), t.g, show 1 + 83 * i + 0 = 1 + 83 * i from rfl, cv, xm_sub cv1] at ex
  subst ex
  have key := it_lt (F := m_6_washSide_10 (B + 1 + 5 + 3 * i) (nI s) (nI q) Q) (bot := fun _ _ _ => False) (fun (m : Nat) (A : Int32 → Int32 → St → Prop) => ∀ τ Pe acc, m ≤ cellsN Pc i → toW σ0 τ B Pe → okP c n l Pe → Pe 560 = Pc 560 → Pe (1 + 83 * i) = nI (cellsN Pc i) → rnL i s (cellsN Pc i) (nI q) m (upd Pe 560 (base + acc)) = rnL i s (cellsN Pc i) (nI q) (cellsN Pc i) (upd Pc 560 base) → A acc (nI m + (-1)) τ) ?_ (cellsN Pc i) (by omega)
  · refine key σ Pc 0 (Nat.le_refl _) t ok rfl cv (by rw [i0])
  intro m A hA τ Pe acc hm te oke e560 ec hF
  unfold m_6_washSide_10
  rcases Nat.eq_zero_or_pos m with z | z
  · subst z
    rw [xm_0]
    exact ⟨fun _ => hQ τ Pe acc te oke e560 (Or.inr trivial) hF, fun q => absurd (by decide) q⟩
  obtain ⟨k, rfl⟩ : ∃ k, m = k + 1 := ⟨m - 1, by omega⟩
  rw [xm_succ]
  refine ⟨fun q => absurd q (nn0 (by omega)), fun _ => ?_⟩
  refine s_9_placeOf ?_
  rw [tn _ (by omega), gpa τ B (by omega) (by omega), gdi τ B (by omega) (by omega), te.g, te.g]
  refine ⟨vin (by omega), ?_⟩
  obtain ⟨d, r, r1, r2, r3, r4⟩ := oke.run hi hs (k := k) (by omega) hq
  have go : m_6_washSide_49 (B + 1 + 5 + 3 * i) (nI s) (nI q) acc (nI k) (nI (20 * s + k)) A Q (nI r) τ := by
    unfold m_6_washSide_49
    rw [tn _ (by omega), gdi τ B (by omega) (by omega), te.g, r1, pk_sub r4]
    refine ⟨vin (by omega), vin (by omega), fun σ1 e1 => ?_⟩
    have t1 := tw_di te (i := i) (k := 20 * s + k) (v := nI (d - r)) (by omega) (by omega)
    rw [← e1] at t1
    have ok1 : okP c n l (upd Pe (4 + 83 * i + (20 * s + k)) (nI (d - r))) := oke.dirt hi (by omega) (by omega)
    have ec1 : σ1.1 (B + 1 + 5 + 3 * i) 0 = nI (cellsN Pc i) := by
      rw [gst σ1 B (k := 0) (by omega) (by omega), t1.g, upd_n (by omega)]
      exact ec
    rw [ec1, xm_sub cv1]
    have eV : rnV (upd Pe 560 (base + acc)) i s k (nI q) = nI r := by
      rw [← r3]
      unfold rnV
      rw [upd_n (by omega), upd_n (by omega)]
    have eX : upd Pe 560 (base + acc) (4 + 83 * i + (20 * s + k)) = nI d := by rw [upd_n (by omega)]; exact r1
    obtain ⟨k', hk'⟩ : ∃ k', cellsN Pc i = k' + 1 := ⟨cellsN Pc i - 1, by omega⟩
    rw [show nI (cellsN Pc i) + (-1) = nI k' by rw [hk', xm_succ]]
    refine ⟨fun qk => ?_, fun qk => ?_⟩
    · have hne : k ≠ k' := fun e => qk (by rw [e])
      obtain ⟨d', r', g1, g2, -, -⟩ := oke.run hi hs (k := k + 1) (by omega) hq
      rw [li 1, nI_add]
      have eY : upd Pe 560 (base + acc) (4 + 83 * i + (20 * s + (k + 1))) = nI d' := by rw [upd_n (by omega)]; exact g1
      refine s_6_putDirt (d := d') (by omega) (by rw [gdi σ1 B (by omega) (by omega), t1.g, upd_n (by omega), show 20 * s + k + 1 = 20 * s + (k + 1) by omega]; exact g1) (by omega) ?_
      intro x3 e3 x4 e4
      have t2 := tw_di t1 (i := i) (k := 20 * s + k + 1) (v := nI (min 99 (d' + r))) (by omega) (by omega)
      rw [e4]
      have e3' : x3 = acc + (if nI (d' + r) ≤ 99 then 0 else nI (d' + r) - 99) := by
        rw [e3]
        congr 1
        by_cases z : d' + r ≤ 99
        · rw [if_pos (show nI (d' + r) ≤ 99 from (lei (b := 99) (by omega) (by omega)).mpr z), Nat.min_eq_right z, pk_sub (Nat.le_refl _), Nat.sub_self]
          rfl
        · rw [if_neg (show ¬ nI (d' + r) ≤ 99 from fun z2 => z ((lei (b := 99) (by omega) (by omega)).mp z2)), Nat.min_eq_left (by omega)]
          rfl
      rw [e3']
      refine hA k (by omega) _ _ _ (by omega) t2 (ok1.dirt hi (by omega) (Nat.min_le_left _ _)) (by rw [upd_n (by omega), upd_n (by omega)]; exact e560) (by rw [upd_n (by omega), upd_n (by omega)]; exact ec) ?_
      rw [← hF]
      show rnL i s (cellsN Pc i) (nI q) k _ = rnL i s (cellsN Pc i) (nI q) k (rnS (upd Pe 560 (base + acc)) i s (cellsN Pc i) k (nI q))
      congr 1
      unfold rnS
      rw [if_neg (show ¬ k + 1 = cellsN Pc i by omega), eV, eX, eY, nI_add, mn99 _ (by omega), pk_sub r4, upd_s, show 20 * s + k + 1 = 20 * s + (k + 1) by omega]
      rw [upd_comm (x := 560) (y := 4 + 83 * i + (20 * s + k)) (by omega), upd_upd, upd_comm (x := 560) (y := 4 + 83 * i + (20 * s + (k + 1))) (by omega)]
      rw [Int32.add_assoc]
    · have hke : k = k' := (eqI (by omega) (by omega)).mp qk
      subst hke
      intro x3 e3 x4 e4
      rw [e3, e4]
      refine hA k (by omega) _ _ _ (by omega) t1 ok1 (by rw [upd_n (by omega)]; exact e560) (by rw [upd_n (by omega)]; exact ec) ?_
      rw [← hF]
      show rnL i s (cellsN Pc i) (nI q) k _ = rnL i s (cellsN Pc i) (nI q) k (rnS (upd Pe 560 (base + acc)) i s (cellsN Pc i) k (nI q))
      congr 1
      unfold rnS
      rw [if_pos (show k + 1 = cellsN Pc i by omega), eV, eX, pk_sub r4, upd_s]
      rw [upd_comm (x := 560) (y := 4 + 83 * i + (20 * s + k)) (by omega), upd_upd]
      rw [Int32.add_assoc]
  rw [show 44 + 83 * i + (20 * s + k) = 44 + 83 * i + (20 * s + k) from rfl]
  have r3' := r3
  unfold rnV at r3'
  refine ⟨fun z => ⟨vin (by omega), ?_⟩, fun z => ?_⟩
  · rw [if_pos z] at r3'
    rw [r3']
    exact go
  · rw [if_neg z] at r3'
    rw [show (0 : Int32) = nI r from r3']
    exact go
theorem RN.self {c n l : Nat} {P : Nat → Int32} (ok : okP c n l P) : RN c n l P (upd P 555 (if P 562 = 0 then 0 else 1)) :=
  ⟨ok, fun x hx _ => (upd_n hx.2.1).symm, upd_s⟩
theorem okP.rain1 {c n l i s v k q : Nat} {P : Nat → Int32} (ok : okP c n l P) (hi : i < n) (hs : s < 2) (hk : k < v) (hv : v ≤ 20) (hq : q ≤ 100) : okP c n l (rnS P i s v k (nI q)) := ((RN.self ok).rain1 hi hs hk hv hq).1
theorem s_8_washStreets {c n l B q : Nat} {Q : Int32 → St → Prop} {σ : St} (ok : okP c n l (pgW σ B)) (hq : q ≤ 100) (hQ : ∀ τ acc, toW σ τ B (rnA (nI q) (pgW σ B) n) → rnA (nI q) (pgW σ B) n 560 = pgW σ B 560 + acc → Q acc τ) : m_8_washStreets B (nI q) Q σ := by
  have h6 := ok.1.2.1
  have c20 : ∀ i, i < n → cellsN (pgW σ B) i ≤ 20 := fun i hi => (ok.cells hi).2.2
  unfold m_8_washStreets
  refine it_cnt (fun (i : Nat) (A : Int32 → Int32 → St → Prop) => ∀ τ Pe acc, toW σ τ B Pe → okP c n l Pe → Pe 560 = pgW σ B 560 → upd Pe 560 (pgW σ B 560 + acc) = rnA (nI q) (pgW σ B) i → A acc (nI i) τ) n (by omega) ?_ ?_ σ (pgW σ B) 0 toW.rf ok rfl (by rw [i0]; exact upd_self rfl)
  · intro i hi A hA τ Pe acc t oke e560 eF
    unfold m_8_washStreets_4
    rw [g0, t.g, oke.1.1]
    refine ⟨fun q => absurd q (nle_of hi (by omega)), fun _ => ?_⟩
    rw [tn i (by omega)]
    have ce : cellsN Pe i = cellsN (pgW σ B) i := by
      have := rnA_cells (pc := nI q) c20 i (by omega) i (by omega)
      rw [← eF, cellsN_upd (by omega)] at this
      exact this
    refine ⟨vin (by omega), ?_⟩
    refine s_6_washSide (s := 0) (base := pgW σ B 560 + acc) oke t hi (by omega) hq (fun τ1 Pe1 acc1 t1 ok1 f560 _ eF1 => ⟨vin (by omega), ?_⟩)
    have ce1 : cellsN Pe1 i = cellsN (pgW σ B) i := by
      have := rnL_cells (i := i) (s := 0) (v := cellsN Pe i) (j := i) (pc := nI q) (by omega) (by rw [ce]; exact c20 i hi) (by omega) (cellsN Pe i) (upd Pe 560 (pgW σ B 560 + acc)) (Nat.le_refl _)
      rw [← eF1, cellsN_upd (by omega), cellsN_upd (by omega), ce] at this
      exact this
    refine s_6_washSide (s := 1) (base := pgW σ B 560 + acc + acc1) ok1 t1 hi (by omega) hq (fun τ2 Pe2 acc2 t2 ok2 g560 _ eF2 x2 ex2 x3 ex3 => ?_)
    rw [ex2, ex3, li 1, nI_add]
    refine hA τ2 Pe2 _ t2 ok2 (by rw [g560, f560, e560]) ?_
    rw [show pgW σ B 560 + (acc + (acc1 + acc2)) = pgW σ B 560 + acc + acc1 + acc2 by grind, eF2, eF1, eF, ce1, ce]
    rfl
  · intro A τ Pe acc t oke e560 eF
    unfold m_8_washStreets_4
    rw [g0, t.g, oke.1.1]
    refine ⟨fun _ => ⟨vi4, vi4, fun σ1 e1 => ?_⟩, fun q => absurd ((lei (by omega) (by omega)).mpr (Nat.le_refl n)) q⟩
    rw [tn4, gsum τ B (k := 4) (by omega), t.g, show (556 + 4 : Nat) = 560 from rfl, e560] at e1
    have t1 := tw_sum t (k := 4) (v := pgW σ B 560 + acc) (by omega)
    rw [← e1, show (556 + 4 : Nat) = 560 from rfl, eF] at t1
    exact hQ σ1 acc t1 (by rw [← eF, upd_s])
