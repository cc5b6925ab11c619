theorem minI (d : Nat) (h : d < 1000001) : (if (99 : Int32) < nI d then 99 else nI d) = nI (min 99 d) := by
  by_cases q : 99 < d
  · rw [if_pos (show (99 : Int32) < nI d from (lti (a := 99) (by omega) (by omega)).mpr q), Nat.min_eq_left (by omega)]
    rfl
  · rw [if_neg (show ¬ (99 : Int32) < nI d from fun q2 => q ((lti (a := 99) (by omega) (by omega)).mp q2)), Nat.min_eq_right (by omega)]
theorem s_6_putDirt {r0 k d x : Nat} {Q : Int32 → St → Prop} {σ : St} (hk : k < 40) (hd : σ.1 (r0 + 1) k = nI d) (hs : d + x < 1000001) (h : Q (nI (d + x) - nI (min 99 (d + x))) (wr σ (r0 + 1) k (nI (min 99 (d + x))))) : m_6_putDirt r0 (nI k) (nI x) Q σ := by
  unfold m_6_putDirt
  rw [tn k (by omega), hd, nI_add]
  refine ⟨vin hk, fun x3 e3 => ⟨vin hk, fun σ2 e2 => ⟨vin hk, ?_⟩⟩⟩
  rw [e3, minI _ hs] at e2
  rw [e3, e2, wr_same]
  exact h
theorem nG.val {c n l i s k : Nat} {P P' : Nat → Int32} {cnt : Nat → Nat → Nat → Nat} {S : Int32} (ok : okP c n l P) (h : nG n P cnt S P') (hi : i < n) (hs : s < 2) (hk : k < cellsN P i) (h0 : cnt i s k = 0) : P' (4 + 83 * i + (20 * s + k)) = nI (nv P (4 + 83 * i + (20 * s + k))) := by
  have := (ok.cells hi).2.2
  rw [h.1 i s k hi hs hk, h0, Nat.mul_zero, Nat.add_zero, Nat.min_eq_right (ok.dn hi (by omega)).2]
theorem s_8_passNights {c n l B nn : Nat} {Q : St → Prop} {σ : St} (ok : okP c n l (pgW σ B)) (hn : nn ≤ 30) (hQ : ∀ τ P', toW σ τ B (upd P' 563 (pgW σ B 563 + nI nn)) → nG n (pgW σ B) (fun _ _ _ => nn) (nI nn * fS (pgW σ B) n) P' → Q τ) : m_8_passNights B (nI nn) Q σ := by
  have h6 := ok.1.2.1
  unfold m_8_passNights
  have nd : ∀ y, (y < 4 ∨ 487 ≤ y) → ¬ dcell n (pgW σ B) y := fun y hy ⟨i, s, k, h1, h2, h3, h4⟩ => by have := (ok.cells h1).2.2; omega
  refine it_cnt (fun (i : Nat) (A : Int32 → St → Prop) => ∀ τ P', toW σ τ B P' → nG n (pgW σ B) (fun a _ _ => if a < i then nn else 0) (nI nn * fS (pgW σ B) i) P' → A (nI i) τ) n (by omega) ?_ ?_ σ (pgW σ B) toW.rf ((nG.rf ok).cg (by show (0 : Int32) = nI nn * 0; exact Int32.mul_zero.symm) (fun i s k _ _ _ => by rw [if_neg (by omega)]))
  · intro i hi A hA τ P' t g
    unfold m_8_passNights_2
    rw [g0, t.g, g.2.2.2 0 (nd 0 (by omega)) (by omega) (by omega), ok.1.1]
    refine ⟨fun q => absurd q (nle_of hi (by omega)), fun _ => ?_⟩
    rw [tn i (by omega)]
    refine ⟨vin (by omega), fun r3 e3 => ?_⟩
    subst e3
    obtain ⟨cv, cv1, cv2⟩ := ok.cells hi
    obtain ⟨fv, fv2⟩ := ok.fa hi
    have nst : ∀ r, r < 3 → ¬ dcell n (pgW σ B) (1 + 83 * i + r) := fun r hr ⟨i', s, k, h1, h2, h3, h4⟩ => dne h2 (by have := (ok.cells h1).2.2; omega) hr h4.symm
    refine s_8_fallOn (by omega) ?_
    have e3 : pgW τ B (3 + 83 * i) = pgW σ B (3 + 83 * i) := by
      have := g.2.2.2 _ (nst 2 (by omega)) (by omega) (by omega)
      rw [show 1 + 83 * i + 2 = 3 + 83 * i by omega] at this
      rw [t.g]; exact this
    have e4 : pgW τ B 504 = pgW σ B 504 := by rw [t.g]; exact g.2.2.2 504 (nd _ (by omega)) (by omega) (by omega)
    rw [e3, e4, fv, pk_mul]
    have ec : ∀ {τ1 P1 cnt S}, toW σ τ1 B P1 → nG n (pgW σ B) cnt S P1 → τ1.1 (B + 1 + 5 + 3 * i) 0 = nI (cellsN (pgW σ B) i) := fun t1 g1 => by
      rw [gst _ B (by omega) (by omega), t1.g, g1.2.2.2 _ (nst 0 (by omega)) (by omega) (by omega)]
      exact cv
    intro x4 ex4
    subst ex4
    have hfn : fal (pgW σ B) i * nn ≤ 1080 := Nat.le_trans (Nat.mul_le_mul fv2 hn) (by decide)
    refine it_cnt (fun (j : Nat) (A : Int32 → St → Prop) => ∀ τ P', toW σ τ B P' → nG n (pgW σ B) (fun a _ d => if a < i ∨ a = i ∧ d < j then nn else 0) (nI nn * fS (pgW σ B) i + nI (2 * j) * nI (fal (pgW σ B) i * nn)) P' → A (nI j) τ) (cellsN (pgW σ B) i) (by omega) ?_ ?_ τ P' t (g.cg (by rw [show 2 * 0 = 0 from rfl, show nI 0 = 0 from rfl]; grind) (fun a s k _ _ _ => by
      by_cases q : a < i
      · rw [if_pos q, if_pos (Or.inl q)]
      · rw [if_neg q, if_neg (by omega)]))
    · intro j hj A' hA' τ1 P1 t1 g1
      unfold m_8_passNights_29
      rw [ec t1 g1]
      refine ⟨fun q => absurd q (nle_of hj (by omega)), fun _ => ⟨vi3, ?_⟩⟩
      have v0 := g1.val ok hi (s := 0) (by omega) hj (by rw [if_neg (by omega)])
      have v1 := g1.val ok hi (s := 1) (by omega) hj (by rw [if_neg (by omega)])
      have b0 := (ok.dn hi (k := 20 * 0 + j) (by omega)).2
      have b1 := (ok.dn hi (k := 20 * 1 + j) (by omega)).2
      refine s_9_placeOf (s := 0) ?_
      refine s_6_putDirt (d := nv (pgW σ B) (4 + 83 * i + (20 * 0 + j))) (by omega) (by rw [gdi τ1 B (by omega) (by omega), t1.g]; exact v0) (by omega) ?_
      refine s_9_placeOf (s := 1) ?_
      have t2 := tw_di t1 (i := i) (k := 20 * 0 + j) (v := nI (min 99 (nv (pgW σ B) (4 + 83 * i + (20 * 0 + j)) + fal (pgW σ B) i * nn))) (by omega) (by omega)
      refine s_6_putDirt (d := nv (pgW σ B) (4 + 83 * i + (20 * 1 + j))) (by omega) (by rw [gdi _ B (by omega) (by omega), t2.g, upd_n (by omega)]; exact v1) (by omega) ?_
      have t3 := tw_di t2 (i := i) (k := 20 * 1 + j) (v := nI (min 99 (nv (pgW σ B) (4 + 83 * i + (20 * 1 + j)) + fal (pgW σ B) i * nn))) (by omega) (by omega)
      refine ⟨vi3, fun σ10 e10 => ⟨vi1, vi1, fun σ11 e11 x5 e5 => ?_⟩⟩
      rw [tn3, gsum τ1 B (k := 3) (by omega), t1.g] at e10
      have t4 := tw_sum t3 (k := 3) (v := P1 (556 + 3) + (nI (nv (pgW σ B) (4 + 83 * i + (20 * 0 + j)) + fal (pgW σ B) i * nn) - nI (min 99 (nv (pgW σ B) (4 + 83 * i + (20 * 0 + j)) + fal (pgW σ B) i * nn)) + (nI (nv (pgW σ B) (4 + 83 * i + (20 * 1 + j)) + fal (pgW σ B) i * nn) - nI (min 99 (nv (pgW σ B) (4 + 83 * i + (20 * 1 + j)) + fal (pgW σ B) i * nn))))) (by omega)
      rw [← e10] at t4
      rw [tn1, gsum σ10 B (k := 1) (by omega), t4.g, upd_n (by omega), upd_n (by omega), upd_n (by omega)] at e11
      have t5 := tw_sum t4 (k := 1) (v := P1 (556 + 1) + 2 * nI (fal (pgW σ B) i * nn)) (by omega)
      rw [← e11] at t5
      rw [e5, li 1, nI_add]
      refine hA' σ11 _ t5 ?_
      have s1 := g1.step (s := 0) (k := j) (m := nn) (cnt' := fun a b d => if a < i ∨ a = i ∧ (d < j ∨ d = j ∧ b = 0) then nn else 0) (P'' := upd (upd (upd P1 (4 + 83 * i + (20 * 0 + j)) (nI (min 99 (nv (pgW σ B) (4 + 83 * i + (20 * 0 + j)) + fal (pgW σ B) i * nn)))) 559 (P1 559 + (P1 (4 + 83 * i + (20 * 0 + j)) + nI (fal (pgW σ B) i * nn) - nI (min 99 (nv (pgW σ B) (4 + 83 * i + (20 * 0 + j)) + fal (pgW σ B) i * nn))))) 557 (P1 557 + nI (fal (pgW σ B) i * nn))) ok hi (by omega) hj ?_ upd_s ?_ (fun y y1 y2 y3 => ?_) (fun a b d hb q => ?_)
      · have s2 := s1.step (s := 1) (k := j) (m := nn) (cnt' := fun a b d => if a < i ∨ a = i ∧ d < j + 1 then nn else 0) (P'' := upd (upd (upd (upd P1 (4 + 83 * i + (20 * 0 + j)) (nI (min 99 (nv (pgW σ B) (4 + 83 * i + (20 * 0 + j)) + fal (pgW σ B) i * nn)))) (4 + 83 * i + (20 * 1 + j)) (nI (min 99 (nv (pgW σ B) (4 + 83 * i + (20 * 1 + j)) + fal (pgW σ B) i * nn)))) (556 + 3) (P1 (556 + 3) + (nI (nv (pgW σ B) (4 + 83 * i + (20 * 0 + j)) + fal (pgW σ B) i * nn) - nI (min 99 (nv (pgW σ B) (4 + 83 * i + (20 * 0 + j)) + fal (pgW σ B) i * nn)) + (nI (nv (pgW σ B) (4 + 83 * i + (20 * 1 + j)) + fal (pgW σ B) i * nn) - nI (min 99 (nv (pgW σ B) (4 + 83 * i + (20 * 1 + j)) + fal (pgW σ B) i * nn)))))) (556 + 1) (P1 (556 + 1) + 2 * nI (fal (pgW σ B) i * nn))) ok hi (by omega) hj ?_ ?_ ?_ (fun y y1 y2 y3 => ?_) (fun a b d hb q => ?_)
        · refine s2.cg ?_ (fun _ _ _ _ _ _ => rfl)
          rw [show 2 * (j + 1) = 2 * j + 2 by omega, ← nI_add (2 * j) 2, show nI 2 = (2 : Int32) from rfl]
          grind
        · rw [upd_n (by omega), upd_n (by omega), upd_s, if_pos (by omega)]
        · rw [upd_s, upd_s]
          rw [show (556 + 1 : Nat) = 557 from rfl]
          grind
        · rw [upd_n (by omega), upd_s, upd_n (by omega), upd_s, upd_n (k := 557) (by omega), upd_n (k := 559) (by omega), upd_n (by omega), upd_n (k := 556 + 1) (by omega), upd_n (k := 556 + 3) (by omega), upd_s, v0, v1, ← nI_add, ← nI_add]
          rw [show (556 + 3 : Nat) = 559 from rfl]
          grind
        · rw [upd_n (by omega), upd_n (by omega), upd_n (by omega), upd_n (k := 557) (by omega), upd_n (k := 559) (by omega)]
        · by_cases q1 : a < i ∨ a = i ∧ (d < j ∨ d = j ∧ b = 0)
          · rw [if_pos q1, if_pos (by omega)]
          · rw [if_neg q1]
            by_cases q2 : a < i ∨ a = i ∧ d < j + 1
            · exact absurd (show a = i ∧ b = 1 ∧ d = j by omega) q
            · rw [if_neg q2]
      · rw [upd_n (by omega), upd_n (by omega), upd_s, if_pos (by omega)]
      · rw [upd_n (by omega), upd_s, upd_n (k := 557) (by omega), upd_n (k := 559) (by omega), upd_s]
      · rw [upd_n (by omega), upd_n (by omega), upd_n (by omega)]
      · by_cases q1 : a < i ∨ a = i ∧ d < j
        · rw [if_pos q1, if_pos (by omega)]
        · rw [if_neg q1, if_neg (by omega)]
    · intro A' τ1 P1 t1 g1
      unfold m_8_passNights_29
      rw [ec t1 g1]
      refine ⟨fun _ x ex => ?_, fun q => absurd ((lei (by omega) (by omega)).mpr (Nat.le_refl _)) q⟩
      rw [ex, li 1, nI_add]
      refine hA τ1 P1 t1 ⟨fun a s k ha hs hk => ?_, ?_, g1.2.2.1, g1.2.2.2⟩
      · rw [g1.1 a s k ha hs hk]
        congr 3
        show fal (pgW σ B) a * (if a < i ∨ a = i ∧ k < cellsN (pgW σ B) i then nn else 0) = fal (pgW σ B) a * (if a < i + 1 then nn else 0)
        by_cases q : a < i ∨ a = i ∧ k < cellsN (pgW σ B) i
        · rw [if_pos q, if_pos (by omega)]
        · rw [if_neg q, if_neg (fun q2 => q (by
            rcases (by omega : a < i ∨ a = i) with z | z
            · exact Or.inl z
            · subst z; exact Or.inr ⟨rfl, hk⟩))]
      · rw [g1.2.1]
        have : fS (pgW σ B) (i + 1) = fS (pgW σ B) i + nI (2 * cellsN (pgW σ B) i) * nI (fal (pgW σ B) i) := rfl
        rw [this, ← pk_mul (fal (pgW σ B) i) nn]
        grind
  · intro A τ P' t g
    unfold m_8_passNights_2
    rw [g0, t.g, g.2.2.2 0 (nd 0 (by omega)) (by omega) (by omega), ok.1.1]
    refine ⟨fun _ σ1 e1 => ?_, fun q => absurd ((lei (by omega) (by omega)).mpr (Nat.le_refl n)) q⟩
    rw [g563, t.g, g.2.2.2 563 (nd _ (by omega)) (by omega) (by omega)] at e1
    have t1 := tw_n563 t (v := pgW σ B 563 + nI nn)
    rw [← e1] at t1
    exact hQ σ1 P' t1 (g.cg rfl (fun a s k ha _ _ => by rw [if_pos ha]))
