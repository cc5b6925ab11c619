theorem cmpN (k n : Nat) (hn : n < 1000001) (hk : k < 1000001) : (nI n ≤ nI k) ↔ n ≤ k := lei hn hk
/-- the model's nights, from the page P -/
theorem s_10_nights {c n l nn : Nat} {Q : Int32 → St → Prop} {σ0 : St} {P : Nat → Int32} (ok : okP c n l P) (hP : σ0.1 355 = P) (hn : nn ≤ 30) (hQ : ∀ τ p', modE σ0 τ → nG n P (fun _ _ _ => nn) (nI nn * fS P n) p' → (∀ y, y < 564 → y ≠ 563 → τ.1 355 y = p' y) → τ.1 355 563 = P 563 + nI nn → m_10_onStreets 354 (fun v σ' => Q v σ') τ) : itN (m_10_night_18 354 (nI nn) Q) (fun _ _ => False) FU 0 σ0 := by
  have h6 := ok.1.2.1
  have nd : ∀ y, (y < 4 ∨ 487 ≤ y) → ¬ dcell n P y := fun y hy ⟨i, s, k, h1, h2, h3, h4⟩ => by have := (ok.cells h1).2.2; omega
  refine it_cnt (fun (m : Nat) (A : Int32 → St → Prop) => ∀ τ p', modE σ0 τ → nG n P (fun _ _ _ => m) (nI m * fS P n) p' → (∀ y, y < 564 → y ≠ 563 → τ.1 355 y = p' y) → τ.1 355 563 = P 563 + nI m → A (nI m) τ) nn (by omega) ?_ ?_ σ0 P modE.rf ((nG.rf ok).cg (by show (0 : Int32) = nI 0 * fS P n; exact Int32.zero_mul.symm) (fun _ _ _ _ _ _ => rfl)) (fun y _ _ => by rw [hP]) (by rw [hP]; exact (i0 _).symm)
  · intro m hm A hA τ p' M g e1 e2
    unfold m_10_night_18
    refine ⟨fun q => absurd q (nle_of hm (by omega)), fun _ => ?_⟩
    refine it_cnt (fun (i : Nat) (A : Int32 → St → Prop) => ∀ τ p', modE σ0 τ → nG n P (fun a _ _ => if a < i then m + 1 else m) (nI m * fS P n + fS P i) p' → (∀ y, y < 564 → y ≠ 563 → τ.1 355 y = p' y) → τ.1 355 563 = P 563 + nI m → A (nI i) τ) n (by omega) ?_ ?_ τ p' M (g.cg (by show nI m * fS P n = nI m * fS P n + 0; exact (i0 _).symm) (fun a s k _ _ _ => by rw [if_neg (by omega)])) e1 e2
    · intro i hi A1 hA1 τ1 p1 M1 g1 e1 e2
      unfold m_10_night_25
      rw [tn0, show (354 + 1 : Nat) = 355 from rfl, e1 0 (by omega) (by omega), g1.2.2.2 0 (nd 0 (by omega)) (by omega) (by omega), ok.1.1]
      refine ⟨vq0, fun q => absurd q (nle_of hi (by omega)), fun _ => ?_⟩
      obtain ⟨cv, cv1, cv2⟩ := ok.cells hi
      obtain ⟨fv, fv2⟩ := ok.fa hi
      have nst : ∀ r, r < 3 → ¬ dcell n P (1 + 83 * i + r) := fun r hr ⟨i', s, k, h1, h2, h3, h4⟩ => dne h2 (by have := (ok.cells h1).2.2; omega) hr h4.symm
      unfold m_10_falls
      refine s_10_of (k := 2) (by omega) (by omega) ?_
      have z2 : τ1.1 (354 + 1) (1 + 83 * i + 2) = P (3 + 83 * i) := by
        rw [show (354 + 1 : Nat) = 355 from rfl, e1 _ (by omega) (by omega), g1.2.2.2 _ (nst 2 (by omega)) (by omega) (by omega), show 1 + 83 * i + 2 = 3 + 83 * i by omega]
      have z4 : τ1.1 (354 + 1) 504 = P 504 := by rw [show (354 + 1 : Nat) = 355 from rfl, e1 _ (by omega) (by omega), g1.2.2.2 _ (nd _ (by omega)) (by omega) (by omega)]
      rw [t504, z2, z4, fv]
      refine ⟨v504, fun x2 ex => ?_⟩
      subst ex
      refine it_cnt (fun (j : Nat) (A : Int32 → St → Prop) => ∀ τ p', modE σ0 τ → nG n P (fun a b d => if a < i ∨ a = i ∧ 2 * d + b < j then m + 1 else m) (nI m * fS P n + (fS P i + nI j * nI (fal P i))) p' → (∀ y, y < 564 → y ≠ 563 → τ.1 355 y = p' y) → τ.1 355 563 = P 563 + nI m → A (nI j) τ) (2 * cellsN P i) (by omega) ?_ ?_ τ1 p1 M1 (g1.cg (by rw [show nI 0 = 0 from rfl]; grind) (fun a s k _ _ _ => by
        by_cases q : a < i
        · rw [if_pos q, if_pos (Or.inl q)]
        · rw [if_neg q, if_neg (by omega)])) e1 e2
      · intro j hj A2 hA2 τ2 p2 M2 g2 e1 e2
        unfold m_10_falls_21
        refine s_10_of (k := 0) (by omega) (by omega) ?_
        have zc : τ2.1 (354 + 1) (1 + 83 * i + 0) = nI (cellsN P i) := by
          rw [show (354 + 1 : Nat) = 355 from rfl, e1 _ (by omega) (by omega), g2.2.2.2 _ (nst 0 (by omega)) (by omega) (by omega)]
          exact cv
        rw [zc, mul2]
        refine ⟨fun q => absurd q (nle_of hj (by omega)), fun _ => ?_⟩
        rw [rem2 (by omega), div2 (by omega)]
        refine s_10_dirtOf (by omega) (by omega) ?_
        have hs2 : j % 2 < 2 := Nat.mod_lt _ (by decide)
        have hk2 : j / 2 < cellsN P i := by omega
        have zd := g2.1 i (j % 2) (j / 2) hi hs2 hk2
        have zc0 : (if i < i ∨ i = i ∧ 2 * (j / 2) + j % 2 < j then m + 1 else m) = m := if_neg (by omega)
        have bd := (ok.dn hi (k := 20 * (j % 2) + j / 2) (by omega)).2
        have hfm : fal P i * m ≤ 1080 := Nat.le_trans (Nat.mul_le_mul fv2 (show m ≤ 30 by omega)) (by decide)
        have zd : p2 (4 + 83 * i + (20 * (j % 2) + j / 2)) = nI (min 99 (nv P (4 + 83 * i + (20 * (j % 2) + j / 2)) + fal P i * m)) := by rw [zd]; exact congrArg (fun z => nI (min 99 (nv P (4 + 83 * i + (20 * (j % 2) + j / 2)) + fal P i * z))) zc0
        rw [show (354 + 1 : Nat) = 355 from rfl, e1 _ (by omega) (by omega), zd, nI_add]
        intro x4 ex4
        refine s_10_books (k := 1) (by omega) ?_
        have fin : ∀ v3 : Int32, v3 = nI (min 99 (nv P (4 + 83 * i + (20 * (j % 2) + j / 2)) + fal P i * m) + fal P i) - nI (min 99 (nv P (4 + 83 * i + (20 * (j % 2) + j / 2)) + fal P i * m + fal P i)) → m_10_falls_72 354 (nI i) (nI (fal P i)) (nI j) x4 A2 (fun σ_3 => ∀ x3_5 : Int32, x3_5 = nI i + 1 → A1 x3_5 σ_3) v3 3 354 (wr τ2 (354 + 1) (556 + 1) (τ2.1 (354 + 1) (556 + 1) + nI (fal P i))) := fun v3 hv3 => by
          unfold m_10_falls_72
          refine s_10_books (k := 3) (by omega) ?_
          rw [rem2 (by omega), div2 (by omega)]
          refine s_10_placeOf ?_
          refine s_10_lesser ?_
          rw [li 3, nI_add]
          refine s_10_sets (by omega) (by omega) (fun x3 ex3 => ?_)
          rw [ex3, li 1, nI_add]
          have zmn : mnI x4 99 = nI (min 99 (nv P (4 + 83 * i + (20 * (j % 2) + j / 2)) + fal P i * m + fal P i)) := by
            rw [ex4]
            unfold mnI
            rw [minI _ (by omega)]
            congr 1
            omega
          rw [zmn, show 1 + 83 * i + (3 + (20 * (j % 2) + j / 2)) = 4 + 83 * i + (20 * (j % 2) + j / 2) by omega]
          have w : (wr (wr (wr τ2 (354 + 1) (556 + 1) (τ2.1 (354 + 1) (556 + 1) + nI (fal P i))) (354 + 1) (556 + 3) ((wr τ2 (354 + 1) (556 + 1) (τ2.1 (354 + 1) (556 + 1) + nI (fal P i))).1 (354 + 1) (556 + 3) + v3)) (354 + 1) (4 + 83 * i + (20 * (j % 2) + j / 2)) (nI (min 99 (nv P (4 + 83 * i + (20 * (j % 2) + j / 2)) + fal P i * m + fal P i)))).1 355 = upd (upd (upd (τ2.1 355) 557 (τ2.1 355 557 + nI (fal P i))) 559 (τ2.1 355 559 + v3)) (4 + 83 * i + (20 * (j % 2) + j / 2)) (nI (min 99 (nv P (4 + 83 * i + (20 * (j % 2) + j / 2)) + fal P i * m + fal P i))) := by
            refine wr_at.trans ?_
            rw [wr_at, wr_at, upd_n (by omega)]
          refine hA2 _ (upd (upd (upd p2 557 (p2 557 + nI (fal P i))) 559 (p2 559 + v3)) (4 + 83 * i + (20 * (j % 2) + j / 2)) (nI (min 99 (nv P (4 + 83 * i + (20 * (j % 2) + j / 2)) + fal P i * m + fal P i)))) (((M2.p (by omega)).p (by omega)).p (by omega)) ?_ (fun y y1 y2 => ?_) ?_
          · have st := g2.step (s := j % 2) (k := j / 2) (m := 1) (cnt' := fun a b d => if a < i ∨ a = i ∧ 2 * d + b < j + 1 then m + 1 else m) (P'' := upd (upd (upd p2 557 (p2 557 + nI (fal P i))) 559 (p2 559 + v3)) (4 + 83 * i + (20 * (j % 2) + j / 2)) (nI (min 99 (nv P (4 + 83 * i + (20 * (j % 2) + j / 2)) + fal P i * m + fal P i)))) ok hi hs2 hk2 ?_ ?_ ?_ (fun y y1 y2 y3 => ?_) (fun a b d hb q => ?_)
            · refine st.cg ?_ (fun _ _ _ _ _ _ => rfl)
              rw [Nat.mul_one, ← nI_add j 1, show nI 1 = (1 : Int32) from rfl]
              grind
            · rw [upd_s, if_pos (show i < i ∨ i = i ∧ 2 * (j / 2) + j % 2 < j + 1 by omega), Nat.mul_add, Nat.mul_one, Nat.add_assoc]
            · rw [upd_n (by omega), upd_n (by omega), upd_s, Nat.mul_one]
            · rw [upd_n (by omega), upd_s, upd_s, Nat.mul_one, zd, hv3, nI_add]
            · rw [upd_n y1, upd_n y3, upd_n y2]
            · by_cases q1 : a < i ∨ a = i ∧ 2 * d + b < j
              · rw [if_pos q1, if_pos (by omega)]
              · rw [if_neg q1, if_neg (fun q2 => q (by omega))]
          · show (wr (wr (wr τ2 (354 + 1) (556 + 1) (τ2.1 (354 + 1) (556 + 1) + nI (fal P i))) (354 + 1) (556 + 3) ((wr τ2 (354 + 1) (556 + 1) (τ2.1 (354 + 1) (556 + 1) + nI (fal P i))).1 (354 + 1) (556 + 3) + v3)) (354 + 1) (4 + 83 * i + (20 * (j % 2) + j / 2)) (nI (min 99 (nv P (4 + 83 * i + (20 * (j % 2) + j / 2)) + fal P i * m + fal P i)))).1 355 y = _
            rw [w]
            simp only [rd_upd]
            rw [e1 557 (by omega) (by omega), e1 559 (by omega) (by omega), e1 y y1 y2]
          · rw [w, upd_n (by omega), upd_n (by omega), upd_n (by omega)]
            exact e2
        have ex99 : x4 ≤ 99 ↔ min 99 (nv P (4 + 83 * i + (20 * (j % 2) + j / 2)) + fal P i * m) + fal P i ≤ 99 := by rw [ex4]; exact lei (b := 99) (by omega) (by omega)
        refine ⟨fun q => ?_, fun q => ?_⟩
        · rw [ex99] at q
          refine fin 0 ?_
          rw [pk_sub (by omega), show min 99 (nv P (4 + 83 * i + (20 * (j % 2) + j / 2)) + fal P i * m) + fal P i - min 99 (nv P (4 + 83 * i + (20 * (j % 2) + j / 2)) + fal P i * m + fal P i) = 0 by omega]
          rfl
        · rw [ex99] at q
          refine fin (x4 - 99) ?_
          rw [ex4, show (99 : Int32) = nI 99 from rfl]
          congr 2
          omega
      · intro A2 τ2 p2 M2 g2 e1 e2
        unfold m_10_falls_21
        refine s_10_of (k := 0) (by omega) (by omega) ?_
        have zc : τ2.1 (354 + 1) (1 + 83 * i + 0) = nI (cellsN P i) := by
          rw [show (354 + 1 : Nat) = 355 from rfl, e1 _ (by omega) (by omega), g2.2.2.2 _ (nst 0 (by omega)) (by omega) (by omega)]
          exact cv
        rw [zc, mul2]
        refine ⟨fun _ x ex => ?_, fun q => absurd ((lei (by omega) (by omega)).mpr (Nat.le_refl _)) q⟩
        rw [ex, li 1, nI_add]
        refine hA1 τ2 p2 M2 ⟨fun a s k ha hs hk => ?_, ?_, g2.2.2.1, g2.2.2.2⟩ e1 e2
        · rw [g2.1 a s k ha hs hk]
          congr 3
          show fal P a * (if a < i ∨ a = i ∧ 2 * k + s < 2 * cellsN P i then m + 1 else m) = fal P a * (if a < i + 1 then m + 1 else m)
          by_cases q : a < i ∨ a = i ∧ 2 * k + s < 2 * cellsN P i
          · rw [if_pos q, if_pos (by omega)]
          · rw [if_neg q, if_neg (fun q2 => q (by
              rcases (by omega : a < i ∨ a = i) with z | z
              · exact Or.inl z
              · subst z; exact Or.inr ⟨rfl, by omega⟩))]
        · exact g2.2.1
    · intro A1 τ1 p1 M1 g1 e1 e2
      unfold m_10_night_25
      rw [tn0, show (354 + 1 : Nat) = 355 from rfl, e1 0 (by omega) (by omega), g1.2.2.2 0 (nd 0 (by omega)) (by omega) (by omega), ok.1.1]
      refine ⟨vq0, fun _ => ⟨v563, v563, fun σ1 es x ex => ?_⟩, fun q => absurd ((lei (by omega) (by omega)).mpr (Nat.le_refl n)) q⟩
      rw [t563, e2] at es
      rw [ex, li 1, nI_add]
      have w : σ1.1 355 = upd (τ1.1 355) 563 (P 563 + nI m + 1) := by rw [es]; exact wr_at
      refine hA σ1 p1 (by rw [es]; exact M1.p (by omega)) (g1.cg ?_ (fun a s k ha _ _ => by rw [if_pos ha])) (fun y y1 y2 => by rw [w, upd_n y2]; exact e1 y y1 y2) ?_
      · rw [← nI_add m 1, show nI 1 = (1 : Int32) from rfl]
        grind
      · rw [w, upd_s, ← nI_add m 1, show nI 1 = (1 : Int32) from rfl]
        grind
  · intro A τ p' M g e1 e2
    unfold m_10_night_18
    exact ⟨fun _ => hQ τ p' M g e1 e2, fun q => absurd ((lei (by omega) (by omega)).mpr (Nat.le_refl nn)) q⟩
theorem p_night {c : Nat} {σ : St} {x1 : Int32} {H : Int32 → St → Prop} {K : Int32 → Int32 → St → Prop} (I : Inv c σ) (hH : ∀ v σ1, m_10_night 354 x1 (K v) σ1 → H v σ1) (h : ∀ v τ, Inv (c + 1) τ → K v v τ) : m_9_night 0 x1 H σ := by
  obtain ⟨n, l, ok, e, e5⟩ := id I.1
  have h6 := ok.1.2.1
  have bad : (∀ j, 1 ≤ j → j ≤ 30 → x1 ≠ nI j) → H (-1) σ := fun hq => hH _ _ (by
    unfold m_10_night
    exact s_10_inN (a := 1) (b := 30) (by omega) (by omega) (fun j h1 h2 e => absurd e (hq j h1 h2)) (fun _ => ⟨fun q => absurd rfl q, fun _ => h _ _ (I.mono (by omega))⟩))
  unfold m_9_night
  rcases ix x1 31 with g | ⟨j, rfl, hj, hj2⟩ | ⟨nn, rfl, hn⟩
  · exact ⟨fun _ => bad (fun j _ _ => neg_ne g (by omega)), fun q => absurd (Int32.lt_trans g (by decide)) q⟩
  · exact ⟨fun q => absurd ((ltI (b := 1) (by omega) (by omega)).mp q) (by omega), fun _ => ⟨fun q => absurd ((leI (b := 30) (by omega) (by omega)).mp q) (by omega), fun _ => bad (fun k' h1 h2 e => by rw [eqI (by omega) (by omega)] at e; omega)⟩⟩
  · refine ⟨fun q => bad (fun k' h1 h2 e => by have q := (ltI (b := 1) (by omega) (by omega)).mp q; rw [eqI (by omega) (by omega)] at e; omega), fun q => ⟨fun _ => ?_, fun q => absurd ((leI (b := 30) (by omega) (by omega)).mpr (by omega)) q⟩⟩
    have hn1 : 1 ≤ nn := by
      have := mt (ltI (a := nn) (b := 1) (by omega) (by omega)).mpr q
      omega
    refine rem1 I (fun τ hτ hlow => ?_)
    have pg : pgW τ 7 = pgW σ 7 := pgW_cg (fun a h1 h2 => hlow a (by omega))
    refine s_8_passNights (B := 7) (by rw [pg]; exact ok) (by omega) (fun σ6 P' t6 a6 => ?_)
    rw [pg] at t6 a6
    have hrec := hτ.toW t6
    have R0 := (REL.of ⟨ok, e, e5⟩ : REL c (pgW σ 7) (σ.1 355))
    have ok6 : okP c n l (pgW σ6 7) := by
      rw [t6.1]
      exact (ok.night a6).inert (inert_hi (by omega) (by omega))
    refine s_8_dirtOnStreets ok6 ?_
    refine hH _ _ ?_
    unfold m_10_night
    refine s_10_inN (a := 1) (b := 30) (by omega) (by omega) (fun j h1 h2 e => ⟨fun _ => ?_, fun q => absurd q (by decide)⟩) (fun q => absurd rfl (q nn hn1 (by omega)))
    refine rec1 I hrec (fun σ7 hR7 hfin => ?_)
    have R7 := hR7.at ok
    have ok7 := ok.tr R7.2.1
    refine s_10_nights ok7 rfl (by omega) (fun τ8 p' M g e1 e2 => ?_)
    have Rn := R7.night a6 g rfl e2 e1
    have ok8 := Rn.1.tr Rn.2.1
    refine s_10_onStreets (r0 := 354) ok8 ?_
    have eo := oS_eq Rn.1 Rn.2.1 n (Nat.le_refl n)
    rw [t6.1, eo]
    exact h _ _ (hfin (c + 1) _ (by omega) M ((REL.of Rn).mono (c := c) (by omega)))
