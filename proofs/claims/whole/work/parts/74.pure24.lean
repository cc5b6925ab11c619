theorem RN.self {c n l : Nat} {P : Nat → Int32} (ok : okP c n l P) : RN c n l P (upd P 555 (if P 562 = 0 then 0 else 1)) :=
  ⟨ok, fun x hx _ => (upd_n hx.2.1).symm, upd_s⟩
theorem okP.rain1 {c n l i s v k q : Nat} {P : Nat → Int32} (ok : okP c n l P) (hi : i < n) (hs : s < 2) (hk : k < v) (hv : v ≤ 20) (hq : q ≤ 100) : okP c n l (rnS P i s v k (nI q)) := ((RN.self ok).rain1 hi hs hk hv hq).1
theorem s_8_washStreets {c n l B q : Nat} {Q : Int32 → St → Prop} {σ : St} (ok : okP c n l (pgW σ B)) (hq : q ≤ 100) (hQ : ∀ τ acc, toW σ τ B (rnA (nI q) (pgW σ B) n) → rnA (nI q) (pgW σ B) n 560 = pgW σ B 560 + acc → Q acc τ) : m_8_washStreets B (nI q) Q σ := by
  have h6 := ok.1.2.1
  have c20 : ∀ i, i < n → cellsN (pgW σ B) i ≤ 20 := fun i hi => (ok.cells hi).2.2
  unfold m_8_washStreets
  refine it_cnt (fun (i : Nat) (A : Int32 → Int32 → St → Prop) => ∀ τ Pe acc, toW σ τ B Pe → okP c n l Pe → Pe 560 = pgW σ B 560 → upd Pe 560 (pgW σ B 560 + acc) = rnA (nI q) (pgW σ B) i → A acc (nI i) τ) n (by omega) ?_ ?_ σ (pgW σ B) 0 toW.rf ok rfl (by rw [i0]; exact upd_self rfl)
  · intro i hi A hA τ Pe acc t oke e560 eF
    unfold m_8_washStreets_4
    rw [g0, t.g, oke.1.1]
    refine ⟨fun q => absurd q (nle_of hi (by omega)), fun _ => ?_⟩
    rw [tn i (by omega)]
    have ce : cellsN Pe i = cellsN (pgW σ B) i := by
      have := rnA_cells (pc := nI q) c20 i (by omega) i (by omega)
      rw [← eF, cellsN_upd (by omega)] at this
      exact this
    refine ⟨vin (by omega), ?_⟩
    refine s_6_washSide (s := 0) (base := pgW σ B 560 + acc) oke t hi (by omega) hq (fun τ1 Pe1 acc1 t1 ok1 f560 _ eF1 => ⟨vin (by omega), ?_⟩)
    have ce1 : cellsN Pe1 i = cellsN (pgW σ B) i := by
      have := rnL_cells (i := i) (s := 0) (v := cellsN Pe i) (j := i) (pc := nI q) (by omega) (by rw [ce]; exact c20 i hi) (by omega) (cellsN Pe i) (upd Pe 560 (pgW σ B 560 + acc)) (Nat.le_refl _)
      rw [← eF1, cellsN_upd (by omega), cellsN_upd (by omega), ce] at this
      exact this
    refine s_6_washSide (s := 1) (base := pgW σ B 560 + acc + acc1) ok1 t1 hi (by omega) hq (fun τ2 Pe2 acc2 t2 ok2 g560 _ eF2 x2 ex2 x3 ex3 => ?_)
    rw [ex2, ex3, li 1, nI_add]
    refine hA τ2 Pe2 _ t2 ok2 (by rw [g560, f560, e560]) ?_
    rw [show pgW σ B 560 + (acc + (acc1 + acc2)) = pgW σ B 560 + acc + acc1 + acc2 by grind, eF2, eF1, eF, ce1, ce]
    rfl
  · intro A τ Pe acc t oke e560 eF
    unfold m_8_washStreets_4
    rw [g0, t.g, oke.1.1]
    refine ⟨fun _ => ⟨vi4, vi4, fun σ1 e1 => ?_⟩, fun q => absurd ((lei (by omega) (by omega)).mpr (Nat.le_refl n)) q⟩
    rw [tn4, gsum τ B (k := 4) (by omega), t.g, show (556 + 4 : Nat) = 560 from rfl, e560] at e1
    have t1 := tw_sum t (k := 4) (v := pgW σ B 560 + acc) (by omega)
    rw [← e1, show (556 + 4 : Nat) = 560 from rfl, eF] at t1
    exact hQ σ1 acc t1 (by rw [← eF, upd_s])
theorem s_10_runs {c n l i s q : Nat} {Q : St → Prop} {σ0 σ : St} (ok : okP c n l (σ.1 355)) (M : modE σ0 σ) (hi : i < n) (hs : s < 2) (hq : q ≤ 100) (hQ : ∀ τ, modE σ0 τ → τ.1 355 = rnL i s (cellsN (σ.1 355) i) (nI q) (cellsN (σ.1 355) i) (σ.1 355) → okP c n l (τ.1 355) → Q τ) : m_10_runs 354 (nI i) (nI s) (nI q) Q σ := by
  have h6 := ok.1.2.1
  obtain ⟨cv, cv1, cv2⟩ := ok.cells hi
  unfold m_10_runs
  refine s_10_of (k := 0) (by omega) (by omega) (fun x4 ex => ?_)
  have zc : σ.1 (354 + 1) (1 + 83 * i + 0) = nI (cellsN (σ.1 355) i) := cv
  obtain ⟨k', hk'⟩ : ∃ k', cellsN (σ.1 355) i = k' + 1 := ⟨cellsN (σ.1 355) i - 1, by omega⟩
  rw [zc, xm_sub cv1] at ex
  subst ex
  have key := it_lt (F := m_10_runs_14 354 (nI i) (nI s) (nI q) (nI (cellsN (σ.1 355) i) + (-1)) Q) (bot := fun _ _ => False) (fun (m : Nat) (A : Int32 → St → Prop) => ∀ τ, m ≤ cellsN (σ.1 355) i → modE σ0 τ → okP c n l (τ.1 355) → rnL i s (cellsN (σ.1 355) i) (nI q) m (τ.1 355) = rnL i s (cellsN (σ.1 355) i) (nI q) (cellsN (σ.1 355) i) (σ.1 355) → A (nI m + (-1)) τ) ?_ (cellsN (σ.1 355) i) (by omega)
  · exact key σ (Nat.le_refl _) M ok rfl
  intro m A hA τ hm Me oke hF
  unfold m_10_runs_14
  rcases Nat.eq_zero_or_pos m with z | z
  · subst z
    rw [xm_0]
    exact ⟨fun _ => hQ τ Me hF oke, fun q => absurd (by decide) q⟩
  obtain ⟨k, rfl⟩ : ∃ k, m = k + 1 := ⟨m - 1, by omega⟩
  rw [xm_succ]
  refine ⟨fun q => absurd q (nn0 (by omega)), fun _ => ?_⟩
  obtain ⟨d, r, r1, r2, r3, r4⟩ := oke.run hi hs (k := k) (by omega) hq
  refine s_10_isParked (by omega) (by omega) (oke.2.2.1 i (20 * s + k) hi (by omega)).2 ?_
  have go : m_10_runs_47 354 (nI i) (nI s) (nI q) (nI (cellsN (σ.1 355) i) + (-1)) (nI k) A Q (nI r) τ := by
    unfold m_10_runs_47
    refine s_10_placeOf ?_
    refine s_10_dirtOf (by omega) (by omega) ?_
    rw [show (354 + 1 : Nat) = 355 from rfl, r1, li 3, nI_add, pk_sub r4]
    refine s_10_sets (by omega) (by omega) ?_
    rw [show 1 + 83 * i + (3 + (20 * s + k)) = 4 + 83 * i + (20 * s + k) by omega, hk', xm_succ]
    have w1 : (wr τ (354 + 1) (4 + 83 * i + (20 * s + k)) (nI (d - r))).1 (354 + 1) = upd (τ.1 355) (4 + 83 * i + (20 * s + k)) (nI (d - r)) := wr_at
    have M1 : modE σ0 (wr τ (354 + 1) (4 + 83 * i + (20 * s + k)) (nI (d - r))) := Me.p (by omega)
    refine ⟨fun qk => ?_, fun qk => ?_⟩
    · have hne : k ≠ k' := fun e => qk (by rw [e])
      obtain ⟨d', r', g1, g2, -, -⟩ := oke.run hi hs (k := k + 1) (by omega) hq
      rw [li 1, nI_add]
      refine s_10_dirtOf (by omega) (by omega) ?_
      rw [w1, upd_n (by omega), g1, nI_add]
      have fin : ∀ b : Int32, b = (if nI (d' + r) ≤ 99 then 0 else nI (d' + r) - 99) → m_10_runs_121 354 (nI i) (nI s) (nI q) (nI k') (nI k) (nI (d' + r)) A Q b 4 354 (wr τ (354 + 1) (4 + 83 * i + (20 * s + k)) (nI (d - r))) := fun b hb => by
        unfold m_10_runs_121
        refine s_10_books (k := 4) (by omega) ?_
        refine ⟨fun z => absurd ((lei (by omega) (by omega)).mp z) (by omega), fun _ => ?_⟩
        rw [li 1, nI_add]
        refine s_10_placeOf ?_
        refine s_10_lesser ?_
        rw [li 3, nI_add]
        refine s_10_sets (by omega) (by omega) (fun x5 ex5 => ?_)
        rw [ex5, show 1 + 83 * i + (3 + (20 * s + (k + 1))) = 4 + 83 * i + (20 * s + (k + 1)) by omega]
        have w3 : (wr (wr (wr τ (354 + 1) (4 + 83 * i + (20 * s + k)) (nI (d - r))) (354 + 1) (556 + 4) ((wr τ (354 + 1) (4 + 83 * i + (20 * s + k)) (nI (d - r))).1 (354 + 1) (556 + 4) + b)) (354 + 1) (4 + 83 * i + (20 * s + (k + 1))) (mnI (nI (d' + r)) 99)).1 355 = rnS (τ.1 355) i s (k' + 1) k (nI q) := by
          refine wr_at.trans ?_
          rw [wr_at, w1, upd_n (by omega), hb]
          unfold rnS
          rw [if_neg (show ¬ k + 1 = k' + 1 by omega), r1, r3, g1, nI_add, pk_sub r4]
        refine hA k (by omega) _ (by omega) ((M1.p (by omega)).p (by omega)) (by rw [w3]; exact oke.rain1 hi hs (by omega) (by omega) hq) ?_
        rw [← hF, w3, hk']
        rfl
      unfold m_10_runs_101
      refine ⟨fun z => fin 0 (by rw [if_pos z]), fun z => fin _ (by rw [if_neg z])⟩
    · have hke : k = k' := (eqI (by omega) (by omega)).mp qk
      subst hke
      have fin : ∀ b : Int32, b = nI r → m_10_runs_121 354 (nI i) (nI s) (nI q) (nI k) (nI k) (99 + nI r) A Q b 4 354 (wr τ (354 + 1) (4 + 83 * i + (20 * s + k)) (nI (d - r))) := fun b hb => by
        unfold m_10_runs_121
        refine s_10_books (k := 4) (by omega) ?_
        refine ⟨fun _ x5 ex5 => ?_, fun z => absurd ((lei (by omega) (by omega)).mpr (Nat.le_refl k)) z⟩
        rw [ex5]
        have w3 : (wr (wr τ (354 + 1) (4 + 83 * i + (20 * s + k)) (nI (d - r))) (354 + 1) (556 + 4) ((wr τ (354 + 1) (4 + 83 * i + (20 * s + k)) (nI (d - r))).1 (354 + 1) (556 + 4) + b)).1 355 = rnS (τ.1 355) i s (k + 1) k (nI q) := by
          refine wr_at.trans ?_
          rw [w1, upd_n (by omega), hb]
          unfold rnS
          rw [if_pos rfl, r1, r3, pk_sub r4]
        refine hA k (by omega) _ (by omega) (M1.p (by omega)) (by rw [w3]; exact oke.rain1 hi hs (by omega) (by omega) hq) ?_
        rw [← hF, w3, hk']
        rfl
      unfold m_10_runs_101
      refine ⟨fun z => fin 0 ?_, fun z => fin _ ?_⟩
      · have : 99 + r ≤ 99 := by
          rw [show (99 : Int32) + nI r = nI (99 + r) from by rw [li 99, nI_add]] at z
          exact (lei (b := 99) (by omega) (by omega)).mp z
        rw [show r = 0 by omega]
        rfl
      · rw [show (99 : Int32) + nI r = nI (99 + r) from by rw [li 99, nI_add], show (99 : Int32) = nI 99 from rfl, pk_sub (by omega), show 99 + r - 99 = r by omega]
  have r3' := r3
  unfold rnV at r3'
  refine ⟨fun z => ?_, fun z => ?_⟩
  · have z : τ.1 355 (44 + 83 * i + (20 * s + k)) = 0 := z
    refine s_10_dirtOf (by omega) (by omega) ?_
    rw [if_pos z] at r3'
    rw [show (354 + 1 : Nat) = 355 from rfl, r3']
    exact go
  · have z : ¬ τ.1 355 (44 + 83 * i + (20 * s + k)) = 0 := z
    rw [if_neg z] at r3'
    rw [show (0 : Int32) = nI r from r3']
    exact go
theorem p_rain {c : Nat} {σ : St} {x1 : Int32} {H : Int32 → St → Prop} {K : Int32 → Int32 → St → Prop} (I : Inv c σ) (hH : ∀ v σ1, m_10_rain 354 x1 (K v) σ1 → H v σ1) (h : ∀ v τ, Inv (c + 1) τ → K v v τ) : m_9_rain 0 x1 H σ := by
  obtain ⟨n, l, ok, e, e5⟩ := id I.1
  have h6 := ok.1.2.1
  have bad : (∀ j, 1 ≤ j → j ≤ 100 → x1 ≠ nI j) → H (-1) σ := fun hq => hH _ _ (by
    unfold m_10_rain
    exact s_10_inN (a := 1) (b := 100) (by omega) (by omega) (fun j h1 h2 e => absurd e (hq j h1 h2)) (fun _ => ⟨fun q => absurd rfl q, fun _ => h _ _ (I.mono (by omega))⟩))
  unfold m_9_rain
  rcases ix x1 101 with g | ⟨j, rfl, hj, hj2⟩ | ⟨nn, rfl, hn⟩
  · exact ⟨fun _ => bad (fun j _ _ => neg_ne g (by omega)), fun q => absurd (Int32.lt_trans g (by decide)) q⟩
  · exact ⟨fun q => absurd ((ltI (b := 1) (by omega) (by omega)).mp q) (by omega), fun _ => ⟨fun q => absurd ((leI (b := 100) (by omega) (by omega)).mp q) (by omega), fun _ => bad (fun k' h1 h2 e => by rw [eqI (by omega) (by omega)] at e; omega)⟩⟩
  · refine ⟨fun q => bad (fun k' h1 h2 e => by have q := (ltI (b := 1) (by omega) (by omega)).mp q; rw [eqI (by omega) (by omega)] at e; omega), fun q => ⟨fun _ => ?_, fun q => absurd ((leI (b := 100) (by omega) (by omega)).mpr (by omega)) q⟩⟩
    have hn1 : 1 ≤ nn := by
      have := mt (ltI (a := nn) (b := 1) (by omega) (by omega)).mpr q
      omega
    refine rem1 I (fun τ hτ hlow => ?_)
    have pg : pgW τ 7 = pgW σ 7 := pgW_cg (fun a h1 h2 => hlow a (by omega))
    refine s_8_washStreets (B := 7) (q := nn) (by rw [pg]; exact ok) (by omega) (fun σ6 acc t6 a6 => ?_)
    rw [pg] at t6 a6
    have hrec := hτ.toW t6
    refine hH _ _ ?_
    unfold m_10_rain
    refine s_10_inN (a := 1) (b := 100) (by omega) (by omega) (fun j h1 h2 e => ⟨fun _ => ?_, fun q => absurd q (by decide)⟩) (fun q => absurd rfl (q nn hn1 (by omega)))
    refine rec1 I hrec (fun σ7 hR7 hfin => ?_)
    have R7 := hR7.at ok
    have ok7 := ok.tr R7.2.1
    refine ⟨vq (n := 560) (by decide), fun x2 ex => ?_⟩
    have e560 : x2 = σ7.1 355 560 := ex
    have c20 : ∀ i, i < n → cellsN (σ7.1 355) i ≤ 20 := fun i hi => (ok7.cells hi).2.2
    refine it_cnt (fun (i : Nat) (A : Int32 → St → Prop) => ∀ τ, modE σ7 τ → okP c n l (τ.1 355) → τ.1 355 = rnA (nI nn) (σ7.1 355) i → A (nI i) τ) n (by omega) ?_ ?_ σ7 modE.rf ok7 rfl
    · intro i hi A hA τ M oke eF
      unfold m_10_rain_27
      rw [tn0, show (354 + 1 : Nat) = 355 from rfl, oke.1.1]
      refine ⟨vq0, fun q => absurd q (nle_of hi (by omega)), fun _ => ?_⟩
      have ce : cellsN (τ.1 355) i = cellsN (σ7.1 355) i := by
        rw [eF]
        exact rnA_cells c20 i (by omega) i (by omega)
      refine s_10_runs (s := 0) oke M hi (by omega) (by omega) (fun τ1 M1 f1 ok1 => ?_)
      have ce1 : cellsN (τ1.1 355) i = cellsN (σ7.1 355) i := by
        rw [f1, rnL_cells (by omega) (by rw [ce]; exact c20 i hi) (by omega) _ _ (Nat.le_refl _)]
        exact ce
      refine s_10_runs (s := 1) ok1 M1 hi (by omega) (by omega) (fun τ2 M2 f2 ok2 x3 ex3 => ?_)
      rw [ex3, li 1, nI_add]
      refine hA τ2 M2 ok2 ?_
      rw [f2, ce1, f1, ce, eF]
      rfl
    · intro A τ M oke eF
      unfold m_10_rain_27
      rw [tn0, show (354 + 1 : Nat) = 355 from rfl, oke.1.1]
      refine ⟨vq0, fun _ => ⟨vq (n := 560) (by decide), ?_⟩, fun q => absurd ((lei (by omega) (by omega)).mpr (Nat.le_refl n)) q⟩
      have Rn := R7.rainA (q := nn) (by omega) n (Nat.le_refl n)
      have ea : τ.1 355 560 - x2 = acc := by
        rw [e560, eF, ← Rn.2.1.hi (x := 560) (by omega) (by omega) (by omega), a6, R7.2.1.hi (x := 560) (by omega) (by omega) (by omega)]
        grind
      have ea : τ.1 355 ((560 : Int32)).toNatClampNeg - x2 = acc := ea
      rw [ea]
      exact h _ _ (hfin (c + 1) _ (by omega) M ((REL.of (by rw [eF]; exact Rn)).mono (c := c) (by omega)))
